/-! the class: layElement of a block (by hand: wip/whole/gen/c34.py) -/
theorem cc_bS {xs : List Int32} {K : Nat → Prop} {d : Nat} {A : cl_A} {S : cl_S} {x0 x1 : Int32} (h0 : cl_f S x0) (h1 : cl_n S x1) : ∀ Q', Q' none A (bS S x0 x1) → cl_C xs K (d + 2) 52 [cl_rf A 2 x0, cl_rf A 5 x1] A S Q' := fun Q' h => cc_begin h0 h1 Q' h
/-- the flow of an element that begins -/
def bF (S : cl_S) (P : md_S) (i e : Nat) (ox oy : Int32) : Prop := S.2.1 200 e = nI i ∧ S.2.1 201 e = ox ∧ S.2.1 202 e = oy ∧ S.2.1 203 e = f_inner P (nI i) ∧ S.2.1 204 e = oy ∧ S.2.1 205 e = 0 ∧ S.2.1 207 e = -1 ∧ S.2.1 208 e = -1 ∧ S.2.1 100 e = ox ∧ S.2.1 101 e = f_inner P (nI i) + ox ∧ S.2.1 102 e = -1 ∧ S.2.1 103 e = -1 ∧ S.2.1 104 e = oy ∧ S.2.1 105 e = oy ∧ S.2.1 400 e = -1 ∧ S.2.1 401 e = -1 ∧ S.2.1 404 e = 0
theorem kk_51 {xs : List Int32} {K : Nat → Prop} {A : cl_A} {P : md_S} {nn W i e d : Nat} {T : List Nat} {S : cl_S} {X Y : Int32} (hLa : la_T S P nn W) (hi : i < nn) (hib : f_boxy P i) (he : P.2 8 i = nI e) (he13 : e < 13) : ∀ Q', (∀ S1, FR P W (i :: T) T e S S1 → S1.2.1 0 i = X → S1.2.1 1 i = Y → S1.2.1 2 i = P.2 17 i → S1.2.1 511 i = 1 → bF S1 P i e (X + f_edges P (nI i)) (Y + f_edges P (nI i)) → (¬ P.2 12 i = 2 → cl_C xs K (d + 2) 64 [cl_rf A 3 0, cl_rf A 2 (nI e)] A S1 (fun v A' N2 => A' = A ∧ N2.1 = S1.1 ∧ ∃ y2, v = some (.int y2) ∧ Q' none A (cl_up N2 3 i (g_fh N2 (nI i) y2)))) ∧ (P.2 12 i = 2 → cl_C xs K (d + 2) 56 [cl_rf A 3 0, cl_rf A 2 (nI e)] A S1 (fun v A' N3 => A' = A ∧ N3.1 = S1.1 ∧ ∃ y3, v = some (.int y3) ∧ Q' none A (cl_up N3 3 i (g_fh N3 (nI i) y3))))) → cl_C xs K (d + 2 + 1) 51 [cl_rf A 3 0, cl_rf A 5 (nI i), .int X, .int Y, .int (P.2 17 i)] A S Q' := by
  intro Q' hQ
  have hT0 := hLa.1
  have h60 := hT0.1
  have ci : (nI i).toNatClampNeg = i := hT0.cl hi
  have ce : (nI e).toNatClampNeg = e := nI_clamp (by omega)
  refine cl_intro (ms51 xs) (Nat.le_of_ble_eq_true rfl) (fun h0 => vc51_0 ⟨hT0.n hi, ?_⟩)
  rw [ci, hT0.dep hi, he]
  have lt13 : nI e < 13 := by
    have := nI_ge (a := e) (b := 13) (by omega) (by omega)
    exact Int32.not_le.mp this
  refine ⟨fun c => absurd c (nI_pos (by omega)), fun _ => ⟨hT0.2.1, fun _ => ⟨vp_nI he13 (by decide), hT0.2.2.1 e he13, ?_⟩, fun c => absurd lt13 c⟩⟩
  -- the box
  have xb : cl_X [511, 0, 1, 2] S (cl_up (cl_up (cl_up (cl_up S 511 i 1) 0 i X) 1 i Y) 2 i (P.2 17 i)) := (((cl_X.rf.up (by decide) _ _).up (by decide) _ _).up (by decide) _ _).up (by decide) _ _
  have nb' : ∀ g m, ¬ m = i → (cl_up (cl_up (cl_up (cl_up S 511 i 1) 0 i X) 1 i Y) 2 i (P.2 17 i)).2.1 g m = S.2.1 g m := fun g m hm => by rw [cl_up_ne2 _ _ _ _ hm, cl_up_ne2 _ _ _ _ hm, cl_up_ne2 _ _ _ _ hm, cl_up_ne2 _ _ _ _ hm]
  have b0 : (cl_up (cl_up (cl_up (cl_up S 511 i 1) 0 i X) 1 i Y) 2 i (P.2 17 i)).2.1 0 i = X := by rw [cl_up_ne1 _ _ _ _ (by decide), cl_up_ne1 _ _ _ _ (by decide), cl_up_at]
  have b1 : (cl_up (cl_up (cl_up (cl_up S 511 i 1) 0 i X) 1 i Y) 2 i (P.2 17 i)).2.1 1 i = Y := by rw [cl_up_ne1 _ _ _ _ (by decide), cl_up_at]
  have b2 : (cl_up (cl_up (cl_up (cl_up S 511 i 1) 0 i X) 1 i Y) 2 i (P.2 17 i)).2.1 2 i = P.2 17 i := cl_up_at _ _ _ _
  have b5 : (cl_up (cl_up (cl_up (cl_up S 511 i 1) 0 i X) 1 i Y) 2 i (P.2 17 i)).2.1 511 i = 1 := by rw [cl_up_ne1 _ _ _ _ (by decide), cl_up_ne1 _ _ _ _ (by decide), cl_up_ne1 _ _ _ _ (by decide), cl_up_at]
  generalize cl_up (cl_up (cl_up (cl_up S 511 i 1) 0 i X) 1 i Y) 2 i (P.2 17 i) = Sx at xb nb' b0 b1 b2 b5
  have Fx : FR P W (i :: T) T e S Sx := ⟨xb.sub (by decide), fun b hb g hg => nb' g b (fun c => hb (Or.inl (by rw [c]; simp))), fun b hb => ⟨nb' 2 b (by omega), nb' 3 b (by omega)⟩, fun m hm => nb' 511 m (fun c => hm ⟨by rw [c]; simp, by rw [c]; exact hib⟩), fun m _ => by rw [xb.2.2 515 (by decide)], fun g g1 g2 f' _ => by rw [xb.2.2 g (by simp; omega)]⟩
  have hLx := hLa.fr Fx
  have hTx := hLx.1
  have hfr := hTx.frame hi
  refine cl_C.le (d := 0 + 2) (by omega) (cc_bS (hTx.2.2.1 e he13) (hTx.n hi) _ ?_)
  have xs1 := bS_X Sx (nI e) (nI i)
  have of1 : ∀ g f', ¬ f' = e → (bS Sx (nI e) (nI i)).2.1 g f' = Sx.2.1 g f' := fun g f' hf' => bS_fl (by rw [ce]; exact hf')
  have F1 : FR P W (i :: T) T e Sx (bS Sx (nI e) (nI i)) := FR.flow xs1 (by decide) (fun g _ _ f' hf' => of1 g f' (by omega))
  have hbF : bF (bS Sx (nI e) (nI i)) P i e (X + f_edges P (nI i)) (Y + f_edges P (nI i)) := by
    have hin : f_more 0 (Sx.2.1 2 i - 2 * g_frame Sx (nI i)) = f_inner P (nI i) := by
      rw [b2, hfr]
      unfold f_inner
      rw [ci]
    refine ⟨bS_200 ce ci, ?_, ?_, ?_, ?_, bS_205 ce ci, bS_207 ce ci, bS_208 ce ci, ?_, ?_, bS_102 ce ci, bS_103 ce ci, ?_, ?_, bS_400 ce ci, bS_401 ce ci, bS_404 ce ci⟩
    · rw [bS_201 ce ci, b0, hfr]
    · rw [bS_202 ce ci, b1, hfr]
    · rw [bS_203 ce ci, hin]
    · rw [bS_204 ce ci, b1, hfr]
    · rw [bS_100 ce ci, b0, hfr]
    · rw [bS_101 ce ci, b0, hin, hfr]; exact Int32.add_comm _ _
    · rw [bS_104 ce ci, b1, hfr]
    · rw [bS_105 ce ci, b1, hfr]
  generalize bS Sx (nI e) (nI i) = S1 at xs1 of1 F1 hbF
  have F := Fx.tr F1
  have hL1 := hLa.fr F
  refine ⟨rfl, F.1.1, rfl, ?_⟩
  have e509 := (hL1.2.1 i hi).1
  rw [e509]
  have hm : ro (P.2 12 i) = 2 ↔ P.2 12 i = 2 := by
    rcases hib with c | c
    · rw [isBox_m (by omega)] at c
      rcases c with c | c <;> rw [c] <;> decide
    · rw [c]; decide
  obtain ⟨h1, h2⟩ := hQ S1 F (by rw [xs1.2.2 0 (by decide)]; exact b0) (by rw [xs1.2.2 1 (by decide)]; exact b1) (by rw [xs1.2.2 2 (by decide)]; exact b2) (by rw [xs1.2.2 511 (by decide)]; exact b5) hbF
  exact ⟨fun c => h1 (fun r => c (hm.mpr r)), fun c => h2 (hm.mp (Classical.not_not.mp c))⟩
/-- the reference's ghost of a block -/
noncomputable def ghB (P G : md_S) (i : Nat) (ki : bt) : lb_S × md_S := f_lb i (lb_th P ki (-1)) ki false (0, -1, 0, 1, 0) (lb_M0 G i)
/-- what the reference's laying of block i has left in P -/
def laidB (P G : md_S) (W i : Nat) (ki : bt) : Prop := (∀ a, a ∉ X_C → G.2 a = P.2 a) ∧ (∀ n ∈ bt_pre ki, G.2 18 n = P.2 18 n) ∧ P.2 18 i = f_heightOf P (nI i) (lb_in (ghB P G i ki).2 (ghB P G i ki).1) ∧ (∀ n, n < 60 → f_boxy P n → P.2 14 n = nI i → P.2 15 n = (ghB P G i ki).2.2 15 n ∧ P.2 16 n = (ghB P G i ki).2.2 16 n) ∧ ∀ w n, w < W → n < 60 → P.2 30 w = nI n → P.2 14 n = nI i → P.2 33 w = (ghB P G i ki).2.2 33 w ∧ P.2 34 w = (ghB P G i ki).2.2 34 w
theorem LE_block {xs : List Int32} {K : Nat → Prop} {A : cl_A} {P G : md_S} {nn W i W0 : Nat} {ki : bt} {wd : Int32} (hSP : SP P nn W) (hP : cl_P P nn) (hWO : WO P W) (hW : W ≤ 3700) (hnn : nn ≤ 60) (hi : i < nn) (hib : P.2 12 i = 1) (hRi : bt_R (P.2 4) (P.2 5) (P.2 7) (nI i) ki) (hfi : P.2 5 i = bt_hd (-1) ki) (hki : ∀ x ∈ bt_pre ki, x < nn) (hnd : (bt_pre ki).Nodup) (hni : i ∉ bt_pre ki) (hlen : (bt_pre ki).length ≤ 59) (hl1 : l1_F wd P ki W0) (hW0 : W0 + l1_ws P ki ≤ 3700) (hdr : drF P i ki) (hcn : ∀ e, P.2 8 i = nI e → e < 13 → cnF xs K A P nn W i e (21 + 12 * bt_ht ki) (bt_pre ki) ki) (hla : laidB P G W i ki) : LE xs K A P nn W i ki := by
  intro D e S X Y hD he he13 hLa hX hY Q' hQ
  have hibx : f_boxy P i := Or.inl ((isBox_m (by omega)).mpr (Or.inl hib))
  have hSPi := hSP.1 i hi
  have hed := edges_nz hSPi
  have hdep := dep_12 he13
  have hox : nb ((e + 1) * 67108864 + 59) (X + f_edges P (nI i)) := nb_add hX (nz_nb hed) (Nat.le_refl _) (Nat.le_trans (Nat.le_add_right _ _) hdep) (by decide)
  have hoy : nb ((e + 1) * 67108864 + 59) (Y + f_edges P (nI i)) := nb_add hY (nz_nb hed) (Nat.le_refl _) (Nat.le_trans (Nat.le_add_right _ _) hdep) (by decide)
  have hin := inner_nz hSPi (by omega) hibx
  obtain ⟨la1, la2, la3, la4, la5⟩ := hla
  obtain ⟨d, rfl⟩ : ∃ d, D = d + 2 + 1 := ⟨D - 3, by omega⟩
  have hcsG : csG P ki ≤ 46600000 := by
    unfold csG csF
    omega
  refine kk_51 (T := bt_pre ki) hLa hi hibx he he13 _ (fun S1 F1 b0 b1 b2 b5 hb => ⟨fun _ => ?_, fun c => by rw [hib] at c; exact absurd c (by decide)⟩)
  have hL1 := hLa.fr F1
  obtain ⟨f200, f201, f202, f203, f204, f205, f207, f208, f100, f101, f102, f103, f104, f105, f400, f401, f404⟩ := hb
  have hst : si_st P (lb_M0 G i) (bt_pre ki) := ⟨fun a ha => la1 a ha, fun n hn => la2 n hn⟩
  have e55 : (lb_M0 G i).1 55 = f_inner P (nI i) := by
    unfold lb_M0
    rw [md_up1_ne _ (by decide), md_up1_ne _ (by decide), md_up1_at]
    unfold f_inner f_edges
    rw [la1 17 (by decide), of_same (la1 9 (by decide)), of_same (la1 9 (by decide))]
  have e43 : (lb_M0 G i).1 43 = f_of P (nI i) 7 := by
    unfold lb_M0
    rw [md_up1_ne _ (by decide), md_up1_at, of_same (la1 9 (by decide))]
  have e46 : (lb_M0 G i).1 46 = 0 := by
    unfold lb_M0
    rw [md_up1_at]
  have z0 : ∀ C : Nat, nz C 0 := fun C => ⟨by rw [lit_0]; omega, by rw [lit_0]; omega⟩
  have hfl0 : md_flts (lb_M0 G i) 0 = [] := rfl
  have hsb : SMb xs K A P nn W i e (21 + 12 * bt_ht ki) (bt_pre ki) (X + f_edges P (nI i)) (Y + f_edges P (nI i)) S1 (lb_M0 G i) (0, -1, 0, 1, 0) [] [] [] 250000 := by
    refine ⟨hL1, hst, ⟨f200, f201, f202, by rw [f203, e55], e55, e43, f100, by rw [f101, e55]⟩, ⟨e46, by decide, f102, f103, trivial, ?_, ?_, (fun q hq => by cases hq)⟩, ⟨f400, f401, f404, f207, f208⟩, ⟨?_, f205⟩, by rw [e55]; exact nz_nb hin, ⟨(fun q hq => by cases hq), (fun q hq => by cases hq), (fun w hw => by cases hw)⟩, ⟨(fun q hq => by cases hq), (fun q hq => by cases hq), (fun n hn => by cases hn), (fun q hq => by cases hq), List.nodup_nil, (fun b hb => by cases hb), List.nodup_nil, (fun w hw => by cases hw), hki, hW, hnn⟩, Nat.le_refl _, z0 _, z0 _⟩
    · show S1.2.1 104 e = sp_tops (md_flts (lb_M0 G i) 0) 0 + _
      rw [hfl0]
      show S1.2.1 104 e = 0 + _
      rw [Int32.zero_add]; exact f104
    · show S1.2.1 105 e = lb_end (md_flts (lb_M0 G i) 0) 0 + _
      rw [hfl0]
      show S1.2.1 105 e = 0 + _
      rw [Int32.zero_add]; exact f105
    · show S1.2.1 204 e = 0 + _
      rw [Int32.zero_add]; exact f204
  refine kk_layDown (wd := wd) hSP hP hi hib he13 hox hoy (by omega) (by omega) hRi hfi hki (hcn e he he13) hnd hl1 hW0 hlen (by omega) hsb _ (fun S2 l' V' VW' B' F2 hpl hcv hin2 hB' hds => ⟨rfl, F2.1.1, _, rfl, ?_⟩)
  have hL2 := hL1.fr F2
  have hT2 := hL2.1
  have hnT : ¬ inT P W (bt_pre ki) i := by
    rintro (c | ⟨w, m, c, _⟩)
    · exact hni c
    · omega
  have ehh : g_fh S2 (nI i) (lb_in (ghB P G i ki).2 (ghB P G i ki).1) = P.2 18 i := by rw [hT2.fh hi, la3]
  change Q' none A (cl_up S2 3 i (g_fh S2 (nI i) (lb_in (ghB P G i ki).2 (ghB P G i ki).1)))
  rw [ehh]
  have hlo := lo_of hWO hpl la4 la5 ki hdr hcv
  have x3 : cl_X [3] S2 (cl_up S2 3 i (P.2 18 i)) := cl_X.rf.up (by decide) _ _
  have n3 : ∀ g m, ¬ m = i → (cl_up S2 3 i (P.2 18 i)).2.1 g m = S2.2.1 g m := fun g m hm => cl_up_ne2 _ _ _ _ hm
  have z3 : (cl_up S2 3 i (P.2 18 i)).2.1 3 i = P.2 18 i := cl_up_at _ _ _ _
  generalize cl_up S2 3 i (P.2 18 i) = S3 at x3 n3 z3
  have eq3 : ∀ g, g ≠ 3 → S3.2.1 g = S2.2.1 g := fun g hg => x3.2.2 g (by simp [hg])
  have F3 : FR P W (i :: bt_pre ki) (bt_pre ki) e S2 S3 := ⟨x3.sub (by decide), fun b hb g _ => n3 g b (fun c => hb (Or.inl (by rw [c]; simp))), fun b hb => ⟨n3 2 b (by omega), n3 3 b (by omega)⟩, fun m _ => by rw [eq3 511 (by decide)], fun m _ => by rw [eq3 515 (by decide)], fun g g1 g2 f' _ => by rw [eq3 g (by omega)]⟩
  have FF : FR P W (i :: bt_pre ki) (bt_pre ki) e S S3 := (F1.tr (F2.sub (fun x hx => by simp [hx]) (fun x hx => hx) (Nat.le_refl _))).tr F3
  have hcs : csF P ki + 600000 ≤ cs P i ki := by
    unfold csF cs
    rw [Nat.mul_add, Nat.mul_add]
    omega
  refine hQ S3 FF (by rw [eq3 0 (by decide), F2.2.1 i hnT 0 (by decide)]; exact b0) (by rw [eq3 1 (by decide), F2.2.1 i hnT 1 (by decide)]; exact b1) (by rw [eq3 2 (by decide), F2.2.1 i hnT 2 (by decide)]; exact b2) z3 (by rw [eq3 511 (by decide), F2.2.2.2.1 i (fun c => hni c.1)]; exact b5) ?_ ?_
  · refine lo_F.mv (fun b hb => ?_) (fun m _ => by rw [eq3 511 (by decide)]) hlo
    have : ¬ b = i := by
      rintro rfl
      exact hnT hb
    rw [eq3 0 (by decide), eq3 1 (by decide), eq3 2 (by decide), n3 3 b this]
    exact ⟨rfl, rfl, rfl, rfl⟩
  · rw [la3]
    unfold f_heightOf
    have h3 := hSPi.2.2.2.2.2.1
    have e2 : (2 * f_edges P (nI i)).toInt = 2 * (f_edges P (nI i)).toInt := two_toInt ⟨by omega, by omega⟩
    have hG : csG P ki ≤ csF P ki + 2950 := by
      unfold csG
      omega
    split
    · refine ⟨?_, ?_⟩
      · rw [more_toInt, e2]
        omega
      · rw [more_toInt, e2]
        omega
    · have hin2 : nz (B' + 50) (lb_in (ghB P G i ki).2 (ghB P G i ki).1) := hin2
      refine nz_add hin2 (C := 118) ⟨by rw [e2]; omega, by rw [e2]; omega⟩ (by omega) (by omega) (by decide)
