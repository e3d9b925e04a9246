/-! the class: layElement of a row; all elements (by hand: wip/whole/gen/c36.py) -/
def laidF (P G : md_S) (i : Nat) (ki : bt) : Prop := (∀ a, a ∉ X_C → G.2 a = P.2 a) ∧ (∀ n ∈ bt_pre ki, G.2 18 n = P.2 18 n) ∧ P.2 18 i = f_heightOf P (nI i) (f_lf ki 0 0 G).1 ∧ ∀ n, n < 60 → f_boxy P n → P.2 14 n = nI i → P.2 15 n = (f_lf ki 0 0 G).2.2 15 n ∧ P.2 16 n = (f_lf ki 0 0 G).2.2 16 n
theorem LE_flex {xs : List Int32} {K : Nat → Prop} {A : cl_A} {P G : md_S} {nn W i : Nat} {ki : bt} (hSP : SP P nn W) (hWO : WO P W) (hnn : nn ≤ 60) (hi : i < nn) (hib : P.2 12 i = 2) (hRi : bt_R (P.2 4) (P.2 5) (P.2 7) (nI i) ki) (hfi : P.2 5 i = bt_hd (-1) ki) (hki : ∀ x ∈ bt_pre ki, x < nn) (hnd : (bt_pre ki).Nodup) (hni : i ∉ bt_pre ki) (hlen : (bt_pre ki).length ≤ 59) (hl1 : l1_ws P ki ≤ 3700) (h14 : ∀ q ∈ bt_rt ki, P.2 14 q.1 = nI i) (hcn : ∀ e, P.2 8 i = nI e → e < 13 → rwF xs K A P nn W i e (21 + 12 * bt_ht ki) ki) (h0 : ki = .leaf () ∨ 1 ≤ bt_ht ki) (hla : laidF P G i ki) : LE xs K A P nn W i ki := by
  intro D e S X Y hD he he13 hLa hX hY Q' hQ
  have hibx : f_boxy P i := Or.inl ((isBox_m (by omega)).mpr (Or.inr hib))
  have hSPi := hSP.1 i hi
  have hed := edges_nz hSPi
  have hdep := dep_12 he13
  have hox : nb ((e + 1) * 67108864 + 59) (X + f_edges P (nI i)) := nb_add hX (nz_nb hed) (Nat.le_refl _) (Nat.le_trans (Nat.le_add_right _ _) hdep) (by decide)
  have hoy : nb ((e + 1) * 67108864 + 59) (Y + f_edges P (nI i)) := nb_add hY (nz_nb hed) (Nat.le_refl _) (Nat.le_trans (Nat.le_add_right _ _) hdep) (by decide)
  obtain ⟨la1, la2, la3, la4⟩ := hla
  obtain ⟨d, rfl⟩ : ∃ d, D = d + 2 + 1 := ⟨D - 3, by omega⟩
  have hcsF : csF P ki ≤ 46600000 := by
    unfold csF
    omega
  have z0 : ∀ C : Nat, nz C 0 := fun C => ⟨by rw [lit_0]; omega, by rw [lit_0]; omega⟩
  refine kk_51 (T := bt_pre ki) hLa hi hibx he he13 _ (fun S1 F1 b0 b1 b2 b5 hb => ⟨fun c => absurd hib c, fun _ => ?_⟩)
  have hL1 := hLa.fr F1
  have hT1 := hL1.1
  have ce : (nI e).toNatClampNeg = e := nI_clamp (by omega)
  obtain ⟨f200, f201, f202, f203, f204, f205, f207, f208, f100, f101, f102, f103, f104, f105, f400, f401, f404⟩ := hb
  obtain ⟨d', rfl⟩ : ∃ d', d = d' + 1 := ⟨d - 1, by omega⟩
  refine cl_intro (ms56 xs) (Nat.le_of_ble_eq_true rfl) (fun hh0 => vc56_0 ⟨hT1.2.2.1 e he13, ?_⟩)
  rw [ce, f200, hT1.cl hi, hT1.fk hi, hfi, f201]
  refine ⟨hT1.n hi, ?_⟩
  have fin : ∀ S2, FR P W (bt_pre ki) (bt_pre ki) (e + 1) S1 S2 → lo_F P W S2 ki (X + f_edges P (nI i)) (Y + f_edges P (nI i)) → nz (0 + csF P ki) (f_lf ki 0 0 G).1 → A = A ∧ S2.1 = S1.1 ∧ ∃ y3, some (Value.int (f_lf ki 0 0 G).1) = some (.int y3) ∧ Q' none A (cl_up S2 3 i (g_fh S2 (nI i) y3)) := by
    intro S2 F2 hlo hnz
    refine ⟨rfl, F2.1.1, _, rfl, ?_⟩
    have hL2 := hL1.fr F2
    have hT2 := hL2.1
    have hnT : ¬ inT P W (bt_pre ki) i := by
      rintro (c | ⟨w, m, c, _⟩)
      · exact hni c
      · omega
    rw [hT2.fh hi, ← la3]
    have x3 : cl_X [3] S2 (cl_up S2 3 i (P.2 18 i)) := cl_X.rf.up (by decide) _ _
    have n3 : ∀ g m, ¬ m = i → (cl_up S2 3 i (P.2 18 i)).2.1 g m = S2.2.1 g m := fun g m hm => cl_up_ne2 _ _ _ _ hm
    have z3 : (cl_up S2 3 i (P.2 18 i)).2.1 3 i = P.2 18 i := cl_up_at _ _ _ _
    generalize cl_up S2 3 i (P.2 18 i) = S3 at x3 n3 z3
    have eq3 : ∀ g, g ≠ 3 → S3.2.1 g = S2.2.1 g := fun g hg => x3.2.2 g (by simp [hg])
    have F3 : FR P W (i :: bt_pre ki) (bt_pre ki) e S2 S3 := ⟨x3.sub (by decide), fun b hb g _ => n3 g b (fun c => hb (Or.inl (by rw [c]; simp))), fun b hb => ⟨n3 2 b (by omega), n3 3 b (by omega)⟩, fun m _ => by rw [eq3 511 (by decide)], fun m _ => by rw [eq3 515 (by decide)], fun g g1 g2 f' _ => by rw [eq3 g (by omega)]⟩
    have FF : FR P W (i :: bt_pre ki) (bt_pre ki) e S S3 := (F1.tr (F2.sub (fun x hx => by simp [hx]) (fun x hx => hx) (by omega))).tr F3
    have hcs : csF P ki + 600000 ≤ cs P i ki := by
      unfold csF cs
      rw [Nat.mul_add, Nat.mul_add]
      omega
    refine hQ S3 FF (by rw [eq3 0 (by decide), F2.2.1 i hnT 0 (by decide)]; exact b0) (by rw [eq3 1 (by decide), F2.2.1 i hnT 1 (by decide)]; exact b1) (by rw [eq3 2 (by decide), F2.2.1 i hnT 2 (by decide)]; exact b2) z3 (by rw [eq3 511 (by decide), F2.2.2.2.1 i (fun c => hni c.1)]; exact b5) ?_ ?_
    · refine lo_F.mv (fun b hb => ?_) (fun m _ => by rw [eq3 511 (by decide)]) hlo
      have : ¬ b = i := by
        rintro rfl
        exact hnT hb
      rw [eq3 0 (by decide), eq3 1 (by decide), eq3 2 (by decide), n3 3 b this]
      exact ⟨rfl, rfl, rfl, rfl⟩
    · rw [la3]
      unfold f_heightOf
      have h3 := hSPi.2.2.2.2.2.1
      have e2 : (2 * f_edges P (nI i)).toInt = 2 * (f_edges P (nI i)).toInt := two_toInt ⟨by omega, by omega⟩
      split
      · refine ⟨?_, ?_⟩
        · rw [more_toInt, e2]
          omega
        · rw [more_toInt, e2]
          omega
      · refine nz_add hnz (C := 118) ⟨by rw [e2]; omega, by rw [e2]; omega⟩ (by omega) (by omega) (by decide)
  rcases h0 with h0 | h0
  · subst h0
    have e0 : (0 : Int32) + (X + f_edges P (nI i)) = X + f_edges P (nI i) := Int32.zero_add _
    exact vc56_16 ⟨fun _ => fin S1 FR.rf trivial (z0 _), fun c => absurd rfl c⟩
  · have key := kk_row (xs := xs) (K := K) (h0 := hh0) (Q := fun v A' N3 => A' = A ∧ N3.1 = S1.1 ∧ ∃ y3, v = some (.int y3) ∧ Q' none A (cl_up N3 3 i (g_fh N3 (nI i) y3))) (A := A) (P := P) (nn := nn) (W := W) (i := i) (f := e) (D := 21 + 12 * bt_ht ki) (d := d') (ox := X + f_edges P (nI i)) (oy := Y + f_edges P (nI i)) hSP hWO hi hib he13 hox hoy (by omega) (by omega) (F := (f_lf ki 0 0 G).2) la4 ki 0 0 G S1 0 0 none none (nI i) (hcn e he he13) hRi hnd (fun x hx => ⟨hki x hx, fun c => hni (by rw [← c]; exact hx)⟩) h14 la1 la2 rfl hL1 f202 f203 (z0 _) (z0 _) (by omega) (by omega) fin
    rw [Int32.zero_add] at key
    exact key
