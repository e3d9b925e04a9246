/-! the class: addItem (by hand: wip/whole/gen/c19.py) -/
section PLG
variable (M : md_S) (a w at_ : Int32) (L : Nat)
theorem add_1 {g : Nat} (h : g ∉ [40, 41, 42]) : (f_add_M M L a at_ w).1 g = M.1 g := by
  simp only [List.mem_cons, List.not_mem_nil, or_false, not_or] at h
  unfold f_add_M
  rw [md_up1_ne _ h.2.2, md_up1_ne _ h.1, md_up1_ne _ h.2.1]
  rfl
theorem add_2 {q : Nat} (h : q ∉ [44, 45]) : (f_add_M M L a at_ w).2 q = M.2 q := by
  simp only [List.mem_cons, List.not_mem_nil, or_false, not_or] at h
  unfold f_add_M
  rw [md_up1_2, md_up1_2, md_up1_2, md_up2_ne _ h.2, md_up2_ne _ h.1]
theorem add_40 : (f_add_M M L a at_ w).1 40 = at_ + w := by
  unfold f_add_M
  rw [md_up1_ne _ (by decide), md_up1_at]
theorem add_41 : (f_add_M M L a at_ w).1 41 = nI (L + 1) := by
  unfold f_add_M
  rw [md_up1_ne _ (by decide), md_up1_ne _ (by decide), md_up1_at]
theorem add_42 : (f_add_M M L a at_ w).1 42 = f_more (M.1 42) (f_itemHigh M a) := by
  unfold f_add_M
  rw [md_up1_at]
theorem add_44 (k : Nat) : (f_add_M M L a at_ w).2 44 k = if k = L then a else M.2 44 k := by
  unfold f_add_M
  rw [md_up1_2, md_up1_2, md_up1_2, md_up2_ne _ (by decide)]
  by_cases c : k = L
  · rw [c, if_pos rfl, md_up2_at]
  · rw [if_neg c, md_up2_off _ _ c]
theorem add_45 (k : Nat) : (f_add_M M L a at_ w).2 45 k = if k = L then at_ else M.2 45 k := by
  unfold f_add_M
  rw [md_up1_2, md_up1_2, md_up1_2]
  by_cases c : k = L
  · rw [c, if_pos rfl, md_up2_at]
  · rw [if_neg c, md_up2_off _ _ c, md_up2_ne _ (by decide)]
end PLG
theorem kk_place {xs : List Int32} {K : Nat → Prop} {A : cl_A} {P : md_S} {nn W i f D d : Nat} {T : List Nat} {ox oy : Int32} {S : cl_S} {M : md_S} {l : List Nat} {b : Nat} {V : List (Nat × bt)} {VW : List Nat} {B C : Nat} {a w : Int32} {Q : Option Value → cl_A → cl_S → Prop} (hf13 : f < 13) (hox : nb ((f + 1) * 67108864 + 59) ox) (hoy : nb ((f + 1) * 67108864 + 59) oy) (h : SMl xs K A P nn W i f D T ox oy S M l [] [] [b] V VW B) (hit : it_b W a b) (hbw2 : S.2.1 2 b = w) (hbh : S.2.1 3 b = f_itemHigh P a) (hM : f_itemHigh M a = f_itemHigh P a) (hw : nz 250000 w) (hwC : w.toInt ≤ C) (hh : nz C (f_itemHigh P a)) (hC : 1 ≤ C) (hB : B + C ≤ 67108000) (hV : V.length < 60) (hd : 4 ≤ d)
    (hQ : ∀ S', FR P W T T f S S' → S'.2.1 206 f = S.2.1 206 f → SMl xs K A P nn W i f D T ox oy S' (md_up1 (f_place_M M a w) 54 0) l [] [b] [] V VW (B + C) → Q none A S') :
    cl_C xs K d 69 [cl_rf A 1 (nI f), .int (S.2.1 2 b), .int (S.2.1 204 f)] A S (fun v A' N3 => A' = A ∧ N3.1 = S.1 ∧ ∃ y3, v = some (.int y3) ∧ (cl_C xs K d 75 [cl_rf A 1 (nI f), .int y3] A (cl_up N3 204 f y3) (fun v A' N4 => A' = A ∧ N4.1 = N3.1 ∧ ∃ y4, v = some (.int y4) ∧ (cl_C xs K d 74 [cl_rf A 1 (nI f), .int (N4.2.1 204 f)] A N4 (fun v A' N5 => A' = A ∧ N5.1 = N4.1 ∧ ∃ y5, v = some (.int y5) ∧ (cl_C xs K d 82 [cl_rf A 4 (nI f), cl_rf A 0 (nI b), .int 0] A (cl_up (cl_up N5 403 f y4) 402 f y5) (fun v A' N6 => A' = A ∧ N6.1 = N5.1 ∧ v = none ∧ (Q none A N6)))))))) := by
  obtain ⟨g1, g2, g3, g4, g5, g6, g7, g8, g9, g10, g11, g12, g13⟩ := id h
  have hT := g1.1
  have hdep := dep_12 hf13
  have hbox : bd ox := nb_bd hox hdep
  have hboy : bd oy := nb_bd hoy hdep
  obtain ⟨a1, a2, a3, a4, a5, a6, a7, a8⟩ := g4
  obtain ⟨q1, q2, q3, q4, q5, q6, q7, q8, q9, q10, q11⟩ := g6
  obtain ⟨w1, w2, w3, w4, w5, w6, w7, w8⟩ := g3
  have hlm : ∀ m ∈ l, m < nn := fun m hm => by
    obtain ⟨k, hk, _⟩ := g10.2.2.1 m hm
    exact g10.2.2.2.2.2.2.2.2.1 _ (g10.1 _ hk m (by simp))
  have hbdw : bd (M.1 55) := nb_bd g8 (by omega)
  have e46 : (M.1 46).toNatClampNeg = l.length := by rw [a1, nI_clamp (by omega)]
  rw [hbw2, g7.1]
  refine cl_C.le (d := 0 + 4) (by omega) (kk_room hT hf13 (nz_bd hw (by decide)) hbdw hbox hboy a3 a5 hlm w7 w8 (nz_bd q9 (by omega)) (nz_le q9) (by omega) _ ⟨rfl, rfl, _, rfl, ?_⟩)
  have ey : sp_room (M.1 55) w (md_flts M l.length) (M.1 37) = f_plAt M w := by
    unfold f_plAt
    rw [e46]
  rw [ey]
  have hy : nz B (f_plAt M w) := by
    rw [← ey]
    exact room_nz a8 _ _ q9
  have ee : sp_edges (M.1 55) (f_plAt M w) (md_flts M l.length) = f_plE M w := by
    unfold f_plE
    rw [e46]
  have hed : nb B (f_plE M w).1 ∧ nb B (f_plE M w).2 := by
    rw [← ee]
    exact edges_nb (y := f_plAt M w) (md_flts M l.length) (0, M.1 55) a8 ⟨by show _ ≤ (0 : Int32).toInt; rw [lit_0]; omega, by show (0 : Int32).toInt ≤ _; rw [lit_0]; omega⟩ g8
  have x1 : cl_X [204] S (cl_up S 204 f (f_plAt M w + oy)) := cl_X.rf.up (by decide) _ _
  have z1 : (cl_up S 204 f (f_plAt M w + oy)).2.1 204 f = f_plAt M w + oy := cl_up_at _ _ _ _
  have o1 : ∀ f', ¬ f' = f → (cl_up S 204 f (f_plAt M w + oy)).2.1 204 f' = S.2.1 204 f' := fun f' hf' => cl_up_ne2 _ _ _ _ hf'
  generalize cl_up S 204 f (f_plAt M w + oy) = S1 at x1 z1 o1
  have eq1 : ∀ g, g ≠ 204 → S1.2.1 g = S.2.1 g := fun g hg => x1.2.2 g (by simp [hg])
  have hT1 : cl_T S1 P nn := hT.x x1 (by decide)
  have c1 : chn (S1.2.1 515) l (S1.2.1 102 f) := by rw [eq1 515 (by decide), eq1 102 (by decide)]; exact a3
  have l1 : fl_L S1 P ox oy l (md_flts M l.length) := fl_L_mv (fun m _ => by rw [eq1 0 (by decide), eq1 1 (by decide), eq1 2 (by decide), eq1 3 (by decide)]; exact ⟨rfl, rfl, rfl, rfl⟩) a5
  refine cl_C.le (d := 0 + 3) (by omega) (kk_left (bw := M.1 55) hT1 hf13 (nz_bd hy (by omega)) hbdw hbox hboy c1 l1 hlm (by rw [eq1 100 (by decide)]; exact w7) _ ⟨rfl, x1.1.symm ▸ rfl, _, rfl, ?_⟩)
  rw [ee, z1]
  refine cl_C.le (d := 0 + 3) (by omega) (kk_right hT1 hf13 (nz_bd hy (by omega)) hbdw hbox hboy c1 l1 hlm (by rw [eq1 101 (by decide)]; exact w8) _ ⟨rfl, rfl, _, rfl, ?_⟩)
  rw [ee]
  have x2 : cl_X [402, 403] S1 (cl_up (cl_up S1 403 f ((f_plE M w).1 + ox)) 402 f ((f_plE M w).2 + ox)) := (cl_X.rf.up (by decide) _ _).up (by decide) _ _
  have z3 : (cl_up (cl_up S1 403 f ((f_plE M w).1 + ox)) 402 f ((f_plE M w).2 + ox)).2.1 403 f = (f_plE M w).1 + ox := by rw [cl_up_ne1 _ _ _ _ (by decide), cl_up_at]
  have z2 : (cl_up (cl_up S1 403 f ((f_plE M w).1 + ox)) 402 f ((f_plE M w).2 + ox)).2.1 402 f = (f_plE M w).2 + ox := cl_up_at _ _ _ _
  have o2 : ∀ g f', ¬ f' = f → (cl_up (cl_up S1 403 f ((f_plE M w).1 + ox)) 402 f ((f_plE M w).2 + ox)).2.1 g f' = S1.2.1 g f' := fun g f' hf' => by rw [cl_up_ne2 _ _ _ _ hf', cl_up_ne2 _ _ _ _ hf']
  generalize cl_up (cl_up S1 403 f ((f_plE M w).1 + ox)) 402 f ((f_plE M w).2 + ox) = S2 at x2 z3 z2 o2
  have x12 : cl_X [204, 402, 403] S S2 := (x1.sub (by decide)).tr (x2.sub (by decide))
  have eq2 : ∀ g, g ∉ [204, 402, 403] → S2.2.1 g = S.2.1 g := x12.2.2
  have hbl4 := g10.blv g1 (b := b) (by simp)
  have hf2 : cl_f S2 (nI f) := (hT.2.2.1 f hf13).mv x12.1
  refine cl_C.le (d := 0 + 1) (by omega) (kk_ladd (gap := 0) (l := []) hf2 hf13 (hbl4.2.mv x12.1) hbl4.1 (fun m hm => by cases hm) List.nodup_nil (by simp) (by rw [eq2 4 (by decide), eq2 400 (by decide)]; exact q3) (by rw [eq2 401 (by decide)]; exact q4) _ (fun S' k1 k2 k3 k4 k5 k6 k7 k8 k9 => ⟨rfl, k1.1.trans (x2.1), rfl, ?_⟩))
  have hN := SMl.item (S1 := S2) (S' := S') (C := C) (w := w) (at_ := (f_plE M w).1) (y := f_plAt M w) (e39 := (f_plE M w).2) h hit hbw2 hbh hM hh (nb_add hed.1 ⟨by have := hw.1; omega, hwC⟩ (Nat.le_refl _) (by omega) (by omega)) hed.2 hy (Or.inl rfl) hC (Or.inl rfl) x12 (fun g a1 a2 f' hf' => by
      rw [o2 g f' hf']
      by_cases c : g = 204
      · rw [c]; exact o1 f' hf'
      · rw [eq1 g c]) (by rw [x2.2.2 204 (by decide)]; exact z1) z2 k1 k2 (fun m hm _ => k3 m hm (by simp)) k4 k5 k6 (by rw [k7, z3, Int32.add_zero]) (by rw [k8, z3, Int32.add_zero, eq2 2 (by decide), hbw2]) k9 (md_up1 (f_place_M M a w) 54 0)
      (fun g hg => by
        simp only [List.mem_cons, List.not_mem_nil, or_false, not_or] at hg
        rw [md_up1_ne _ hg.2.2.2.2.2.2]
        unfold f_place_M
        rw [add_1 _ _ _ _ _ (by simp [hg])]
        simp [f_pl, hg])
      (fun q hq => by
        rw [md_up1_2]
        unfold f_place_M
        rw [add_2 _ _ _ _ _ hq]
        rfl)
      (by rw [md_up1_ne _ (by decide)]; unfold f_place_M; rw [add_1 _ _ _ _ _ (by decide)]; rfl)
      (by rw [md_up1_ne _ (by decide)]; unfold f_place_M; rw [add_1 _ _ _ _ _ (by decide)]; rfl)
      (by rw [md_up1_ne _ (by decide)]; unfold f_place_M; rw [add_40])
      (by rw [md_up1_ne _ (by decide)]; unfold f_place_M; rw [add_41]; rfl)
      (by rw [md_up1_ne _ (by decide)]; unfold f_place_M; rw [add_42]; rfl)
      (fun k => by rw [md_up1_2]; unfold f_place_M; rw [add_44]; rfl)
      (fun k => by rw [md_up1_2]; unfold f_place_M; rw [add_45]; rfl)
  exact hQ S' hN.1 (by rw [k1.2.2 206 (by decide), eq2 206 (by decide)]) hN.2
set_option maxHeartbeats 1000000 in
theorem vc80_0 {xs : List Int32} {K : Nat → Prop} {h0 : am_H} {d : Nat} {Q : Option Value → cl_A → cl_S → Prop} {A : cl_A} {S : cl_S} {x1 : Int32} {x2 : Int32} {x3 : Int32}
    (k : (cl_f S x1) ∧ (∀ s1 : Int32, s1 = (if (S.2.1 206 x1.toNatClampNeg) = 0 then 0 else (3 * x3)) → (((¬ (g_empty S x1) = 0) → (cl_z S) ∧ (cl_C xs K (d + 2) 83 [cl_rf A 3 0, cl_rf A 2 x1] A (cl_up S 206 x1.toNatClampNeg 0) (fun v A' N2 => A' = A ∧ N2.1 = S.1 ∧ v = none ∧ ((cl_lv N2 0 x2) ∧ (cl_C xs K (d + 2) 69 [cl_rf A 1 x1, .int (N2.2.1 2 x2.toNatClampNeg), .int (N2.2.1 204 x1.toNatClampNeg)] A N2 (fun v A' N3 => A' = A ∧ N3.1 = N2.1 ∧ ∃ y3, v = some (.int y3) ∧ (cl_C xs K (d + 2) 75 [cl_rf A 1 x1, .int y3] A (cl_up N3 204 x1.toNatClampNeg y3) (fun v A' N4 => A' = A ∧ N4.1 = N3.1 ∧ ∃ y4, v = some (.int y4) ∧ (cl_C xs K (d + 2) 74 [cl_rf A 1 x1, .int (N4.2.1 204 x1.toNatClampNeg)] A N4 (fun v A' N5 => A' = A ∧ N5.1 = N4.1 ∧ ∃ y5, v = some (.int y5) ∧ (cl_C xs K (d + 2) 82 [cl_rf A 4 x1, cl_rf A 0 x2, .int 0] A (cl_up (cl_up N5 403 x1.toNatClampNeg y4) 402 x1.toNatClampNeg y5) (fun v A' N6 => A' = A ∧ N6.1 = N5.1 ∧ v = none ∧ (Q none A N6))))))))))))) ∧ (¬ (¬ (g_empty S x1) = 0) → (cl_lv S 0 x2) ∧ ((((g_takes S x1 (s1 + (S.2.1 2 x2.toNatClampNeg))) = 0) → (cl_z S) ∧ (cl_C xs K (d + 2) 83 [cl_rf A 3 0, cl_rf A 2 x1] A (cl_up S 206 x1.toNatClampNeg 0) (fun v A' N7 => A' = A ∧ N7.1 = S.1 ∧ v = none ∧ (cl_C xs K (d + 2) 69 [cl_rf A 1 x1, .int (N7.2.1 2 x2.toNatClampNeg), .int (N7.2.1 204 x1.toNatClampNeg)] A N7 (fun v A' N8 => A' = A ∧ N8.1 = N7.1 ∧ ∃ y8, v = some (.int y8) ∧ (cl_C xs K (d + 2) 75 [cl_rf A 1 x1, .int y8] A (cl_up N8 204 x1.toNatClampNeg y8) (fun v A' N9 => A' = A ∧ N9.1 = N8.1 ∧ ∃ y9, v = some (.int y9) ∧ (cl_C xs K (d + 2) 74 [cl_rf A 1 x1, .int (N9.2.1 204 x1.toNatClampNeg)] A N9 (fun v A' N10 => A' = A ∧ N10.1 = N9.1 ∧ ∃ y10, v = some (.int y10) ∧ (cl_C xs K (d + 2) 82 [cl_rf A 4 x1, cl_rf A 0 x2, .int 0] A (cl_up (cl_up N10 403 x1.toNatClampNeg y9) 402 x1.toNatClampNeg y10) (fun v A' N11 => A' = A ∧ N11.1 = N10.1 ∧ v = none ∧ (Q none A N11)))))))))))) ∧ (¬ ((g_takes S x1 (s1 + (S.2.1 2 x2.toNatClampNeg))) = 0) → cl_C xs K (d + 2) 82 [cl_rf A 4 x1, cl_rf A 0 x2, .int s1] A (cl_up S 206 x1.toNatClampNeg 0) (fun v A' N12 => A' = A ∧ N12.1 = S.1 ∧ v = none ∧ (Q none A N12)))))))) :
    cl_wp xs K h0 (d + 2) Q I80 0 [some (cl_rf A 3 0), some (cl_rf A 2 x1), some (cl_rf A 0 x2), some (.int x3), none] [] A S := by
  refine cl_aload_n (dd D80_ok 0 rfl) rfl ?_
  refine cl_gI (g := 206) (e := S.2.1 206 x1.toNatClampNeg) (dd D80_ok 1 rfl) pl3_294 (by decide) (by decide) (by decide) rfl rfl k.1.l2 rfl ?_
  have J1 : ∀ s1 : Int32, s1 = (if (S.2.1 206 x1.toNatClampNeg) = 0 then 0 else (3 * x3)) → cl_wp xs K h0 (d + 2) Q I80 14 [some (cl_rf A 3 0), some (cl_rf A 2 x1), some (cl_rf A 0 x2), some (.int x3), none] [.int s1] A S := by
    intro s1 e_s1
    refine cl_istore (dd D80_ok 8 rfl) (Nat.le_of_ble_eq_true rfl) ?_
    refine cl_aload_n (dd D80_ok 9 rfl) rfl ?_
    refine cl_iconst (v := 0) (dd D80_ok 10 rfl) (by decide) ?_
    refine cl_pI (g := 206) (dd D80_ok 11 rfl) pl3_294 (by decide) (by decide) rfl rfl rfl rfl rfl k.1.l2 ?_
    refine cl_aload_n (dd D80_ok 12 rfl) rfl ?_
    refine cl_getO (g := 4) (dd D80_ok 13 rfl) pl3_242 (by decide) (by decide) (by decide) rfl k.1.l2 ?_
    refine cl_callP (r := .int (g_empty S x1)) (as := []) (rest := []) (v := x1) (dd D80_ok 14 rfl) pl3_246 rfl (Nat.le_of_ble_eq_true rfl) (ms67 xs) rfl (by decide) k.1.l4 (cc_g_empty (S := cl_up S 206 x1.toNatClampNeg 0) k.1) rfl ?_
    refine cl_if_ne (tgt := 59) (dd D80_ok 15 rfl) (by decide) (fun c2 => ?_) (fun c2 => ?_)
    · refine cl_aload_n (dd D80_ok 30 rfl) rfl ?_
      refine cl_aload_n (dd D80_ok 31 rfl) rfl ?_
      refine cl_call (as := [cl_rf A 2 x1]) (rest := []) (v := 0) (dd D80_ok 32 rfl) pl3_206 rfl (Nat.le_of_ble_eq_true rfl) (ms83 xs) rfl (by decide) ((k.2 s1 e_s1).1 c2).1.l3 ((((k.2 s1 e_s1).1 c2).2).mono ?_) rfl
      rintro v A N2 ⟨rfl, e2, rfl, w2⟩
      refine cl_aload_n (dd D80_ok 33 rfl) rfl ?_
      refine cl_aload_n (dd D80_ok 34 rfl) rfl ?_
      refine cl_getO (g := 1) (dd D80_ok 35 rfl) pl3_230 (by decide) (by decide) (by decide) rfl (k.1.mv e2).l2 ?_
      refine cl_aload_n (dd D80_ok 36 rfl) rfl ?_
      refine cl_gI (g := 2) (e := N2.2.1 2 x2.toNatClampNeg) (dd D80_ok 37 rfl) pl3_132 (by decide) (by decide) (by decide) rfl rfl w2.1 rfl ?_
      refine cl_aload_n (dd D80_ok 38 rfl) rfl ?_
      refine cl_gI (g := 204) (e := N2.2.1 204 x1.toNatClampNeg) (dd D80_ok 39 rfl) pl3_229 (by decide) (by decide) (by decide) rfl rfl (k.1.mv e2).l2 rfl ?_
      refine cl_call (as := [.int (N2.2.1 2 x2.toNatClampNeg), .int (N2.2.1 204 x1.toNatClampNeg)]) (rest := [cl_rf A 2 x1]) (v := x1) (dd D80_ok 40 rfl) pl3_264 rfl (Nat.le_of_ble_eq_true rfl) (ms69 xs) rfl (by decide) (k.1.mv e2).l1 ((w2.2).mono ?_) rfl
      rintro v A N3 ⟨rfl, e3, y3, rfl, w3⟩
      refine cl_pI (g := 204) (dd D80_ok 41 rfl) pl3_229 (by decide) (by decide) rfl rfl rfl rfl rfl ((k.1.mv e2).mv e3).l2 ?_
      refine cl_aload_n (dd D80_ok 42 rfl) rfl ?_
      refine cl_getO (g := 4) (dd D80_ok 43 rfl) pl3_242 (by decide) (by decide) (by decide) rfl ((k.1.mv e2).mv e3).l2 ?_
      refine cl_aload_n (dd D80_ok 44 rfl) rfl ?_
      refine cl_getO (g := 1) (dd D80_ok 45 rfl) pl3_230 (by decide) (by decide) (by decide) rfl ((k.1.mv e2).mv e3).l2 ?_
      refine cl_aload_n (dd D80_ok 46 rfl) rfl ?_
      refine cl_gI (g := 204) (e := y3) (dd D80_ok 47 rfl) pl3_229 (by decide) (by decide) (by decide) rfl rfl ((k.1.mv e2).mv e3).l2 (by first | rfl | simp [cl_up]) ?_
      refine cl_call (as := [.int y3]) (rest := [cl_rf A 4 x1]) (v := x1) (dd D80_ok 48 rfl) pl3_267 rfl (Nat.le_of_ble_eq_true rfl) (ms75 xs) rfl (by decide) ((k.1.mv e2).mv e3).l1 ((w3).mono ?_) rfl
      rintro v A N4 ⟨rfl, e4, y4, rfl, w4⟩
      refine cl_aload_n (dd D80_ok 49 rfl) rfl ?_
      refine cl_getO (g := 1) (dd D80_ok 50 rfl) pl3_230 (by decide) (by decide) (by decide) rfl (((k.1.mv e2).mv e3).mv e4).l2 ?_
      refine cl_aload_n (dd D80_ok 51 rfl) rfl ?_
      refine cl_gI (g := 204) (e := N4.2.1 204 x1.toNatClampNeg) (dd D80_ok 52 rfl) pl3_229 (by decide) (by decide) (by decide) rfl rfl (((k.1.mv e2).mv e3).mv e4).l2 rfl ?_
      refine cl_call (as := [.int (N4.2.1 204 x1.toNatClampNeg)]) (rest := [.int y4, cl_rf A 4 x1]) (v := x1) (dd D80_ok 53 rfl) pl3_270 rfl (Nat.le_of_ble_eq_true rfl) (ms74 xs) rfl (by decide) (((k.1.mv e2).mv e3).mv e4).l1 ((w4).mono ?_) rfl
      rintro v A N5 ⟨rfl, e5, y5, rfl, w5⟩
      refine cl_callU (as := [.int y4, .int y5]) (rest := []) (v := x1) (dd D80_ok 54 rfl) pl3_304 rfl (Nat.le_of_ble_eq_true rfl) (ms87 xs) rfl (by decide) ((((k.1.mv e2).mv e3).mv e4).mv e5).l4 (cc_open (S := N5) ((((k.1.mv e2).mv e3).mv e4).mv e5)) rfl ?_
      refine cl_aload_n (dd D80_ok 55 rfl) rfl ?_
      refine cl_getO (g := 4) (dd D80_ok 56 rfl) pl3_242 (by decide) (by decide) (by decide) rfl ((((k.1.mv e2).mv e3).mv e4).mv e5).l2 ?_
      refine cl_aload_n (dd D80_ok 57 rfl) rfl ?_
      refine cl_iconst (v := 0) (dd D80_ok 58 rfl) (by decide) ?_
      refine cl_call (as := [cl_rf A 0 x2, .int 0]) (rest := []) (v := x1) (dd D80_ok 59 rfl) pl3_301 rfl (Nat.le_of_ble_eq_true rfl) (ms82 xs) rfl (by decide) ((((k.1.mv e2).mv e3).mv e4).mv e5).l4 ((w5).mono ?_) rfl
      rintro v A N6 ⟨rfl, e6, rfl, w6⟩
      exact cl_vret (dd D80_ok 60 rfl) rfl w6
    · refine cl_aload_n (dd D80_ok 16 rfl) rfl ?_
      refine cl_getO (g := 4) (dd D80_ok 17 rfl) pl3_242 (by decide) (by decide) (by decide) rfl k.1.l2 ?_
      refine cl_iload (dd D80_ok 18 rfl) rfl ?_
      refine cl_aload_n (dd D80_ok 19 rfl) rfl ?_
      refine cl_gI (g := 2) (e := S.2.1 2 x2.toNatClampNeg) (dd D80_ok 20 rfl) pl3_132 (by decide) (by decide) (by decide) rfl rfl ((k.2 s1 e_s1).2 c2).1 (by first | rfl | simp [cl_up]) ?_
      refine cl_iadd (dd D80_ok 21 rfl) ?_
      refine cl_callP (r := .int (g_takes S x1 (s1 + (S.2.1 2 x2.toNatClampNeg)))) (as := [.int (s1 + (S.2.1 2 x2.toNatClampNeg))]) (rest := []) (v := x1) (dd D80_ok 22 rfl) pl3_297 rfl (Nat.le_of_ble_eq_true rfl) (ms81 xs) rfl (by decide) k.1.l4 (cc_g_takes (S := cl_up S 206 x1.toNatClampNeg 0) k.1) rfl ?_
      refine cl_if_eq (tgt := 59) (dd D80_ok 23 rfl) (by decide) (fun c3 => ?_) (fun c3 => ?_)
      · refine cl_aload_n (dd D80_ok 30 rfl) rfl ?_
        refine cl_aload_n (dd D80_ok 31 rfl) rfl ?_
        refine cl_call (as := [cl_rf A 2 x1]) (rest := []) (v := 0) (dd D80_ok 32 rfl) pl3_206 rfl (Nat.le_of_ble_eq_true rfl) (ms83 xs) rfl (by decide) (((k.2 s1 e_s1).2 c2).2.1 c3).1.l3 (((((k.2 s1 e_s1).2 c2).2.1 c3).2).mono ?_) rfl
        rintro v A N7 ⟨rfl, e7, rfl, w7⟩
        refine cl_aload_n (dd D80_ok 33 rfl) rfl ?_
        refine cl_aload_n (dd D80_ok 34 rfl) rfl ?_
        refine cl_getO (g := 1) (dd D80_ok 35 rfl) pl3_230 (by decide) (by decide) (by decide) rfl (k.1.mv e7).l2 ?_
        refine cl_aload_n (dd D80_ok 36 rfl) rfl ?_
        refine cl_gI (g := 2) (e := N7.2.1 2 x2.toNatClampNeg) (dd D80_ok 37 rfl) pl3_132 (by decide) (by decide) (by decide) rfl rfl (((k.2 s1 e_s1).2 c2).1.mv e7) rfl ?_
        refine cl_aload_n (dd D80_ok 38 rfl) rfl ?_
        refine cl_gI (g := 204) (e := N7.2.1 204 x1.toNatClampNeg) (dd D80_ok 39 rfl) pl3_229 (by decide) (by decide) (by decide) rfl rfl (k.1.mv e7).l2 rfl ?_
        refine cl_call (as := [.int (N7.2.1 2 x2.toNatClampNeg), .int (N7.2.1 204 x1.toNatClampNeg)]) (rest := [cl_rf A 2 x1]) (v := x1) (dd D80_ok 40 rfl) pl3_264 rfl (Nat.le_of_ble_eq_true rfl) (ms69 xs) rfl (by decide) (k.1.mv e7).l1 ((w7).mono ?_) rfl
        rintro v A N8 ⟨rfl, e8, y8, rfl, w8⟩
        refine cl_pI (g := 204) (dd D80_ok 41 rfl) pl3_229 (by decide) (by decide) rfl rfl rfl rfl rfl ((k.1.mv e7).mv e8).l2 ?_
        refine cl_aload_n (dd D80_ok 42 rfl) rfl ?_
        refine cl_getO (g := 4) (dd D80_ok 43 rfl) pl3_242 (by decide) (by decide) (by decide) rfl ((k.1.mv e7).mv e8).l2 ?_
        refine cl_aload_n (dd D80_ok 44 rfl) rfl ?_
        refine cl_getO (g := 1) (dd D80_ok 45 rfl) pl3_230 (by decide) (by decide) (by decide) rfl ((k.1.mv e7).mv e8).l2 ?_
        refine cl_aload_n (dd D80_ok 46 rfl) rfl ?_
        refine cl_gI (g := 204) (e := y8) (dd D80_ok 47 rfl) pl3_229 (by decide) (by decide) (by decide) rfl rfl ((k.1.mv e7).mv e8).l2 (by first | rfl | simp [cl_up]) ?_
        refine cl_call (as := [.int y8]) (rest := [cl_rf A 4 x1]) (v := x1) (dd D80_ok 48 rfl) pl3_267 rfl (Nat.le_of_ble_eq_true rfl) (ms75 xs) rfl (by decide) ((k.1.mv e7).mv e8).l1 ((w8).mono ?_) rfl
        rintro v A N9 ⟨rfl, e9, y9, rfl, w9⟩
        refine cl_aload_n (dd D80_ok 49 rfl) rfl ?_
        refine cl_getO (g := 1) (dd D80_ok 50 rfl) pl3_230 (by decide) (by decide) (by decide) rfl (((k.1.mv e7).mv e8).mv e9).l2 ?_
        refine cl_aload_n (dd D80_ok 51 rfl) rfl ?_
        refine cl_gI (g := 204) (e := N9.2.1 204 x1.toNatClampNeg) (dd D80_ok 52 rfl) pl3_229 (by decide) (by decide) (by decide) rfl rfl (((k.1.mv e7).mv e8).mv e9).l2 rfl ?_
        refine cl_call (as := [.int (N9.2.1 204 x1.toNatClampNeg)]) (rest := [.int y9, cl_rf A 4 x1]) (v := x1) (dd D80_ok 53 rfl) pl3_270 rfl (Nat.le_of_ble_eq_true rfl) (ms74 xs) rfl (by decide) (((k.1.mv e7).mv e8).mv e9).l1 ((w9).mono ?_) rfl
        rintro v A N10 ⟨rfl, e10, y10, rfl, w10⟩
        refine cl_callU (as := [.int y9, .int y10]) (rest := []) (v := x1) (dd D80_ok 54 rfl) pl3_304 rfl (Nat.le_of_ble_eq_true rfl) (ms87 xs) rfl (by decide) ((((k.1.mv e7).mv e8).mv e9).mv e10).l4 (cc_open (S := N10) ((((k.1.mv e7).mv e8).mv e9).mv e10)) rfl ?_
        refine cl_aload_n (dd D80_ok 55 rfl) rfl ?_
        refine cl_getO (g := 4) (dd D80_ok 56 rfl) pl3_242 (by decide) (by decide) (by decide) rfl ((((k.1.mv e7).mv e8).mv e9).mv e10).l2 ?_
        refine cl_aload_n (dd D80_ok 57 rfl) rfl ?_
        refine cl_iconst (v := 0) (dd D80_ok 58 rfl) (by decide) ?_
        refine cl_call (as := [cl_rf A 0 x2, .int 0]) (rest := []) (v := x1) (dd D80_ok 59 rfl) pl3_301 rfl (Nat.le_of_ble_eq_true rfl) (ms82 xs) rfl (by decide) ((((k.1.mv e7).mv e8).mv e9).mv e10).l4 ((w10).mono ?_) rfl
        rintro v A N11 ⟨rfl, e11, rfl, w11⟩
        exact cl_vret (dd D80_ok 60 rfl) rfl w11
      · refine cl_aload_n (dd D80_ok 24 rfl) rfl ?_
        refine cl_getO (g := 4) (dd D80_ok 25 rfl) pl3_242 (by decide) (by decide) (by decide) rfl k.1.l2 ?_
        refine cl_aload_n (dd D80_ok 26 rfl) rfl ?_
        refine cl_iload (dd D80_ok 27 rfl) rfl ?_
        refine cl_call (as := [cl_rf A 0 x2, .int s1]) (rest := []) (v := x1) (dd D80_ok 28 rfl) pl3_301 rfl (Nat.le_of_ble_eq_true rfl) (ms82 xs) rfl (by decide) k.1.l4 (((((k.2 s1 e_s1).2 c2).2.2 c3)).mono ?_) rfl
        rintro v A N12 ⟨rfl, e12, rfl, w12⟩
        exact cl_vret (dd D80_ok 29 rfl) rfl w12
  refine cl_if_eq (tgt := 13) (dd D80_ok 2 rfl) (by decide) (fun c4 => ?_) (fun c4 => ?_)
  · refine cl_iconst (v := 0) (dd D80_ok 7 rfl) (by decide) ?_
    exact J1 _ (by first | rfl | (rw [if_pos c4]; done) | (rw [if_pos c4]; rfl) | simp only [if_pos c4])
  · refine cl_iconst (v := 3) (dd D80_ok 3 rfl) (by decide) ?_
    refine cl_iload_n (dd D80_ok 4 rfl) rfl ?_
    refine cl_imul (dd D80_ok 5 rfl) ?_
    refine cl_goto (tgt := 14) (dd D80_ok 6 rfl) (by decide) ?_
    exact J1 _ (by first | rfl | (rw [if_neg c4]; done) | (rw [if_neg c4]; rfl) | simp only [if_neg c4])
theorem gap_nz {M : md_S} {s : Int32} (hs : nz 4 s) : nz 12 (f_gap M s) := by
  unfold f_gap
  split
  · exact ⟨by rw [lit_0]; omega, by rw [lit_0]; omega⟩
  · have e : (3 * s).toInt = 3 * s.toInt := by
      rw [Int32.toInt_mul, show (3 : Int32).toInt = 3 by decide]
      exact bmod_small (by omega) (by omega)
    unfold nz at *
    rw [e]
    omega
theorem room_ge {bw w : Int32} {fs : List sp_fl} : ∀ (r : Nat) (y : Int32), y.toInt ≤ (sp_rm bw w fs r y).toInt := by
  intro r
  induction r with
  | zero => intro y; exact Int.le_refl _
  | succ r ih =>
    intro y
    unfold sp_rm
    split
    · exact Int.le_refl _
    · split
      · exact Int.le_refl _
      · next hl =>
        rcases sp_least_of y fs (-1) with e | ⟨f, hf, h1, h2⟩
        · exact absurd e hl
        · have h2 : sp_least y fs = f.2.2.2.1 := h2
          have h3 := ih (sp_least y fs)
          rw [Int32.le_iff_toInt_le, ← h2] at h1
          omega
theorem fold_37 {α : Type} (F : md_S → α → md_S) (hF : ∀ N a, (F N a).1 37 = N.1 37) : ∀ (l : List α) (N : md_S), (l.foldl F N).1 37 = N.1 37 := by
  intro l
  induction l with
  | nil => intro N; rfl
  | cons a l ih => intro N; rw [List.foldl_cons, ih, hF]
theorem fold_42 {α : Type} (F : md_S → α → md_S) (hF : ∀ N a, (F N a).1 42 = N.1 42) : ∀ (l : List α) (N : md_S), (l.foldl F N).1 42 = N.1 42 := by
  intro l
  induction l with
  | nil => intro N; rfl
  | cons a l ih => intro N; rw [List.foldl_cons, ih, hF]
theorem el1_1 (b : Int32) (N : md_S) (k g : Nat) : (f_el1 b N k).1 g = N.1 g := by
  unfold f_el1
  split <;> rfl
theorem el37 (M : md_S) (L wt : Nat) : (f_endLine_M M L wt).1 37 = M.1 37 + M.1 42 := by
  unfold f_endLine_M
  rw [md_up1_ne _ (by decide)]
  unfold f_elW
  rw [fold_37 _ (fun N k => pf_1 N _ _ (by decide))]
  unfold f_el2
  rw [md_up1_ne _ (by decide), md_up1_ne _ (by decide), md_up1_ne _ (by decide), md_up1_at]
  unfold f_elI
  rw [fold_37 _ (fun N k => el1_1 _ N k 37), fold_42 _ (fun N k => el1_1 _ N k 42)]
theorem place37 (M : md_S) (a w : Int32) : (md_up1 (f_place_M M a w) 54 0).1 37 = f_plAt M w := by
  rw [md_up1_ne _ (by decide)]
  unfold f_place_M
  rw [add_1 _ _ _ _ _ (by decide)]
  rfl
theorem plAt_ge (M : md_S) (w : Int32) : (M.1 37).toInt ≤ (f_plAt M w).toInt := room_ge _ _
/-- addItem -/
theorem kk_addItem {xs : List Int32} {K : Nat → Prop} {A : cl_A} {P : md_S} {nn W i f D E : Nat} {T : List Nat} {ox oy : Int32} {S : cl_S} {M : md_S} {l : List Nat} {wl : List (Nat × bt)} {bl : List Nat} {b : Nat} {V : List (Nat × bt)} {VW : List Nat} {B C : Nat} {a w s : Int32} (hSP : SP P nn W) (hib : f_boxy P i) (hi : i < nn) (hf13 : f < 13) (hox : nb ((f + 1) * 67108864 + 59) ox) (hoy : nb ((f + 1) * 67108864 + 59) oy) (h : SMl xs K A P nn W i f D T ox oy S M l wl bl [b] V VW B) (hbk : ¬ bl = [] → S.2.1 206 f = M.1 54) (hit : it_b W a b) (hbw2 : S.2.1 2 b = w) (hbh : S.2.1 3 b = f_itemHigh P a) (hM : ∀ N, si_st P N T → f_itemHigh N a = f_itemHigh P a) (hw : nz 250000 w) (hwC : w.toInt + 12 ≤ C) (hh : nz C (f_itemHigh P a)) (hs : nz 4 s) (hB : B + csq P wl + C ≤ 67108000) (hV : V.length < 60) (hD : 21 ≤ D) (hE : D + 2 ≤ E) : ∀ Q', (∀ S' l' wl' bl' B', FR P W T T f S S' → SMl xs K A P nn W i f D T ox oy S' (f_pi M a w s) l' wl' bl' [] V VW B' → B' + csq P wl' ≤ B + csq P wl + C → ¬ bl' = [] → S'.2.1 206 f = 0 → (f_pi M a w s).1 54 = 0 → (M.1 37).toInt ≤ ((f_pi M a w s).1 37).toInt → Q' none A S') → cl_C xs K E 80 [cl_rf A 3 0, cl_rf A 2 (nI f), cl_rf A 0 (nI b), .int s] A S Q' := by
  intro Q' hQ
  obtain ⟨g1, g2, g3, g4, g5, g6, g7, g8, g9, g10, g11, g12, g13⟩ := id h
  have hT := g1.1
  have hf := hT.2.2.1 f hf13
  have cf : (nI f).toNatClampNeg = f := nI_clamp (by omega)
  have hbl4 := g10.blv g1 (b := b) (by simp)
  have cb : (nI b).toNatClampNeg = b := nI_clamp (by omega)
  obtain ⟨q1, q2, q3, q4, q5, q6, q7, q8, q9, q10, q11⟩ := g6
  have hbb : ∀ m ∈ bl, m < 2 ^ 31 := fun m hm => by have := (g10.blv g1 (List.mem_append_left _ hm)).1; omega
  have hwn := hw.1
  have c41 : (M.1 41).toNatClampNeg = bl.length := by rw [q1, nI_clamp (by omega)]
  have c53 : (M.1 53).toNatClampNeg = wl.length := by rw [g5.1, nI_clamp (by omega)]
  have hpi : f_pi M a w s = md_up1 (if bl.length = 0 then f_place_M M a w else if M.1 40 + f_gap M s + w ≤ M.1 39 then f_add_M M bl.length a (M.1 40 + f_gap M s) w else f_place_M (f_endLine_M M bl.length wl.length) a w) 54 0 := by
    unfold f_pi f_putItem_M
    rw [c41, c53]
  obtain ⟨d', rfl⟩ : ∃ d', E = d' + 2 + 1 := ⟨E - 3, by omega⟩
  have hX := cl_up_X206 S f 0
  obtain ⟨F0, h0⟩ := h.fl hX.1 hX.2
  have z0 : (cl_up S 206 f 0).2.1 206 f = 0 := cl_up_at _ _ _ _
  refine cl_intro (ms80 xs) (Nat.le_of_ble_eq_true rfl) (fun hh0 => vc80_0 ⟨hf, fun s1 es => ?_⟩)
  rw [cf] at es
  simp only [cf, cb]
  by_cases hbe : bl = []
  · have hwe := g13 hbe
    subst hbe hwe
    have e400 : S.2.1 400 f = -1 := q3
    have ge : g_empty S (nI f) = 1 := by
      unfold g_empty
      rw [cf, if_neg (fun q => q e400)]
    refine ⟨fun _ => ⟨hT.2.1, ?_⟩, fun c => absurd (by rw [ge]; decide) c⟩
    refine cl_C.le (d := 0 + 3) (by omega) (kk_endLine0 (S := cl_up S 206 f 0) (hf.mv rfl) hf13 (by rw [cl_up_ne1 _ _ _ _ (by decide)]; exact e400) _ ⟨rfl, rfl, rfl, hbl4.2.mv rfl, ?_⟩)
    refine kk_place (C := C) hf13 hox hoy h0 hit (by rw [cl_up_ne1 _ _ _ _ (by decide)]; exact hbw2) (by rw [cl_up_ne1 _ _ _ _ (by decide)]; exact hbh) (hM M g2) hw (by omega) hh (by omega) (by simp [csq] at hB; omega) hV (by omega) ?_
    intro S' F' z' h'
    refine hQ S' l [] [b] (B + C) (F0.tr F') ?_ (by simp [csq]) (by simp) (by rw [z', z0]) ?_ ?_
    · rw [hpi, if_pos (show ([] : List Nat).length = 0 from rfl)]
      exact h'
    · rw [hpi, md_up1_at]
    · rw [hpi, if_pos (show ([] : List Nat).length = 0 from rfl), place37]
      exact plAt_ge M w
  · have hlen0 : ¬ bl.length = 0 := fun e => hbe (List.length_eq_zero_iff.mp e)
    have e400 : ¬ S.2.1 400 f = -1 := fun e => hbe ((chn_m1 hbb q3).mp e)
    have ge : g_empty S (nI f) = 0 := by
      unfold g_empty
      rw [cf, if_pos e400]
    obtain ⟨r1, r2, r3, r4⟩ := q7 hbe
    have es2 : s1 = f_gap M s := by
      rw [es, hbk hbe]
      rfl
    have hgz := gap_nz (M := M) hs
    refine ⟨fun c => absurd ge c, fun _ => ⟨hbl4.2, ?_⟩⟩
    have htk : g_takes S (nI f) (s1 + S.2.1 2 b) = if M.1 40 + f_gap M s + w ≤ M.1 39 then 1 else 0 := by
      unfold g_takes
      rw [cf, r1, r2, off_diff, hbw2, es2]
      have e1 : (M.1 39 - M.1 40).toInt = (M.1 39).toInt - (M.1 40).toInt := off_sub (nb_bd r3 (by omega)) (nb_bd r4 (by omega))
      have e2 : (f_gap M s + w).toInt = (f_gap M s).toInt + w.toInt := off_toInt (nz_bd hgz (by decide)) (nz_bd hw (by decide))
      have e3 : (M.1 40 + f_gap M s + w).toInt = (M.1 40).toInt + (f_gap M s).toInt + w.toInt := by
        rw [off_toInt (nb_bd (nb_add r4 (nz_nb hgz) (Nat.le_refl _) (by omega) (by decide)) (by omega)) (nz_bd hw (by decide)), off_toInt (nb_bd r4 (by omega)) (nz_bd hgz (by decide))]
      by_cases c : M.1 40 + f_gap M s + w ≤ M.1 39
      · rw [if_pos c, if_neg]
        rw [Int32.lt_iff_toInt_lt, e1, e2]
        rw [Int32.le_iff_toInt_le, e3] at c
        omega
      · rw [if_neg c, if_pos]
        rw [Int32.lt_iff_toInt_lt, e1, e2]
        rw [Int32.le_iff_toInt_le, e3] at c
        omega
    rw [htk]
    by_cases c : M.1 40 + f_gap M s + w ≤ M.1 39
    · rw [if_pos c]
      refine ⟨fun q => absurd q (by decide), fun _ => ?_⟩
      have hx : ∀ m ∈ bl, m < 4000 ∧ cl_lv (cl_up S 206 f 0) 0 (nI m) := fun m hm => ⟨(g10.blv g1 (List.mem_append_left _ hm)).1, (g10.blv g1 (List.mem_append_left _ hm)).2.mv rfl⟩
      have hnd := g10.2.2.2.2.2.2.1
      rw [List.nodup_append] at hnd
      have hbnl : b ∉ bl := fun r => hnd.2.2 b r b (by simp) rfl
      have eq0 : ∀ g, g ≠ 206 → (cl_up S 206 f 0).2.1 g = S.2.1 g := fun g hg => hX.1.2.2 g (by simp [hg])
      refine cl_C.le (d := 0 + 1) (by omega) (kk_ladd (S := cl_up S 206 f 0) (gap := s1) (l := bl) (hf.mv rfl) hf13 (hbl4.2.mv rfl) hbl4.1 hx hnd.1 hbnl (by rw [eq0 4 (by decide), eq0 400 (by decide)]; exact q3) (by rw [eq0 401 (by decide)]; exact q4) _ (fun S' k1 k2 k3 k4 k5 k6 k7 k8 k9 => ⟨rfl, k1.1, rfl, ?_⟩))
      have hN := SMl.item (S1 := cl_up S 206 f 0) (S' := S') (C := C) (w := w) (at_ := M.1 40 + f_gap M s) (y := M.1 37) (e39 := M.1 39) h0 hit (by rw [eq0 2 (by decide)]; exact hbw2) (by rw [eq0 3 (by decide)]; exact hbh) (hM M g2) hh (nb_add (nb_add r4 (nz_nb hgz) (Nat.le_refl _) (by omega) (by decide)) (⟨by omega, by omega⟩ : nb w.toInt.toNat w) (by omega) (by omega) (by omega)) r3 q9 (Or.inr rfl) (by omega) (Or.inr ⟨hbe, trivial⟩) cl_X.rf (fun _ _ _ _ _ => rfl) (by rw [eq0 204 (by decide)]; exact g7.1) (by rw [eq0 402 (by decide)]; exact r2) k1 k2 k3 k4 k5 k6 (by rw [k7, eq0 403 (by decide), r1, es2]; grind) (by rw [k8, eq0 403 (by decide), r1, es2, eq0 2 (by decide), hbw2]; grind) k9 (md_up1 (f_add_M M bl.length a (M.1 40 + f_gap M s) w) 54 0)
        (fun g hg => by
          simp only [List.mem_cons, List.not_mem_nil, or_false, not_or] at hg
          rw [md_up1_ne _ hg.2.2.2.2.2.2, add_1 _ _ _ _ _ (by simp [hg])])
        (fun q hq => by rw [md_up1_2, add_2 _ _ _ _ _ hq])
        (by rw [md_up1_ne _ (by decide), add_1 _ _ _ _ _ (by decide)])
        (by rw [md_up1_ne _ (by decide), add_1 _ _ _ _ _ (by decide)])
        (by rw [md_up1_ne _ (by decide), add_40])
        (by rw [md_up1_ne _ (by decide), add_41])
        (by rw [md_up1_ne _ (by decide), add_42])
        (fun k => by rw [md_up1_2, add_44])
        (fun k => by rw [md_up1_2, add_45])
      refine hQ S' l wl (bl ++ [b]) (B + C) (F0.tr hN.1) ?_ (by omega) (by simp) (by rw [k1.2.2 206 (by decide), z0]) ?_ ?_
      · rw [hpi, if_neg hlen0, if_pos c]
        exact hN.2
      · rw [hpi, md_up1_at]
      · rw [hpi, if_neg hlen0, if_pos c, md_up1_ne _ (by decide), add_1 _ _ _ _ _ (by decide)]
        exact Int.le_refl _
    · rw [if_neg c]
      refine ⟨fun _ => ⟨hT.2.1, ?_⟩, fun q => absurd rfl q⟩
      refine kk_endLine hSP hib hi hf13 hox hoy h0 hbe (by omega) hV hD (by omega) _ (fun S1 F1 z1 h1 => ⟨rfl, F1.1.1, rfl, ?_⟩)
      have hb1 : S1.2.1 2 b = w ∧ S1.2.1 3 b = f_itemHigh P a := by
        rcases g10.2.2.2.2.2.1 b (by simp) with ⟨k, hk, h4⟩ | ⟨w', hw', rfl⟩
        · have e1 := (g9.2.1 (b, k) hk h4).1
          have e2 := (h1.2.2.2.2.2.2.2.2.1.2.1 (b, k) hk h4).1
          rw [e2.1, e2.2.1, ← e1.1, ← e1.2.1]
          exact ⟨hbw2, hbh⟩
        · rw [((F0.tr F1).2.2.1 (60 + w') (by omega)).1, ((F0.tr F1).2.2.1 (60 + w') (by omega)).2]
          exact ⟨hbw2, hbh⟩
      have hst1 := h1.2.1
      refine kk_place (C := C) hf13 hox hoy h1 hit hb1.1 hb1.2 (hM _ hst1) hw (by omega) hh (by omega) (by omega) hV (by omega) ?_
      intro S' F' z' h'
      refine hQ S' (l ++ wl.map (·.1)) [] [b] (B + csq P wl + C) ((F0.tr F1).tr F') ?_ (by simp [csq]) (by simp) ?_ ?_ ?_
      · rw [hpi, if_neg hlen0, if_neg c]
        exact h'
      · rw [z', z1, z0]
      · rw [hpi, md_up1_at]
      · rw [hpi, if_neg hlen0, if_neg c, place37]
        have e1 := plAt_ge (f_endLine_M M bl.length wl.length) w
        have e2 : (M.1 37 + M.1 42).toInt = (M.1 37).toInt + (M.1 42).toInt := off_toInt (nz_bd q9 (by omega)) (nz_bd q8 (by omega))
        have e0 : ((f_endLine_M M bl.length wl.length).1 37).toInt = (M.1 37).toInt + (M.1 42).toInt := by rw [el37, e2]
        rw [e0] at e1
        have e3 := q8.1
        refine Int.le_trans ?_ e1
        omega
