/-! the class: addFloat, addInline (by hand: wip/whole/gen/c23.py) -/
/-- lines begin -/
def bgn (S : cl_S) (f : Nat) : cl_S := cl_up (cl_up S 204 f (S.2.1 204 f + S.2.1 205 f)) 205 f 0
theorem bgn_X (S : cl_S) (f : Nat) : cl_X [204, 205] S (bgn S f) := (cl_X.rf.up (by decide) _ _).up (by decide) _ _
theorem bgn_FR {P : md_S} {W : Nat} {T T5 : List Nat} (S : cl_S) (f : Nat) : FR P W T T5 f S (bgn S f) := FR.flow (bgn_X S f) (by decide) (fun g _ _ f' hf' => by
  unfold bgn
  rw [cl_up_ne2 _ _ _ _ (by omega), cl_up_ne2 _ _ _ _ (by omega)])
set_option maxHeartbeats 1000000 in
theorem vc65_0 {xs : List Int32} {K : Nat → Prop} {h0 : am_H} {d : Nat} {Q : Option Value → cl_A → cl_S → Prop} {A : cl_A} {S : cl_S} {x1 : Int32} {x2 : Int32}
    (k : (cl_f S x1) ∧ ((((g_empty S x1) = 0) → cl_C xs K (d + 2) 77 [cl_rf A 2 x1, cl_rf A 5 x2] A (cl_up (cl_up S 204 x1.toNatClampNeg (((S.2.1 204 x1.toNatClampNeg)) + ((S.2.1 205 x1.toNatClampNeg)))) 205 x1.toNatClampNeg 0) (fun v A' N1 => A' = A ∧ N1.1 = S.1 ∧ v = none ∧ (Q none A N1))) ∧ (¬ ((g_empty S x1) = 0) → (cl_z S) ∧ (cl_C xs K (d + 2) 68 [cl_rf A 3 0, cl_rf A 2 x1, cl_rf A 5 x2] A (cl_up (cl_up S 204 x1.toNatClampNeg (((S.2.1 204 x1.toNatClampNeg)) + ((S.2.1 205 x1.toNatClampNeg)))) 205 x1.toNatClampNeg 0) (fun v A' N2 => A' = A ∧ N2.1 = S.1 ∧ v = none ∧ (Q none A N2)))))) :
    cl_wp xs K h0 (d + 2) Q I65 0 [some (cl_rf A 3 0), some (cl_rf A 2 x1), some (cl_rf A 5 x2)] [] A S := by
  refine cl_aload_n (dd D65_ok 0 rfl) rfl ?_
  refine cl_callU (as := []) (rest := []) (v := x1) (dd D65_ok 1 rfl) pl3_239 rfl (Nat.le_of_ble_eq_true rfl) (ms66 xs) rfl (by decide) k.1.l2 (cc_beginLines (S := S) k.1) rfl ?_
  refine cl_aload_n (dd D65_ok 2 rfl) rfl ?_
  refine cl_getO (g := 4) (dd D65_ok 3 rfl) pl3_242 (by decide) (by decide) (by decide) rfl k.1.l2 ?_
  refine cl_callP (r := .int (g_empty S x1)) (as := []) (rest := []) (v := x1) (dd D65_ok 4 rfl) pl3_246 rfl (Nat.le_of_ble_eq_true rfl) (ms67 xs) rfl (by decide) k.1.l4 (cc_g_empty (S := cl_up (cl_up S 204 x1.toNatClampNeg (((S.2.1 204 x1.toNatClampNeg)) + ((S.2.1 205 x1.toNatClampNeg)))) 205 x1.toNatClampNeg 0) k.1) rfl ?_
  refine cl_if_eq (tgt := 23) (dd D65_ok 5 rfl) (by decide) (fun c1 => ?_) (fun c1 => ?_)
  · refine cl_aload_n (dd D65_ok 11 rfl) rfl ?_
    refine cl_aload_n (dd D65_ok 12 rfl) rfl ?_
    refine cl_call (as := [cl_rf A 5 x2]) (rest := []) (v := x1) (dd D65_ok 13 rfl) pl3_255 rfl (Nat.le_of_ble_eq_true rfl) (ms77 xs) rfl (by decide) k.1.l2 (((k.2.1 c1)).mono ?_) rfl
    rintro v A N1 ⟨rfl, e1, rfl, w1⟩
    exact cl_vret (dd D65_ok 14 rfl) rfl w1
  · refine cl_aload_n (dd D65_ok 6 rfl) rfl ?_
    refine cl_aload_n (dd D65_ok 7 rfl) rfl ?_
    refine cl_aload_n (dd D65_ok 8 rfl) rfl ?_
    refine cl_call (as := [cl_rf A 2 x1, cl_rf A 5 x2]) (rest := []) (v := 0) (dd D65_ok 9 rfl) pl3_252 rfl (Nat.le_of_ble_eq_true rfl) (ms68 xs) rfl (by decide) (k.2.2 c1).1.l3 (((k.2.2 c1).2).mono ?_) rfl
    rintro v A N2 ⟨rfl, e2, rfl, w2⟩
    refine cl_goto (tgt := 28) (dd D65_ok 10 rfl) (by decide) ?_
    exact cl_vret (dd D65_ok 14 rfl) rfl w2
set_option maxHeartbeats 1000000 in
theorem vc88_0 {xs : List Int32} {K : Nat → Prop} {h0 : am_H} {d : Nat} {Q : Option Value → cl_A → cl_S → Prop} {A : cl_A} {S : cl_S} {x1 : Int32} {x2 : Int32}
    (k : (cl_f S x1) ∧ ((((g_empty S x1) = 0) → (cl_z S) ∧ (cl_C xs K (d + 2) 83 [cl_rf A 3 0, cl_rf A 2 x1] A S (fun v A' N1 => A' = A ∧ N1.1 = S.1 ∧ v = none ∧ (Q none A N1)))) ∧ (¬ ((g_empty S x1) = 0) → (cl_n S x2) ∧ (Q none A (cl_up S 204 x1.toNatClampNeg ((S.2.1 204 x1.toNatClampNeg) + (7 * (S.2.1 2200 (9 * x2.toNatClampNeg + 8))))))))) :
    cl_wp xs K h0 (d + 2) Q I88 0 [some (cl_rf A 3 0), some (cl_rf A 2 x1), some (cl_rf A 5 x2)] [] A S := by
  refine cl_aload_n (dd D88_ok 0 rfl) rfl ?_
  refine cl_getO (g := 4) (dd D88_ok 1 rfl) pl3_242 (by decide) (by decide) (by decide) rfl k.1.l2 ?_
  refine cl_callP (r := .int (g_empty S x1)) (as := []) (rest := []) (v := x1) (dd D88_ok 2 rfl) pl3_246 rfl (Nat.le_of_ble_eq_true rfl) (ms67 xs) rfl (by decide) k.1.l4 (cc_g_empty (S := S) k.1) rfl ?_
  refine cl_if_eq (tgt := 32) (dd D88_ok 3 rfl) (by decide) (fun c1 => ?_) (fun c1 => ?_)
  · refine cl_aload_n (dd D88_ok 16 rfl) rfl ?_
    refine cl_aload_n (dd D88_ok 17 rfl) rfl ?_
    refine cl_call (as := [cl_rf A 2 x1]) (rest := []) (v := 0) (dd D88_ok 18 rfl) pl3_206 rfl (Nat.le_of_ble_eq_true rfl) (ms83 xs) rfl (by decide) (k.2.1 c1).1.l3 (((k.2.1 c1).2).mono ?_) rfl
    rintro v A N1 ⟨rfl, e1, rfl, w1⟩
    exact cl_vret (dd D88_ok 19 rfl) rfl w1
  · refine cl_aload_n (dd D88_ok 4 rfl) rfl ?_
    refine cl_dup (dd D88_ok 5 rfl) ?_
    refine cl_gI (g := 204) (e := S.2.1 204 x1.toNatClampNeg) (dd D88_ok 6 rfl) pl3_229 (by decide) (by decide) (by decide) rfl rfl k.1.l2 rfl ?_
    refine cl_bipush (v := 7) (dd D88_ok 7 rfl) (by decide) ?_
    refine cl_aload_n (dd D88_ok 8 rfl) rfl ?_
    refine cl_getO (g := 22) (dd D88_ok 9 rfl) pl3_46 (by decide) (by decide) (by decide) rfl (k.2.2 c1).1.l5 ?_
    refine cl_bipush (v := 8) (dd D88_ok 10 rfl) (by decide) ?_
    refine cl_hs (q := 8) (e := S.2.1 2200 (9 * x2.toNatClampNeg + 8)) (dd D88_ok 11 rfl) (k.2.2 c1).1.l22 (md_vl (by decide)) (by decide) rfl ?_
    refine cl_imul (dd D88_ok 12 rfl) ?_
    refine cl_iadd (dd D88_ok 13 rfl) ?_
    refine cl_pI (g := 204) (dd D88_ok 14 rfl) pl3_229 (by decide) (by decide) rfl rfl rfl rfl rfl k.1.l2 ?_
    refine cl_goto (tgt := 37) (dd D88_ok 15 rfl) (by decide) ?_
    exact cl_vret (dd D88_ok 19 rfl) rfl (k.2.2 c1).2
set_option maxHeartbeats 1000000 in
theorem vc78_0 {xs : List Int32} {K : Nat → Prop} {h0 : am_H} {d : Nat} {Q : Option Value → cl_A → cl_S → Prop} {A : cl_A} {S : cl_S} {x1 : Int32} {x2 : Int32}
    (k : (cl_f S x1) ∧ ((cl_n S x2) ∧ (((¬ (S.2.1 501 x2.toNatClampNeg) = 1) → ((¬ (S.2.1 501 x2.toNatClampNeg) = 3) → (((S.2.1 501 x2.toNatClampNeg) = 0) → Q none A (cl_up (cl_up S 204 x1.toNatClampNeg (((S.2.1 204 x1.toNatClampNeg)) + ((S.2.1 205 x1.toNatClampNeg)))) 205 x1.toNatClampNeg 0)) ∧ (¬ ((S.2.1 501 x2.toNatClampNeg) = 0) → (cl_z S) ∧ (cl_C xs K (d + 2) 88 [cl_rf A 3 0, cl_rf A 2 x1, cl_rf A 5 x2] A (cl_up (cl_up S 204 x1.toNatClampNeg (((S.2.1 204 x1.toNatClampNeg)) + ((S.2.1 205 x1.toNatClampNeg)))) 205 x1.toNatClampNeg 0) (fun v A' N1 => A' = A ∧ N1.1 = S.1 ∧ v = none ∧ (Q none A N1))))) ∧ (¬ (¬ (S.2.1 501 x2.toNatClampNeg) = 3) → (cl_z S) ∧ (cl_C xs K (d + 2) 80 [cl_rf A 3 0, cl_rf A 2 x1, cl_rf A 0 x2, .int (S.2.1 2200 (9 * x2.toNatClampNeg + 8))] A (cl_up (cl_up (cl_up (cl_up (cl_up S 204 x1.toNatClampNeg (((S.2.1 204 x1.toNatClampNeg)) + ((S.2.1 205 x1.toNatClampNeg)))) 205 x1.toNatClampNeg 0) 511 x2.toNatClampNeg 1) 2 x2.toNatClampNeg (g_told S x2 (S.2.1 203 x1.toNatClampNeg) 8)) 3 x2.toNatClampNeg (if ¬ (S.2.1 2200 (9 * x2.toNatClampNeg + 3)) = (-1) then (S.2.1 2200 (9 * x2.toNatClampNeg + 3)) else 8)) (fun v A' N2 => A' = A ∧ N2.1 = S.1 ∧ v = none ∧ (Q none A N2))))) ∧ (¬ (¬ (S.2.1 501 x2.toNatClampNeg) = 1) → (cl_z S) ∧ (cl_C xs K (d + 2) 79 [cl_rf A 3 0, cl_rf A 2 x1, cl_rf A 5 x2] A (cl_up (cl_up S 204 x1.toNatClampNeg (((S.2.1 204 x1.toNatClampNeg)) + ((S.2.1 205 x1.toNatClampNeg)))) 205 x1.toNatClampNeg 0) (fun v A' N3 => A' = A ∧ N3.1 = S.1 ∧ v = none ∧ (Q none A N3))))))) :
    cl_wp xs K h0 (d + 2) Q I78 0 [some (cl_rf A 3 0), some (cl_rf A 2 x1), some (cl_rf A 5 x2)] [] A S := by
  refine cl_aload_n (dd D78_ok 0 rfl) rfl ?_
  refine cl_callU (as := []) (rest := []) (v := x1) (dd D78_ok 1 rfl) pl3_239 rfl (Nat.le_of_ble_eq_true rfl) (ms66 xs) rfl (by decide) k.1.l2 (cc_beginLines (S := S) k.1) rfl ?_
  refine cl_aload_n (dd D78_ok 2 rfl) rfl ?_
  refine cl_gI (g := 501) (e := S.2.1 501 x2.toNatClampNeg) (dd D78_ok 3 rfl) pl3_70 (by decide) (by decide) (by decide) rfl rfl k.2.1.l5 (by first | rfl | simp [cl_up]) ?_
  refine cl_iconst (v := 1) (dd D78_ok 4 rfl) (by decide) ?_
  refine cl_icmp_ne (tgt := 21) (dd D78_ok 5 rfl) (by decide) (fun c1 => ?_) (fun c1 => ?_)
  · refine cl_aload_n (dd D78_ok 11 rfl) rfl ?_
    refine cl_gI (g := 501) (e := S.2.1 501 x2.toNatClampNeg) (dd D78_ok 12 rfl) pl3_70 (by decide) (by decide) (by decide) rfl rfl k.2.1.l5 (by first | rfl | simp [cl_up]) ?_
    refine cl_iconst (v := 3) (dd D78_ok 13 rfl) (by decide) ?_
    refine cl_icmp_ne (tgt := 57) (dd D78_ok 14 rfl) (by decide) (fun c2 => ?_) (fun c2 => ?_)
    · refine cl_aload_n (dd D78_ok 30 rfl) rfl ?_
      refine cl_gI (g := 501) (e := S.2.1 501 x2.toNatClampNeg) (dd D78_ok 31 rfl) pl3_70 (by decide) (by decide) (by decide) rfl rfl k.2.1.l5 (by first | rfl | simp [cl_up]) ?_
      refine cl_if_eq (tgt := 70) (dd D78_ok 32 rfl) (by decide) (fun c3 => ?_) (fun c3 => ?_)
      · exact cl_vret (dd D78_ok 37 rfl) rfl (((k.2.2.1 c1).1 c2).1 c3)
      · refine cl_aload_n (dd D78_ok 33 rfl) rfl ?_
        refine cl_aload_n (dd D78_ok 34 rfl) rfl ?_
        refine cl_aload_n (dd D78_ok 35 rfl) rfl ?_
        refine cl_call (as := [cl_rf A 2 x1, cl_rf A 5 x2]) (rest := []) (v := 0) (dd D78_ok 36 rfl) pl3_288 rfl (Nat.le_of_ble_eq_true rfl) (ms88 xs) rfl (by decide) (((k.2.2.1 c1).1 c2).2 c3).1.l3 (((((k.2.2.1 c1).1 c2).2 c3).2).mono ?_) rfl
        rintro v A N1 ⟨rfl, e1, rfl, w1⟩
        exact cl_vret (dd D78_ok 37 rfl) rfl w1
    · refine cl_aload_n (dd D78_ok 15 rfl) rfl ?_
      refine cl_aload_n (dd D78_ok 16 rfl) rfl ?_
      refine cl_aload_n (dd D78_ok 17 rfl) rfl ?_
      refine cl_gI (g := 203) (e := S.2.1 203 x1.toNatClampNeg) (dd D78_ok 18 rfl) pl3_170 (by decide) (by decide) (by decide) rfl rfl k.1.l2 (by first | rfl | simp [cl_up]) ?_
      refine cl_callU (as := [cl_rf A 5 x2, .int (S.2.1 203 x1.toNatClampNeg)]) (rest := []) (v := 0) (dd D78_ok 19 rfl) pl3_173 rfl (Nat.le_of_ble_eq_true rfl) (ms57 xs) rfl (by decide) ((k.2.2.1 c1).2 c2).1.l3 (cc_piece (S := cl_up (cl_up S 204 x1.toNatClampNeg (((S.2.1 204 x1.toNatClampNeg)) + ((S.2.1 205 x1.toNatClampNeg)))) 205 x1.toNatClampNeg 0) k.2.1) rfl ?_
      refine cl_aload_n (dd D78_ok 20 rfl) rfl ?_
      refine cl_aload_n (dd D78_ok 21 rfl) rfl ?_
      refine cl_aload_n (dd D78_ok 22 rfl) rfl ?_
      refine cl_getO (g := 0) (dd D78_ok 23 rfl) pl3_140 (by decide) (by decide) (by decide) rfl k.2.1.l5 ?_
      refine cl_aload_n (dd D78_ok 24 rfl) rfl ?_
      refine cl_getO (g := 22) (dd D78_ok 25 rfl) pl3_46 (by decide) (by decide) (by decide) rfl k.2.1.l5 ?_
      refine cl_bipush (v := 8) (dd D78_ok 26 rfl) (by decide) ?_
      refine cl_hs (q := 8) (e := S.2.1 2200 (9 * x2.toNatClampNeg + 8)) (dd D78_ok 27 rfl) k.2.1.l22 (md_vl (by decide)) (by decide) (by first | rfl | simp [cl_up]) ?_
      refine cl_call (as := [cl_rf A 2 x1, cl_rf A 0 x2, .int (S.2.1 2200 (9 * x2.toNatClampNeg + 8))]) (rest := []) (v := 0) (dd D78_ok 28 rfl) pl3_284 rfl (Nat.le_of_ble_eq_true rfl) (ms80 xs) rfl (by decide) ((k.2.2.1 c1).2 c2).1.l3 ((((k.2.2.1 c1).2 c2).2).mono ?_) rfl
      rintro v A N2 ⟨rfl, e2, rfl, w2⟩
      refine cl_goto (tgt := 70) (dd D78_ok 29 rfl) (by decide) ?_
      exact cl_vret (dd D78_ok 37 rfl) rfl w2
  · refine cl_aload_n (dd D78_ok 6 rfl) rfl ?_
    refine cl_aload_n (dd D78_ok 7 rfl) rfl ?_
    refine cl_aload_n (dd D78_ok 8 rfl) rfl ?_
    refine cl_call (as := [cl_rf A 2 x1, cl_rf A 5 x2]) (rest := []) (v := 0) (dd D78_ok 9 rfl) pl3_281 rfl (Nat.le_of_ble_eq_true rfl) (ms79 xs) rfl (by decide) (k.2.2.2 c1).1.l3 (((k.2.2.2 c1).2).mono ?_) rfl
    rintro v A N3 ⟨rfl, e3, rfl, w3⟩
    refine cl_goto (tgt := 70) (dd D78_ok 10 rfl) (by decide) ?_
    exact cl_vret (dd D78_ok 37 rfl) rfl w3
section ADF
variable {xs : List Int32} {K : Nat → Prop} {A : cl_A} {P : md_S} {nn W i f D E : Nat} {T : List Nat} {ox oy : Int32} {S : cl_S} {M : md_S} {l : List Nat} {wl : List (Nat × bt)} {bl : List Nat} {V : List (Nat × bt)} {VW : List Nat} {B : Nat} {q : Nat × bt}
theorem kk_addFloat (hSP : SP P nn W) (hib : f_boxy P i) (hi : i < nn) (hf13 : f < 13) (hox : nb ((f + 1) * 67108864 + 59) ox) (hoy : nb ((f + 1) * 67108864 + 59) oy) (h : SMl xs K A P nn W i f D T ox oy (bgn S f) M l wl bl [] V VW B) (hT : ∀ x ∈ sub q, x ∈ T) (hd : apart V q) (hok : flt_ok xs K A P nn W i f D T q) (hV : V.length < 59) (hB : B + csq P wl + cs P q.1 q.2 ≤ 67108000) (hD : 21 ≤ D) (hE : D + 1 ≤ E) : ∀ Q', (∀ S' l' wl' B', FR P W T T f S S' → SMl xs K A P nn W i f D T ox oy S' (if M.1 41 ≤ 0 then f_putFloat_M M (M.1 46).toNatClampNeg q.1 else f_wait M q.1) l' wl' bl [] (V ++ [q]) VW B' → B' + csq P wl' ≤ B + csq P wl + cs P q.1 q.2 → S'.2.1 206 f = S.2.1 206 f → Q' none A S') → cl_C xs K E 65 [cl_rf A 3 0, cl_rf A 2 (nI f), cl_rf A 5 (nI q.1)] A S Q' := by
  intro Q' hQ
  have hT0 := h.1.1
  obtain ⟨k1, k2, k3, k4, k5, k6⟩ := id hok
  have hb := k1.2.2.2.2.2.2.2.2.2.1
  have cf : (nI f).toNatClampNeg = f := nI_clamp (by omega)
  have hf : cl_f S (nI f) := (hT0.2.2.1 f hf13).mv (bgn_X S f).1.symm
  have hz : cl_z S := hT0.2.1.mv (bgn_X S f).1.symm
  have e400 : (bgn S f).2.1 400 = S.2.1 400 := (bgn_X S f).2.2 400 (by decide)
  have e206 : (bgn S f).2.1 206 = S.2.1 206 := (bgn_X S f).2.2 206 (by decide)
  obtain ⟨d', rfl⟩ : ∃ d', E = d' + 2 + 1 := ⟨E - 3, by omega⟩
  obtain ⟨q1, q2, q3, q4, q5, q6, q7, q8, q9, q10, q11⟩ := id h.2.2.2.2.2.1
  have hds := id h.2.2.2.2.2.2.2.2.2.1
  rw [List.append_nil] at hds
  have hbb : ∀ m ∈ bl, m < 2 ^ 31 := fun m hm => by have := (hds.blv h.1 hm).1; omega
  have h60 := hT0.1
  refine cl_intro (ms65 xs) (Nat.le_of_ble_eq_true rfl) (fun h0 => vc65_0 ⟨hf, ?_⟩)
  simp only [cf]
  show (g_empty S (nI f) = 0 → cl_C xs K (d' + 2) 77 [cl_rf A 2 (nI f), cl_rf A 5 (nI q.1)] A (bgn S f) _) ∧ (¬ g_empty S (nI f) = 0 → cl_z S ∧ cl_C xs K (d' + 2) 68 [cl_rf A 3 0, cl_rf A 2 (nI f), cl_rf A 5 (nI q.1)] A (bgn S f) _)
  by_cases hbe : bl = []
  · have hwe := h.2.2.2.2.2.2.2.2.2.2.2.2 hbe
    subst hbe hwe
    have ge : g_empty S (nI f) = 1 := by
      unfold g_empty
      rw [cf, ← e400, if_neg (fun c => c q3)]
    have h41 : M.1 41 ≤ 0 := by rw [q1]; decide
    have e46 : (M.1 46).toNatClampNeg = l.length := by
      have := h.2.2.2.2.2.2.2.2.2.2.2.1
      rw [h.2.2.2.1.1, nI_clamp (by omega)]
    have hlV := h.2.2.2.2.2.2.2.2.2.2.2.1
    refine ⟨fun c => absurd (by rw [← c, ge]) (show ¬ (1 : Int32) = 0 by decide), fun _ => ⟨hz, ?_⟩⟩
    have hlm : ∀ m ∈ l, m < nn := fun m hm => by
      obtain ⟨k, hk, _⟩ := hds.2.2.1 m hm
      exact hds.2.2.2.2.2.2.2.2.1 _ (hds.1 _ hk m (by simp))
    have hdis : ∀ m ∈ l, m ∉ q.1 :: bt_pre q.2 := fun m hm => by
      obtain ⟨k, hk, _⟩ := hds.2.2.1 m hm
      exact (hd _ hk).2 m (by simp)
    have hnd : l.Nodup := (List.nodup_append.mp hds.2.2.2.2.1).1
    simp only [csq, List.map_nil, List.sum_nil, Nat.add_zero, List.length_nil] at hB hlV
    refine kk_putFloat h.1 hSP h.2.1 k6 h.2.2.1 hib hi h.2.2.2.1 (by omega) hlm hnd hdis h.2.2.2.2.2.2.1.1 q9 h.2.2.2.2.2.2.2.1 k1 k2 k3 hf13 hox hoy hB k4 (by omega) _ (fun S1 a1 a2 a3 a4 => ⟨rfl, a1.1.1.trans (bgn_X S f).1, rfl, ?_⟩)
    obtain ⟨F1, h1⟩ := h.putF hT hd hb a1 a2 a3 a4
    refine hQ S1 (l ++ [q.1]) [] (B + cs P q.1 q.2) ((bgn_FR S f).tr F1) ?_ (by simp [csq]) ?_
    · rw [if_pos h41, e46]; exact h1
    · rw [a2 206 (by decide) (by decide) (by decide), e206]
  · have h400 : ¬ S.2.1 400 f = -1 := fun e => hbe ((chn_m1 hbb (by rw [← e400] at e; exact q3)).mp (by rw [← e400] at e; exact e))
    have ge : g_empty S (nI f) = 0 := by
      unfold g_empty
      rw [cf, if_pos h400]
    have hbl3 : bl.length < 2 ^ 31 := by omega
    have hlen0 : 0 < bl.length := by
      rcases Nat.eq_zero_or_pos bl.length with c | c
      · exact absurd (List.length_eq_zero_iff.mp c) hbe
      · exact c
    have h41 : ¬ M.1 41 ≤ 0 := by rw [q1]; exact nI_ge (a := 0) hlen0 hbl3
    obtain ⟨v1, v2, v3, v4⟩ := h.2.2.2.2.1
    refine ⟨fun _ => ?_, fun c => absurd ge c⟩
    have hwm : ∀ m ∈ wl.map (·.1), m < 60 ∧ cl_n (bgn S f) (nI m) := by
      intro m hm
      obtain ⟨q', hq', rfl⟩ := List.mem_map.mp hm
      have := hds.2.2.2.2.2.2.2.2.1 _ (hds.1 q' (hds.2.2.2.1 q' hq').1 q'.1 (by simp))
      exact ⟨by omega, hT0.n this⟩
    have hnm : q.1 ∉ wl.map (·.1) := by
      intro r
      obtain ⟨q', hq', e⟩ := List.mem_map.mp r
      exact (hd q' (hds.2.2.2.1 q' hq').1).2 q'.1 (by simp) (by rw [e]; simp)
    refine cl_C.le (d := 0 + 1) (by omega) (kk_await (hT0.2.2.1 f hf13) hf13 (hT0.n k1.1) (by have := k1.1; omega) hwm (List.nodup_append.mp hds.2.2.2.2.1).2.1 hnm v2 v3 _ (fun S1 a1 a2 a3 a4 a5 => ⟨rfl, a1.1.trans (bgn_X S f).1, rfl, ?_⟩))
    obtain ⟨F1, h1⟩ := h.wait hbe hT hd hb hok (by omega) a1 a2 a3 a4 a5
    refine hQ S1 l (wl ++ [q]) B ((bgn_FR S f).tr F1) ?_ (by simp [csq]; omega) ?_
    · rw [if_neg h41]; exact h1
    · rw [a1.2.2 206 (by decide), e206]
/-- an inline element begins -/
theorem kk_inl3 (hf13 : f < 13) (hLa : la_T S P nn W) (hn : q.1 < nn) (hk : P.2 3 q.1 = 0) (hE : 4 ≤ E) : ∀ Q', Q' none A (bgn S f) → cl_C xs K E 78 [cl_rf A 3 0, cl_rf A 2 (nI f), cl_rf A 5 (nI q.1)] A S Q' := by
  intro Q' hQ
  have hT0 := hLa.1
  have cf : (nI f).toNatClampNeg = f := nI_clamp (by omega)
  obtain ⟨d', rfl⟩ : ∃ d', E = d' + 2 + 1 := ⟨E - 3, by omega⟩
  refine cl_intro (ms78 xs) (Nat.le_of_ble_eq_true rfl) (fun h0 => vc78_0 ⟨hT0.2.2.1 f hf13, hT0.n hn, ?_⟩)
  rw [hT0.cl hn, hT0.kind hn, hk, cf]
  exact ⟨fun _ => ⟨fun _ => ⟨fun _ => hQ, fun c => absurd rfl c⟩, fun c => absurd (by decide) c⟩, fun c => absurd (by decide) c⟩
/-- a text -/
theorem kk_inl6 (hSP : SP P nn W) (hib : f_boxy P i) (hi : i < nn) (hf13 : f < 13) (hox : nb ((f + 1) * 67108864 + 59) ox) (hoy : nb ((f + 1) * 67108864 + 59) oy) (h : SMl xs K A P nn W i f D T ox oy (bgn S f) M l wl bl [] V VW B) (hbk : bkR (bgn S f) M f bl) (hT : ∀ x ∈ sub q, x ∈ T) (hd : apart V q) (hk : P.2 3 q.1 = 1) {w0 : Nat} (ht : txt_ok P W q.1 w0) (hvw : ∀ w ∈ VW, ∀ k, ¬ w = w0 + k) (hV : V.length < 59) (hB : B + csq P wl + cs P q.1 q.2 ≤ 67108000) (hD : 21 ≤ D) (hE : D + 4 ≤ E) : ∀ Q', (∀ S' l' wl' bl' B', FR P W T T f S S' → SMl xs K A P nn W i f D T ox oy S' (f_lineText_M M q.1 (M.2 28 q.1).toNatClampNeg) l' wl' bl' [] (V ++ [q]) (VW ++ List.range' w0 (ws_of P q.1).length) B' → B' + csq P wl' ≤ B + csq P wl + cs P q.1 q.2 → bkR S' (f_lineText_M M q.1 (M.2 28 q.1).toNatClampNeg) f bl' → (M.1 37).toInt ≤ ((f_lineText_M M q.1 (M.2 28 q.1).toNatClampNeg).1 37).toInt → Q' none A S') → cl_C xs K E 78 [cl_rf A 3 0, cl_rf A 2 (nI f), cl_rf A 5 (nI q.1)] A S Q' := by
  intro Q' hQ
  have hT0 := h.1.1
  have h60 := hT0.1
  have cf : (nI f).toNatClampNeg = f := nI_clamp (by omega)
  have hds := h.2.2.2.2.2.2.2.2.2.1
  have hn : q.1 < nn := hds.2.2.2.2.2.2.2.2.1 _ (hT q.1 (by simp))
  have hX := bgn_X S f
  have hf : cl_f S (nI f) := (hT0.2.2.1 f hf13).mv hX.1.symm
  have hz : cl_z S := hT0.2.1.mv hX.1.symm
  have hnn : cl_n S (nI q.1) := (hT0.n hn).mv hX.1.symm
  have e501 : S.2.1 501 q.1 = 1 := by
    rw [← hk, ← hT0.kind hn, hX.2.2 501 (by decide)]
  have hb : f_isBox P (nI q.1) = 0 := by
    unfold f_isBox
    rw [nI_clamp (by omega), ht.1]
    rfl
  have h4 : ¬ P.2 12 q.1 = 4 := by rw [ht.1]; decide
  have hl1 : l1_w P q.1 = (ws_of P q.1).length := by unfold l1_w; rw [if_pos ht.1]
  have hcs : 3000 * (ws_of P q.1).length ≤ cs P q.1 q.2 := by
    unfold cs
    rw [hl1, Nat.mul_add]
    omega
  obtain ⟨d', rfl⟩ : ∃ d', E = d' + 2 + 1 := ⟨E - 3, by omega⟩
  refine cl_intro (ms78 xs) (Nat.le_of_ble_eq_true rfl) (fun h0 => vc78_0 ⟨hf, hnn, ?_⟩)
  rw [hT0.cl hn, e501, cf]
  refine ⟨fun c => absurd rfl c, fun _ => ⟨hz, ?_⟩⟩
  show cl_C xs K (d' + 2) 79 [cl_rf A 3 0, cl_rf A 2 (nI f), cl_rf A 5 (nI q.1)] A (bgn S f) _
  obtain ⟨d'', rfl⟩ : ∃ d'', d' = d'' + 1 := ⟨d' - 1, by omega⟩
  refine cl_intro (ms79 xs) (Nat.le_of_ble_eq_true rfl) (fun h0 => vc79_0 ?_)
  have h1 := h.addV hT hd hb h4
  refine kk_words1 (kn := q.2) hSP hib hi hf13 hox hoy hn (by simp) ht (by simp; omega) hD (by omega) (ws_of P q.1).length 0 (bgn S f) M l wl bl VW B none (by omega) h1 hbk (fun w hw k _ => hvw w hw k) (by omega) ?_
  intro S' l' wl' bl' VW' B' F' h' hVW hB' hbk' mo'
  have ew := ws_st h.2.1 q.1
  have eM : g_fn (by_of P q.1) (g_lt (f_of P (nI q.1) 8) ((ws_of P q.1).drop 0) (w0 + 0) M) = f_lineText_M M q.1 (M.2 28 q.1).toNatClampNeg := by
    rw [lineText_words, ew.1, ew.2, h.2.1.of, h.2.1.1 28 (by decide), ht.2.1, nI_clamp (by
      have := ht.2.2.1
      have := hds.2.2.2.2.2.2.2.2.2.1
      omega)]
    rfl
  rw [eM] at h' hbk' mo'
  subst hVW
  exact ⟨rfl, F'.1.1.trans hX.1, rfl, hQ S' l' wl' bl' B' ((bgn_FR S f).tr F') h' (by omega) hbk' mo'⟩
end ADF
