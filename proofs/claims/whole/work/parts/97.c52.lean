/-! the class: set (by program and by hand: wip/whole/gen/c52.py) -/
theorem ans_w (S : cl_S) (a b c : Int32) : am_ans (some .boolean) (some (.int (g_within S a b c))) = true := by
  unfold g_within
  split
  · rfl
  · split <;> rfl
/-- mayFloat -/
def g_mf (S : cl_S) (x0 : Int32) : Int32 := if ¬ (S.2.1 501 x0.toNatClampNeg) = 0 then 0 else (if (S.2.1 502 x0.toNatClampNeg) = -1 then 0 else 1)
set_option maxHeartbeats 1000000 in
theorem vc27_0 {xs : List Int32} {K : Nat → Prop} {h0 : am_H} {d : Nat} {Q : Option Value → cl_A → cl_S → Prop} {A : cl_A} {S : cl_S} {x0 : Int32}
    (k : (cl_n S x0) ∧ (((¬ (S.2.1 501 x0.toNatClampNeg) = 0) → Q (some (.int 0)) A S) ∧ (¬ (¬ (S.2.1 501 x0.toNatClampNeg) = 0) → (((S.2.1 502 x0.toNatClampNeg) = -1) → Q (some (.int 0)) A S) ∧ (¬ ((S.2.1 502 x0.toNatClampNeg) = -1) → Q (some (.int 1)) A S)))) :
    cl_wp xs K h0 d Q I27 0 [some (cl_rf A 5 x0)] [] A S := by
  refine cl_aload_n (dd D27_ok 0 rfl) rfl ?_
  refine cl_gI (g := 501) (e := S.2.1 501 x0.toNatClampNeg) (dd D27_ok 1 rfl) pl8_60 (by decide) (by decide) (by decide) rfl rfl k.1.l5 rfl ?_
  refine cl_if_ne (tgt := 18) (dd D27_ok 2 rfl) (by decide) (fun c1 => ?_) (fun c1 => ?_)
  · refine cl_iconst (v := 0) (dd D27_ok 8 rfl) (by decide) ?_
    exact cl_iret (dd D27_ok 9 rfl) rfl (k.2.1 c1)
  · refine cl_aload_n (dd D27_ok 3 rfl) rfl ?_
    refine cl_gR (g := 502) (f := 5) (e := S.2.1 502 x0.toNatClampNeg) (dd D27_ok 4 rfl) pl8_135 (by decide) (by decide) (by decide) rfl rfl k.1.l5 rfl ?_
    refine cl_ifnull (tgt := 18) (dd D27_ok 5 rfl) (by decide) (fun c2 => ?_) (fun c2 => ?_)
    · refine cl_iconst (v := 0) (dd D27_ok 8 rfl) (by decide) ?_
      exact cl_iret (dd D27_ok 9 rfl) rfl ((k.2.2 c1).1 c2)
    · refine cl_iconst (v := 1) (dd D27_ok 6 rfl) (by decide) ?_
      refine cl_goto (tgt := 19) (dd D27_ok 7 rfl) (by decide) ?_
      exact cl_iret (dd D27_ok 9 rfl) rfl ((k.2.2 c1).2 c2)
theorem cc_g_mf {xs : List Int32} {K : Nat → Prop} {d : Nat} {A : cl_A} {S : cl_S} {x0 : Int32} (h0 : cl_n S x0) : ∀ Q', Q' (some (.int (g_mf S x0))) A S → cl_C xs K (d + 1) 27 [cl_rf A 5 x0] A S Q' := by
  intro Q' hQ
  refine cl_intro (ms27 xs) (Nat.le_of_ble_eq_true rfl) (fun h0 => vc27_0 ?_)
  unfold g_mf at hQ
  refine ⟨by first | assumption, ?_⟩
  refine ⟨fun c1 => ?_, fun c1 => ?_⟩
  · rw [if_pos c1] at hQ
    exact hQ
  · rw [if_neg c1] at hQ
    refine ⟨fun c2 => ?_, fun c2 => ?_⟩
    · rw [if_pos c2] at hQ
      exact hQ
    · rw [if_neg c2] at hQ
      exact hQ
/-- mayDisplay -/
def g_md (S : cl_S) (x0 x1 : Int32) : Int32 := if ¬ (S.2.1 501 x0.toNatClampNeg) = 3 then (if (S.2.1 501 x0.toNatClampNeg) = 0 then (if ¬ (S.2.1 502 x0.toNatClampNeg) = -1 then (g_within S x1 0 3) else (if x1 = 0 then 1 else (if ¬ x1 = 2 then 0 else 1))) else (if ¬ x1 = 1 then 0 else 1)) else (if x1 = 1 then 1 else (if ¬ x1 = 3 then 0 else 1))
set_option maxHeartbeats 1000000 in
theorem vc25_0 {xs : List Int32} {K : Nat → Prop} {h0 : am_H} {d : Nat} {Q : Option Value → cl_A → cl_S → Prop} {A : cl_A} {S : cl_S} {x0 : Int32} {x1 : Int32}
    (k : (cl_n S x0) ∧ (((¬ (S.2.1 501 x0.toNatClampNeg) = 3) → (((S.2.1 501 x0.toNatClampNeg) = 0) → ((¬ (S.2.1 502 x0.toNatClampNeg) = -1) → (am_ans (some .boolean) (some (.int (g_within S x1 0 3))) = true) ∧ (Q (some (.int (g_within S x1 0 3))) A S)) ∧ (¬ (¬ (S.2.1 502 x0.toNatClampNeg) = -1) → ((x1 = 0) → Q (some (.int 1)) A S) ∧ (¬ (x1 = 0) → ((¬ x1 = 2) → Q (some (.int 0)) A S) ∧ (¬ (¬ x1 = 2) → Q (some (.int 1)) A S)))) ∧ (¬ ((S.2.1 501 x0.toNatClampNeg) = 0) → ((¬ x1 = 1) → Q (some (.int 0)) A S) ∧ (¬ (¬ x1 = 1) → Q (some (.int 1)) A S))) ∧ (¬ (¬ (S.2.1 501 x0.toNatClampNeg) = 3) → ((x1 = 1) → Q (some (.int 1)) A S) ∧ (¬ (x1 = 1) → ((¬ x1 = 3) → Q (some (.int 0)) A S) ∧ (¬ (¬ x1 = 3) → Q (some (.int 1)) A S))))) :
    cl_wp xs K h0 (d + 1) Q I25 0 [some (cl_rf A 5 x0), some (.int x1)] [] A S := by
  refine cl_aload_n (dd D25_ok 0 rfl) rfl ?_
  refine cl_gI (g := 501) (e := S.2.1 501 x0.toNatClampNeg) (dd D25_ok 1 rfl) pl8_60 (by decide) (by decide) (by decide) rfl rfl k.1.l5 rfl ?_
  refine cl_iconst (v := 3) (dd D25_ok 2 rfl) (by decide) ?_
  refine cl_icmp_ne (tgt := 24) (dd D25_ok 3 rfl) (by decide) (fun c1 => ?_) (fun c1 => ?_)
  · refine cl_aload_n (dd D25_ok 14 rfl) rfl ?_
    refine cl_gI (g := 501) (e := S.2.1 501 x0.toNatClampNeg) (dd D25_ok 15 rfl) pl8_60 (by decide) (by decide) (by decide) rfl rfl k.1.l5 rfl ?_
    refine cl_if_eq (tgt := 42) (dd D25_ok 16 rfl) (by decide) (fun c2 => ?_) (fun c2 => ?_)
    · refine cl_aload_n (dd D25_ok 24 rfl) rfl ?_
      refine cl_gR (g := 502) (f := 5) (e := S.2.1 502 x0.toNatClampNeg) (dd D25_ok 25 rfl) pl8_135 (by decide) (by decide) (by decide) rfl rfl k.1.l5 rfl ?_
      refine cl_ifnonnull (tgt := 64) (dd D25_ok 26 rfl) (by decide) (fun c3 => ?_) (fun c3 => ?_)
      · refine cl_iload_n (dd D25_ok 36 rfl) rfl ?_
        refine cl_iconst (v := 0) (dd D25_ok 37 rfl) (by decide) ?_
        refine cl_iconst (v := 3) (dd D25_ok 38 rfl) (by decide) ?_
        refine cl_callsP (r := .int (g_within S x1 0 3)) (as := [.int x1, .int 0, .int 3]) (rest := []) (dd D25_ok 39 rfl) pl8_156 rfl (Nat.le_of_ble_eq_true rfl) (cc_g_within (S := S) ) rfl ?_
        exact cl_iret (dd D25_ok 40 rfl) (((k.2.1 c1).1 c2).1 c3).1 (((k.2.1 c1).1 c2).1 c3).2
      · refine cl_iload_n (dd D25_ok 27 rfl) rfl ?_
        refine cl_if_eq (tgt := 58) (dd D25_ok 28 rfl) (by decide) (fun c4 => ?_) (fun c4 => ?_)
        · refine cl_iconst (v := 1) (dd D25_ok 32 rfl) (by decide) ?_
          refine cl_goto (tgt := 63) (dd D25_ok 33 rfl) (by decide) ?_
          exact cl_iret (dd D25_ok 35 rfl) rfl ((((k.2.1 c1).1 c2).2 c3).1 c4)
        · refine cl_iload_n (dd D25_ok 29 rfl) rfl ?_
          refine cl_iconst (v := 2) (dd D25_ok 30 rfl) (by decide) ?_
          refine cl_icmp_ne (tgt := 62) (dd D25_ok 31 rfl) (by decide) (fun c5 => ?_) (fun c5 => ?_)
          · refine cl_iconst (v := 0) (dd D25_ok 34 rfl) (by decide) ?_
            exact cl_iret (dd D25_ok 35 rfl) rfl (((((k.2.1 c1).1 c2).2 c3).2 c4).1 c5)
          · refine cl_iconst (v := 1) (dd D25_ok 32 rfl) (by decide) ?_
            refine cl_goto (tgt := 63) (dd D25_ok 33 rfl) (by decide) ?_
            exact cl_iret (dd D25_ok 35 rfl) rfl (((((k.2.1 c1).1 c2).2 c3).2 c4).2 c5)
    · refine cl_iload_n (dd D25_ok 17 rfl) rfl ?_
      refine cl_iconst (v := 1) (dd D25_ok 18 rfl) (by decide) ?_
      refine cl_icmp_ne (tgt := 40) (dd D25_ok 19 rfl) (by decide) (fun c6 => ?_) (fun c6 => ?_)
      · refine cl_iconst (v := 0) (dd D25_ok 22 rfl) (by decide) ?_
        exact cl_iret (dd D25_ok 23 rfl) rfl (((k.2.1 c1).2 c2).1 c6)
      · refine cl_iconst (v := 1) (dd D25_ok 20 rfl) (by decide) ?_
        refine cl_goto (tgt := 41) (dd D25_ok 21 rfl) (by decide) ?_
        exact cl_iret (dd D25_ok 23 rfl) rfl (((k.2.1 c1).2 c2).2 c6)
  · refine cl_iload_n (dd D25_ok 4 rfl) rfl ?_
    refine cl_iconst (v := 1) (dd D25_ok 5 rfl) (by decide) ?_
    refine cl_icmp_eq (tgt := 18) (dd D25_ok 6 rfl) (by decide) (fun c7 => ?_) (fun c7 => ?_)
    · refine cl_iconst (v := 1) (dd D25_ok 10 rfl) (by decide) ?_
      refine cl_goto (tgt := 23) (dd D25_ok 11 rfl) (by decide) ?_
      exact cl_iret (dd D25_ok 13 rfl) rfl ((k.2.2 c1).1 c7)
    · refine cl_iload_n (dd D25_ok 7 rfl) rfl ?_
      refine cl_iconst (v := 3) (dd D25_ok 8 rfl) (by decide) ?_
      refine cl_icmp_ne (tgt := 22) (dd D25_ok 9 rfl) (by decide) (fun c8 => ?_) (fun c8 => ?_)
      · refine cl_iconst (v := 0) (dd D25_ok 12 rfl) (by decide) ?_
        exact cl_iret (dd D25_ok 13 rfl) rfl (((k.2.2 c1).2 c7).1 c8)
      · refine cl_iconst (v := 1) (dd D25_ok 10 rfl) (by decide) ?_
        refine cl_goto (tgt := 23) (dd D25_ok 11 rfl) (by decide) ?_
        exact cl_iret (dd D25_ok 13 rfl) rfl (((k.2.2 c1).2 c7).2 c8)
theorem cc_g_md {xs : List Int32} {K : Nat → Prop} {d : Nat} {A : cl_A} {S : cl_S} {x0 x1 : Int32} (h0 : cl_n S x0) : ∀ Q', Q' (some (.int (g_md S x0 x1))) A S → cl_C xs K (d + 2) 25 [cl_rf A 5 x0, .int x1] A S Q' := by
  intro Q' hQ
  refine cl_intro (ms25 xs) (Nat.le_of_ble_eq_true rfl) (fun h0 => vc25_0 ?_)
  unfold g_md at hQ
  refine ⟨by first | assumption | exact ans_w _ _ _ _, ?_⟩
  refine ⟨fun c1 => ?_, fun c1 => ?_⟩
  · rw [if_pos c1] at hQ
    refine ⟨fun c2 => ?_, fun c2 => ?_⟩
    · rw [if_pos c2] at hQ
      refine ⟨fun c3 => ?_, fun c3 => ?_⟩
      · rw [if_pos c3] at hQ
        refine ⟨by first | assumption | exact ans_w _ _ _ _, ?_⟩
        exact hQ
      · rw [if_neg c3] at hQ
        refine ⟨fun c4 => ?_, fun c4 => ?_⟩
        · rw [if_pos c4] at hQ
          exact hQ
        · rw [if_neg c4] at hQ
          refine ⟨fun c5 => ?_, fun c5 => ?_⟩
          · rw [if_pos c5] at hQ
            exact hQ
          · rw [if_neg c5] at hQ
            exact hQ
    · rw [if_neg c2] at hQ
      refine ⟨fun c6 => ?_, fun c6 => ?_⟩
      · rw [if_pos c6] at hQ
        exact hQ
      · rw [if_neg c6] at hQ
        exact hQ
  · rw [if_neg c1] at hQ
    refine ⟨fun c7 => ?_, fun c7 => ?_⟩
    · rw [if_pos c7] at hQ
      exact hQ
    · rw [if_neg c7] at hQ
      refine ⟨fun c8 => ?_, fun c8 => ?_⟩
      · rw [if_pos c8] at hQ
        exact hQ
      · rw [if_neg c8] at hQ
        exact hQ
theorem ans_md (S : cl_S) (a b : Int32) : am_ans (some .boolean) (some (.int (g_md S a b))) = true := by
  unfold g_md
  split
  · split
    · split
      · exact ans_w _ _ _ _
      · split
        · rfl
        · split <;> rfl
    · split <;> rfl
  · split
    · rfl
    · split <;> rfl
/-- mayHave -/
def g_mh (S : cl_S) (x0 x1 x2 : Int32) : Int32 := if x1 = 0 then (g_md S x0 x2) else (if x1 = 1 then (if x2 = 0 then 1 else (if (g_mf S x0) = 0 then 0 else (if (g_within S x2 1 2) = 0 then 0 else 1))) else (if x1 = 2 then (if ¬ (g_within S x2 (-1) 400) = 0 then 1 else (if (g_within S x2 1000 1100) = 0 then 0 else 1)) else (if x1 = 3 then (g_within S x2 (-1) 400) else (if x1 = 4 then (g_within S x2 0 50) else (if x1 = 5 then (g_within S x2 0 9) else (if x1 = 6 then (g_within S x2 0 50) else (if x1 = 7 then (g_within S x2 0 2) else (if x1 = 8 then (g_within S x2 1 4) else 0))))))))
set_option maxHeartbeats 1000000 in
theorem vc24_0 {xs : List Int32} {K : Nat → Prop} {h0 : am_H} {d : Nat} {Q : Option Value → cl_A → cl_S → Prop} {A : cl_A} {S : cl_S} {x0 : Int32} {x1 : Int32} {x2 : Int32}
    (k : ((x1 = 0) → (cl_n S x0) ∧ ((am_ans (some .boolean) (some (.int (g_md S x0 x2))) = true) ∧ (Q (some (.int (g_md S x0 x2))) A S))) ∧ (¬ (x1 = 0) → ((x1 = 1) → ((x2 = 0) → Q (some (.int 1)) A S) ∧ (¬ (x2 = 0) → (cl_n S x0) ∧ ((((g_mf S x0) = 0) → Q (some (.int 0)) A S) ∧ (¬ ((g_mf S x0) = 0) → (((g_within S x2 1 2) = 0) → Q (some (.int 0)) A S) ∧ (¬ ((g_within S x2 1 2) = 0) → Q (some (.int 1)) A S))))) ∧ (¬ (x1 = 1) → ((x1 = 2) → ((¬ (g_within S x2 (-1) 400) = 0) → Q (some (.int 1)) A S) ∧ (¬ (¬ (g_within S x2 (-1) 400) = 0) → (((g_within S x2 1000 1100) = 0) → Q (some (.int 0)) A S) ∧ (¬ ((g_within S x2 1000 1100) = 0) → Q (some (.int 1)) A S))) ∧ (¬ (x1 = 2) → ((x1 = 3) → (am_ans (some .boolean) (some (.int (g_within S x2 (-1) 400))) = true) ∧ (Q (some (.int (g_within S x2 (-1) 400))) A S)) ∧ (¬ (x1 = 3) → ((x1 = 4) → (am_ans (some .boolean) (some (.int (g_within S x2 0 50))) = true) ∧ (Q (some (.int (g_within S x2 0 50))) A S)) ∧ (¬ (x1 = 4) → ((x1 = 5) → (am_ans (some .boolean) (some (.int (g_within S x2 0 9))) = true) ∧ (Q (some (.int (g_within S x2 0 9))) A S)) ∧ (¬ (x1 = 5) → ((x1 = 6) → (am_ans (some .boolean) (some (.int (g_within S x2 0 50))) = true) ∧ (Q (some (.int (g_within S x2 0 50))) A S)) ∧ (¬ (x1 = 6) → ((x1 = 7) → (am_ans (some .boolean) (some (.int (g_within S x2 0 2))) = true) ∧ (Q (some (.int (g_within S x2 0 2))) A S)) ∧ (¬ (x1 = 7) → ((x1 = 8) → (am_ans (some .boolean) (some (.int (g_within S x2 1 4))) = true) ∧ (Q (some (.int (g_within S x2 1 4))) A S)) ∧ (¬ (x1 = 8) → Q (some (.int 0)) A S)))))))))) :
    cl_wp xs K h0 (d + 2) Q I24 0 [some (cl_rf A 5 x0), some (.int x1), some (.int x2)] [] A S := by
  refine cl_iload_n (dd D24_ok 0 rfl) rfl ?_
  by_cases c1 : x1 = 0
  · refine cl_tsw (tgt := 52) (dd D24_ok 1 rfl) (Or.inr ⟨by rw [c1]; decide, by rw [c1]; decide, _, by rw [c1]; rfl, by decide⟩) ?_
    refine cl_aload_n (dd D24_ok 2 rfl) rfl ?_
    refine cl_iload_n (dd D24_ok 3 rfl) rfl ?_
    refine cl_callsP (r := .int (g_md S x0 x2)) (as := [cl_rf A 5 x0, .int x2]) (rest := []) (dd D24_ok 4 rfl) pl8_149 rfl (Nat.le_of_ble_eq_true rfl) (cc_g_md (S := S) (k.1 c1).1) rfl ?_
    exact cl_iret (dd D24_ok 5 rfl) (k.1 c1).2.1 (k.1 c1).2.2
  by_cases c2 : x1 = 1
  · refine cl_tsw (tgt := 58) (dd D24_ok 1 rfl) (Or.inr ⟨by rw [c2]; decide, by rw [c2]; decide, _, by rw [c2]; rfl, by decide⟩) ?_
    refine cl_iload_n (dd D24_ok 6 rfl) rfl ?_
    refine cl_if_eq (tgt := 78) (dd D24_ok 7 rfl) (by decide) (fun c3 => ?_) (fun c3 => ?_)
    · refine cl_iconst (v := 1) (dd D24_ok 16 rfl) (by decide) ?_
      refine cl_goto (tgt := 83) (dd D24_ok 17 rfl) (by decide) ?_
      exact cl_iret (dd D24_ok 19 rfl) rfl (((k.2 c1).1 c2).1 c3)
    · refine cl_aload_n (dd D24_ok 8 rfl) rfl ?_
      refine cl_callsP (r := .int (g_mf S x0)) (as := [cl_rf A 5 x0]) (rest := []) (dd D24_ok 9 rfl) pl8_153 rfl (Nat.le_of_ble_eq_true rfl) (cc_g_mf (S := S) (((k.2 c1).1 c2).2 c3).1) rfl ?_
      refine cl_if_eq (tgt := 82) (dd D24_ok 10 rfl) (by decide) (fun c4 => ?_) (fun c4 => ?_)
      · refine cl_iconst (v := 0) (dd D24_ok 18 rfl) (by decide) ?_
        exact cl_iret (dd D24_ok 19 rfl) rfl ((((k.2 c1).1 c2).2 c3).2.1 c4)
      · refine cl_iload_n (dd D24_ok 11 rfl) rfl ?_
        refine cl_iconst (v := 1) (dd D24_ok 12 rfl) (by decide) ?_
        refine cl_iconst (v := 2) (dd D24_ok 13 rfl) (by decide) ?_
        refine cl_callsP (r := .int (g_within S x2 1 2)) (as := [.int x2, .int 1, .int 2]) (rest := []) (dd D24_ok 14 rfl) pl8_156 rfl (Nat.le_of_ble_eq_true rfl) (cc_g_within (S := S) ) rfl ?_
        refine cl_if_eq (tgt := 82) (dd D24_ok 15 rfl) (by decide) (fun c5 => ?_) (fun c5 => ?_)
        · refine cl_iconst (v := 0) (dd D24_ok 18 rfl) (by decide) ?_
          exact cl_iret (dd D24_ok 19 rfl) rfl (((((k.2 c1).1 c2).2 c3).2.2 c4).1 c5)
        · refine cl_iconst (v := 1) (dd D24_ok 16 rfl) (by decide) ?_
          refine cl_goto (tgt := 83) (dd D24_ok 17 rfl) (by decide) ?_
          exact cl_iret (dd D24_ok 19 rfl) rfl (((((k.2 c1).1 c2).2 c3).2.2 c4).2 c5)
  by_cases c6 : x1 = 2
  · refine cl_tsw (tgt := 84) (dd D24_ok 1 rfl) (Or.inr ⟨by rw [c6]; decide, by rw [c6]; decide, _, by rw [c6]; rfl, by decide⟩) ?_
    refine cl_iload_n (dd D24_ok 20 rfl) rfl ?_
    refine cl_iconst (v := (-1)) (dd D24_ok 21 rfl) (by decide) ?_
    refine cl_sipush (v := 400) (dd D24_ok 22 rfl) (by decide) ?_
    refine cl_callsP (r := .int (g_within S x2 (-1) 400)) (as := [.int x2, .int (-1), .int 400]) (rest := []) (dd D24_ok 23 rfl) pl8_156 rfl (Nat.le_of_ble_eq_true rfl) (cc_g_within (S := S) ) rfl ?_
    refine cl_if_ne (tgt := 108) (dd D24_ok 24 rfl) (by decide) (fun c7 => ?_) (fun c7 => ?_)
    · refine cl_iconst (v := 1) (dd D24_ok 30 rfl) (by decide) ?_
      refine cl_goto (tgt := 113) (dd D24_ok 31 rfl) (by decide) ?_
      exact cl_iret (dd D24_ok 33 rfl) rfl ((((k.2 c1).2 c2).1 c6).1 c7)
    · refine cl_iload_n (dd D24_ok 25 rfl) rfl ?_
      refine cl_sipush (v := 1000) (dd D24_ok 26 rfl) (by decide) ?_
      refine cl_sipush (v := 1100) (dd D24_ok 27 rfl) (by decide) ?_
      refine cl_callsP (r := .int (g_within S x2 1000 1100)) (as := [.int x2, .int 1000, .int 1100]) (rest := []) (dd D24_ok 28 rfl) pl8_156 rfl (Nat.le_of_ble_eq_true rfl) (cc_g_within (S := S) ) rfl ?_
      refine cl_if_eq (tgt := 112) (dd D24_ok 29 rfl) (by decide) (fun c8 => ?_) (fun c8 => ?_)
      · refine cl_iconst (v := 0) (dd D24_ok 32 rfl) (by decide) ?_
        exact cl_iret (dd D24_ok 33 rfl) rfl (((((k.2 c1).2 c2).1 c6).2 c7).1 c8)
      · refine cl_iconst (v := 1) (dd D24_ok 30 rfl) (by decide) ?_
        refine cl_goto (tgt := 113) (dd D24_ok 31 rfl) (by decide) ?_
        exact cl_iret (dd D24_ok 33 rfl) rfl (((((k.2 c1).2 c2).1 c6).2 c7).2 c8)
  by_cases c9 : x1 = 3
  · refine cl_tsw (tgt := 114) (dd D24_ok 1 rfl) (Or.inr ⟨by rw [c9]; decide, by rw [c9]; decide, _, by rw [c9]; rfl, by decide⟩) ?_
    refine cl_iload_n (dd D24_ok 34 rfl) rfl ?_
    refine cl_iconst (v := (-1)) (dd D24_ok 35 rfl) (by decide) ?_
    refine cl_sipush (v := 400) (dd D24_ok 36 rfl) (by decide) ?_
    refine cl_callsP (r := .int (g_within S x2 (-1) 400)) (as := [.int x2, .int (-1), .int 400]) (rest := []) (dd D24_ok 37 rfl) pl8_156 rfl (Nat.le_of_ble_eq_true rfl) (cc_g_within (S := S) ) rfl ?_
    exact cl_iret (dd D24_ok 38 rfl) ((((k.2 c1).2 c2).2 c6).1 c9).1 ((((k.2 c1).2 c2).2 c6).1 c9).2
  by_cases c10 : x1 = 4
  · refine cl_tsw (tgt := 123) (dd D24_ok 1 rfl) (Or.inr ⟨by rw [c10]; decide, by rw [c10]; decide, _, by rw [c10]; rfl, by decide⟩) ?_
    refine cl_iload_n (dd D24_ok 39 rfl) rfl ?_
    refine cl_iconst (v := 0) (dd D24_ok 40 rfl) (by decide) ?_
    refine cl_bipush (v := 50) (dd D24_ok 41 rfl) (by decide) ?_
    refine cl_callsP (r := .int (g_within S x2 0 50)) (as := [.int x2, .int 0, .int 50]) (rest := []) (dd D24_ok 42 rfl) pl8_156 rfl (Nat.le_of_ble_eq_true rfl) (cc_g_within (S := S) ) rfl ?_
    exact cl_iret (dd D24_ok 43 rfl) (((((k.2 c1).2 c2).2 c6).2 c9).1 c10).1 (((((k.2 c1).2 c2).2 c6).2 c9).1 c10).2
  by_cases c11 : x1 = 5
  · refine cl_tsw (tgt := 131) (dd D24_ok 1 rfl) (Or.inr ⟨by rw [c11]; decide, by rw [c11]; decide, _, by rw [c11]; rfl, by decide⟩) ?_
    refine cl_iload_n (dd D24_ok 44 rfl) rfl ?_
    refine cl_iconst (v := 0) (dd D24_ok 45 rfl) (by decide) ?_
    refine cl_bipush (v := 9) (dd D24_ok 46 rfl) (by decide) ?_
    refine cl_callsP (r := .int (g_within S x2 0 9)) (as := [.int x2, .int 0, .int 9]) (rest := []) (dd D24_ok 47 rfl) pl8_156 rfl (Nat.le_of_ble_eq_true rfl) (cc_g_within (S := S) ) rfl ?_
    exact cl_iret (dd D24_ok 48 rfl) ((((((k.2 c1).2 c2).2 c6).2 c9).2 c10).1 c11).1 ((((((k.2 c1).2 c2).2 c6).2 c9).2 c10).1 c11).2
  by_cases c12 : x1 = 6
  · refine cl_tsw (tgt := 139) (dd D24_ok 1 rfl) (Or.inr ⟨by rw [c12]; decide, by rw [c12]; decide, _, by rw [c12]; rfl, by decide⟩) ?_
    refine cl_iload_n (dd D24_ok 49 rfl) rfl ?_
    refine cl_iconst (v := 0) (dd D24_ok 50 rfl) (by decide) ?_
    refine cl_bipush (v := 50) (dd D24_ok 51 rfl) (by decide) ?_
    refine cl_callsP (r := .int (g_within S x2 0 50)) (as := [.int x2, .int 0, .int 50]) (rest := []) (dd D24_ok 52 rfl) pl8_156 rfl (Nat.le_of_ble_eq_true rfl) (cc_g_within (S := S) ) rfl ?_
    exact cl_iret (dd D24_ok 53 rfl) (((((((k.2 c1).2 c2).2 c6).2 c9).2 c10).2 c11).1 c12).1 (((((((k.2 c1).2 c2).2 c6).2 c9).2 c10).2 c11).1 c12).2
  by_cases c13 : x1 = 7
  · refine cl_tsw (tgt := 147) (dd D24_ok 1 rfl) (Or.inr ⟨by rw [c13]; decide, by rw [c13]; decide, _, by rw [c13]; rfl, by decide⟩) ?_
    refine cl_iload_n (dd D24_ok 54 rfl) rfl ?_
    refine cl_iconst (v := 0) (dd D24_ok 55 rfl) (by decide) ?_
    refine cl_iconst (v := 2) (dd D24_ok 56 rfl) (by decide) ?_
    refine cl_callsP (r := .int (g_within S x2 0 2)) (as := [.int x2, .int 0, .int 2]) (rest := []) (dd D24_ok 57 rfl) pl8_156 rfl (Nat.le_of_ble_eq_true rfl) (cc_g_within (S := S) ) rfl ?_
    exact cl_iret (dd D24_ok 58 rfl) ((((((((k.2 c1).2 c2).2 c6).2 c9).2 c10).2 c11).2 c12).1 c13).1 ((((((((k.2 c1).2 c2).2 c6).2 c9).2 c10).2 c11).2 c12).1 c13).2
  by_cases c14 : x1 = 8
  · refine cl_tsw (tgt := 154) (dd D24_ok 1 rfl) (Or.inr ⟨by rw [c14]; decide, by rw [c14]; decide, _, by rw [c14]; rfl, by decide⟩) ?_
    refine cl_iload_n (dd D24_ok 59 rfl) rfl ?_
    refine cl_iconst (v := 1) (dd D24_ok 60 rfl) (by decide) ?_
    refine cl_iconst (v := 4) (dd D24_ok 61 rfl) (by decide) ?_
    refine cl_callsP (r := .int (g_within S x2 1 4)) (as := [.int x2, .int 1, .int 4]) (rest := []) (dd D24_ok 62 rfl) pl8_156 rfl (Nat.le_of_ble_eq_true rfl) (cc_g_within (S := S) ) rfl ?_
    exact cl_iret (dd D24_ok 63 rfl) (((((((((k.2 c1).2 c2).2 c6).2 c9).2 c10).2 c11).2 c12).2 c13).1 c14).1 (((((((((k.2 c1).2 c2).2 c6).2 c9).2 c10).2 c11).2 c12).2 c13).1 c14).2
  refine cl_tsw (tgt := 161) (dd D24_ok 1 rfl) (Or.inl ⟨md_out9_0 c1 c2 c6 c9 c10 c11 c12 c13 c14, by decide⟩) ?_
  refine cl_iconst (v := 0) (dd D24_ok 64 rfl) (by decide) ?_
  exact cl_iret (dd D24_ok 65 rfl) rfl (((((((((k.2 c1).2 c2).2 c6).2 c9).2 c10).2 c11).2 c12).2 c13).2 c14)
theorem cc_g_mh {xs : List Int32} {K : Nat → Prop} {d : Nat} {A : cl_A} {S : cl_S} {x0 x1 x2 : Int32} (h0 : cl_n S x0) : ∀ Q', Q' (some (.int (g_mh S x0 x1 x2))) A S → cl_C xs K (d + 3) 24 [cl_rf A 5 x0, .int x1, .int x2] A S Q' := by
  intro Q' hQ
  refine cl_intro (ms24 xs) (Nat.le_of_ble_eq_true rfl) (fun h0 => vc24_0 ?_)
  unfold g_mh at hQ
  refine ⟨fun c1 => ?_, fun c1 => ?_⟩
  · rw [if_pos c1] at hQ
    refine ⟨by first | assumption | exact ans_w _ _ _ _ | exact ans_md _ _ _, ?_⟩
    refine ⟨by first | assumption | exact ans_w _ _ _ _ | exact ans_md _ _ _, ?_⟩
    exact hQ
  · rw [if_neg c1] at hQ
    refine ⟨fun c2 => ?_, fun c2 => ?_⟩
    · rw [if_pos c2] at hQ
      refine ⟨fun c3 => ?_, fun c3 => ?_⟩
      · rw [if_pos c3] at hQ
        exact hQ
      · rw [if_neg c3] at hQ
        refine ⟨by first | assumption | exact ans_w _ _ _ _ | exact ans_md _ _ _, ?_⟩
        refine ⟨fun c4 => ?_, fun c4 => ?_⟩
        · rw [if_pos c4] at hQ
          exact hQ
        · rw [if_neg c4] at hQ
          refine ⟨fun c5 => ?_, fun c5 => ?_⟩
          · rw [if_pos c5] at hQ
            exact hQ
          · rw [if_neg c5] at hQ
            exact hQ
    · rw [if_neg c2] at hQ
      refine ⟨fun c6 => ?_, fun c6 => ?_⟩
      · rw [if_pos c6] at hQ
        refine ⟨fun c7 => ?_, fun c7 => ?_⟩
        · rw [if_pos c7] at hQ
          exact hQ
        · rw [if_neg c7] at hQ
          refine ⟨fun c8 => ?_, fun c8 => ?_⟩
          · rw [if_pos c8] at hQ
            exact hQ
          · rw [if_neg c8] at hQ
            exact hQ
      · rw [if_neg c6] at hQ
        refine ⟨fun c9 => ?_, fun c9 => ?_⟩
        · rw [if_pos c9] at hQ
          refine ⟨by first | assumption | exact ans_w _ _ _ _ | exact ans_md _ _ _, ?_⟩
          exact hQ
        · rw [if_neg c9] at hQ
          refine ⟨fun c10 => ?_, fun c10 => ?_⟩
          · rw [if_pos c10] at hQ
            refine ⟨by first | assumption | exact ans_w _ _ _ _ | exact ans_md _ _ _, ?_⟩
            exact hQ
          · rw [if_neg c10] at hQ
            refine ⟨fun c11 => ?_, fun c11 => ?_⟩
            · rw [if_pos c11] at hQ
              refine ⟨by first | assumption | exact ans_w _ _ _ _ | exact ans_md _ _ _, ?_⟩
              exact hQ
            · rw [if_neg c11] at hQ
              refine ⟨fun c12 => ?_, fun c12 => ?_⟩
              · rw [if_pos c12] at hQ
                refine ⟨by first | assumption | exact ans_w _ _ _ _ | exact ans_md _ _ _, ?_⟩
                exact hQ
              · rw [if_neg c12] at hQ
                refine ⟨fun c13 => ?_, fun c13 => ?_⟩
                · rw [if_pos c13] at hQ
                  refine ⟨by first | assumption | exact ans_w _ _ _ _ | exact ans_md _ _ _, ?_⟩
                  exact hQ
                · rw [if_neg c13] at hQ
                  refine ⟨fun c14 => ?_, fun c14 => ?_⟩
                  · rw [if_pos c14] at hQ
                    refine ⟨by first | assumption | exact ans_w _ _ _ _ | exact ans_md _ _ _, ?_⟩
                    exact hQ
                  · rw [if_neg c14] at hQ
                    exact hQ
set_option maxHeartbeats 1000000 in
theorem vc23_0 {xs : List Int32} {K : Nat → Prop} {h0 : am_H} {d : Nat} {Q : Option Value → cl_A → cl_S → Prop} {A : cl_A} {S : cl_S} {x1 : Int32} {x2 : Int32} {x3 : Int32}
    (k : (cl_z S) ∧ (cl_C xs K (d + 3) 19 [cl_rf A 8 0, .int x1] A S (fun v A' N1 => A' = A ∧ N1.1 = S.1 ∧ ∃ y1, v = some (cl_rf A 5 y1) ∧ (((y1 = -1) → Q (some (.int (-2))) A N1) ∧ (¬ (y1 = -1) → (cl_n N1 y1) ∧ ((((g_mh N1 y1 x2 x3) = 0) → Q (some (.int (-2))) A N1) ∧ (¬ ((g_mh N1 y1 x2 x3) = 0) → ((x2 < 0) → Q (some (.int (-2))) A N1) ∧ (¬ (x2 < 0) → ((x2 < 9) → (vp_in x2 9) ∧ (Q (some (.int (N1.2.1 2200 (9 * y1.toNatClampNeg + x2.toNatClampNeg)))) A (cl_up N1 2200 (9 * y1.toNatClampNeg + x2.toNatClampNeg) x3))) ∧ (¬ (x2 < 9) → Q (some (.int (-2))) A N1))))))))) :
    cl_wp xs K h0 (d + 3) Q I23 0 [some (cl_rf A 8 0), some (.int x1), some (.int x2), some (.int x3), none, none] [] A S := by
  refine cl_aload_n (dd D23_ok 0 rfl) rfl ?_
  refine cl_iload_n (dd D23_ok 1 rfl) rfl ?_
  refine cl_call (as := [.int x1]) (rest := []) (v := 0) (dd D23_ok 2 rfl) pl8_57 rfl (Nat.le_of_ble_eq_true rfl) (ms19 xs) rfl (by decide) k.1.l8 ((k.2).mono ?_) rfl
  rintro v A N1 ⟨rfl, e1, y1, rfl, w1⟩
  refine cl_astore (dd D23_ok 3 rfl) (Nat.le_of_ble_eq_true rfl) ?_
  refine cl_aload (dd D23_ok 4 rfl) rfl ?_
  refine cl_ifnull (tgt := 36) (dd D23_ok 5 rfl) (by decide) (fun c1 => ?_) (fun c1 => ?_)
  · refine cl_bipush (v := (-2)) (dd D23_ok 18 rfl) (by decide) ?_
    exact cl_iret (dd D23_ok 19 rfl) rfl (w1.1 c1)
  · refine cl_aload (dd D23_ok 6 rfl) rfl ?_
    refine cl_iload_n (dd D23_ok 7 rfl) rfl ?_
    refine cl_iload_n (dd D23_ok 8 rfl) rfl ?_
    refine cl_callsP (r := .int (g_mh N1 y1 x2 x3)) (as := [cl_rf A 5 y1, .int x2, .int x3]) (rest := []) (dd D23_ok 9 rfl) pl8_72 rfl (Nat.le_of_ble_eq_true rfl) (cc_g_mh (S := N1) (w1.2 c1).1) rfl ?_
    refine cl_if_eq (tgt := 36) (dd D23_ok 10 rfl) (by decide) (fun c2 => ?_) (fun c2 => ?_)
    · refine cl_bipush (v := (-2)) (dd D23_ok 18 rfl) (by decide) ?_
      exact cl_iret (dd D23_ok 19 rfl) rfl ((w1.2 c1).2.1 c2)
    · refine cl_iload_n (dd D23_ok 11 rfl) rfl ?_
      refine cl_if_lt (tgt := 36) (dd D23_ok 12 rfl) (by decide) (fun c3 => ?_) (fun c3 => ?_)
      · refine cl_bipush (v := (-2)) (dd D23_ok 18 rfl) (by decide) ?_
        exact cl_iret (dd D23_ok 19 rfl) rfl (((w1.2 c1).2.2 c2).1 c3)
      · refine cl_iload_n (dd D23_ok 13 rfl) rfl ?_
        refine cl_aload (dd D23_ok 14 rfl) rfl ?_
        refine cl_getO (g := 22) (dd D23_ok 15 rfl) pl8_76 (by decide) (by decide) (by decide) rfl (w1.2 c1).1.l5 ?_
        refine cl_len22 (dd D23_ok 16 rfl) (w1.2 c1).1.l22 ?_
        refine cl_icmp_lt (tgt := 39) (dd D23_ok 17 rfl) (by decide) (fun c4 => ?_) (fun c4 => ?_)
        · refine cl_aload (dd D23_ok 20 rfl) rfl ?_
          refine cl_getO (g := 22) (dd D23_ok 21 rfl) pl8_76 (by decide) (by decide) (by decide) rfl (w1.2 c1).1.l5 ?_
          refine cl_iload_n (dd D23_ok 22 rfl) rfl ?_
          refine cl_has (dd D23_ok 23 rfl) (w1.2 c1).1.l22 ((((w1.2 c1).2.2 c2).2 c3).1 c4).1 ?_
          refine cl_istore (dd D23_ok 24 rfl) (Nat.le_of_ble_eq_true rfl) ?_
          refine cl_aload (dd D23_ok 25 rfl) rfl ?_
          refine cl_getO (g := 22) (dd D23_ok 26 rfl) pl8_76 (by decide) (by decide) (by decide) rfl (w1.2 c1).1.l5 ?_
          refine cl_iload_n (dd D23_ok 27 rfl) rfl ?_
          refine cl_iload_n (dd D23_ok 28 rfl) rfl ?_
          refine cl_ias (dd D23_ok 29 rfl) (w1.2 c1).1.l22 ((((w1.2 c1).2.2 c2).2 c3).1 c4).1 ?_
          refine cl_iload (dd D23_ok 30 rfl) rfl ?_
          exact cl_iret (dd D23_ok 31 rfl) rfl ((((w1.2 c1).2.2 c2).2 c3).1 c4).2
        · refine cl_bipush (v := (-2)) (dd D23_ok 18 rfl) (by decide) ?_
          exact cl_iret (dd D23_ok 19 rfl) rfl ((((w1.2 c1).2.2 c2).2 c3).2 c4)

theorem f_of_n {M : md_S} {i q : Nat} (hi : i < 60) (hq : q < 9) : f_of M (nI i) (nI q) = M.2 9 (9 * i + q) := by
  unfold f_of
  rw [nI_9, nI_clamp (by omega)]
theorem not_lt_le {x y : Int32} : ¬ x < y ↔ y ≤ x := by
  rw [Int32.lt_iff_toInt_lt, Int32.le_iff_toInt_le]
  omega
theorem mh_eq {S : cl_S} {M : md_S} {i : Nat} (hi : i < 60) (hn : cl_nt S M i) (hv : iv M i) (w v : Int32) : g_mh S (nI i) w v = f_mayBe M (nI i) w v := by
  obtain ⟨_, _, n3, n4, _⟩ := hn
  have c4 : M.2 4 i = -1 ↔ i = 0 := by
    refine ⟨fun q => Classical.byContradiction fun c => ?_, fun q => by subst q; exact (hv.1 rfl).1⟩
    obtain ⟨p, e, hp, _, h4, _⟩ := hv.2.1 c
    rw [h4] at q
    exact nI_ne_m1 (by omega) q
  have c0 : nI i = 0 ↔ i = 0 := ⟨fun q => nI_inj60 hi (by omega) q, fun q => by subst q; rfl⟩
  have cl0 : nI i ≤ 0 ↔ i = 0 := by
    rw [Int32.le_iff_toInt_le, nI_toInt (by omega), lit_0]
    omega
  have hk0 : i = 0 → M.2 3 i = 0 := fun q => by subst q; exact (hv.1 rfl).2.1
  have hk := hv.2.2.1
  have cv : v < 1 ↔ v ≤ 0 := by
    rw [Int32.lt_iff_toInt_lt, Int32.le_iff_toInt_le, lit_0, show (1 : Int32).toInt = 1 by decide]
    omega
  unfold g_mh f_mayBe g_md g_mf g_within
  rw [nI_clamp (by omega), n3, n4]
  by_cases w0 : w = 0
  · rw [if_pos w0, if_pos w0]
    by_cases z : i = 0
    · rw [hk0 z, if_pos (by decide), if_pos rfl, if_neg (not_not_intro (c4.mpr z)), if_neg (not_not_intro (c0.mpr z))]
    · rw [if_pos (fun q => z (c0.mp q))]
      by_cases k0 : M.2 3 i = 0
      · rw [k0, if_pos (by decide), if_pos rfl, if_pos (fun q => z (c4.mp q)), if_neg (not_not_intro rfl)]
      · by_cases k3 : M.2 3 i = 3
        · rw [k3, if_neg (not_not_intro rfl), if_pos (show ¬ (3 : Int32) = 0 by decide), if_neg (not_not_intro rfl)]
        · rw [if_pos k3, if_neg k0, if_pos k0, if_pos k3]
          by_cases v1 : v = 1
          · rw [if_neg (not_not_intro v1), if_pos v1]
          · rw [if_pos v1, if_neg v1]
  · rw [if_neg w0, if_neg w0]
    by_cases w1 : w = 1
    · rw [if_pos w1, if_pos w1]
      by_cases v0 : v = 0
      · rw [if_pos v0, if_pos v0]
      · rw [if_neg v0, if_neg v0]
        by_cases z : i = 0
        · rw [hk0 z, if_neg (not_not_intro rfl), if_pos (c4.mpr z), if_pos rfl, if_pos (cl0.mpr z)]
        · rw [if_neg (fun q => z (cl0.mp q))]
          by_cases k0 : M.2 3 i = 0
          · rw [k0, if_neg (not_not_intro rfl), if_neg (fun q => z (c4.mp q)), if_neg (by decide), if_neg (not_not_intro rfl)]
            by_cases q1 : v < 1
            · rw [if_pos q1, if_pos rfl, if_pos (cv.mp q1)]
            · rw [if_neg q1, if_neg (fun q => q1 (cv.mpr q))]
              by_cases q2 : 2 < v
              · rw [if_pos q2, if_pos rfl]
              · rw [if_neg q2, if_neg (by decide)]
          · rw [if_pos k0, if_pos rfl, if_pos k0]
    · rw [if_neg w1, if_neg w1]
      by_cases w2 : w = 2
      · rw [if_pos w2, if_pos w2]
        by_cases q1 : v < -1
        · rw [if_pos q1, if_pos q1, if_neg (by decide)]
          by_cases q2 : v < 1000
          · rw [if_pos q2, if_pos rfl]
          · rw [if_neg q2]
            by_cases q3 : 1100 < v
            · rw [if_pos q3, if_pos rfl]
            · rw [if_neg q3, if_neg (by decide)]
        · rw [if_neg q1, if_neg q1]
          by_cases q4 : 400 < v
          · rw [if_pos q4, if_neg (by decide), if_neg (fun q => not_lt_le.mpr q q4)]
            by_cases q2 : v < 1000
            · rw [if_pos q2, if_pos rfl]
            · rw [if_neg q2]
              by_cases q3 : 1100 < v
              · rw [if_pos q3, if_pos rfl]
              · rw [if_neg q3, if_neg (by decide)]
          · rw [if_neg q4, if_pos (by decide), if_pos (not_lt_le.mp q4)]
      · rw [if_neg w2, if_neg w2]
theorem f_set_o {M : md_S} {n p : Nat} {v : Int32} {f : Nat} (h : f ≠ 9) : (f_set_M M n p v).2 f = M.2 f := md_up2_ne _ h _ _
theorem iv_9 {M P : md_S} (h : ∀ f, f ≠ 9 → P.2 f = M.2 f) {i : Nat} (hr : rng P i) (hv : iv M i) : iv P i := by
  obtain ⟨v1, v2, v3, v4, v5, v6, _⟩ := hv
  unfold by_ok at v6
  refine ⟨?_, ?_, ?_, ?_, ?_, ?_, hr⟩
  · rw [h 3 (by decide), h 4 (by decide), h 8 (by decide)]; exact v1
  · rw [h 3 (by decide), h 4 (by decide), h 8 (by decide)]; exact v2
  · rw [h 3 (by decide)]; exact v3
  · rw [h 3 (by decide), h 5 (by decide)]; exact v4
  · rw [h 3 (by decide), h 11 (by decide)]; exact v5
  · unfold by_ok
    rw [h 11 (by decide)]; exact v6
theorem set_of {M : md_S} {i n p q : Nat} {v : Int32} (hi : i < 60) (hp : p < 9) (hq : q < 9) : f_of (f_set_M M n p v) (nI i) (nI q) = if i = n ∧ q = p then v else f_of M (nI i) (nI q) := by
  rw [f_of_n hi hq, f_of_n hi hq]
  unfold f_set_M
  by_cases c : i = n ∧ q = p
  · rw [if_pos c, c.1, c.2, md_up2_at]
  · rw [if_neg c, md_up2_off _ _ (by omega)]
theorem rng_other {M : md_S} {i n p : Nat} {v : Int32} (hi : i < 60) (hp : p < 9) (hne : ¬ i = n) (h : rng M i) : rng (f_set_M M n p v) i := by
  have e : ∀ q, q < 9 → f_of (f_set_M M n p v) (nI i) (nI q) = f_of M (nI i) (nI q) := fun q hq => by rw [set_of hi hp hq, if_neg (fun c => hne c.1)]
  have e0 := e 0 (by decide)
  have e1 := e 1 (by decide)
  have e2 := e 2 (by decide)
  have e3 := e 3 (by decide)
  have e4 := e 4 (by decide)
  have e5 := e 5 (by decide)
  have e6 := e 6 (by decide)
  have e7 := e 7 (by decide)
  have e8 := e 8 (by decide)
  simp only [show nI 0 = (0 : Int32) from rfl, show nI 1 = (1 : Int32) from rfl, show nI 2 = (2 : Int32) from rfl, show nI 3 = (3 : Int32) from rfl, show nI 4 = (4 : Int32) from rfl, show nI 5 = (5 : Int32) from rfl, show nI 6 = (6 : Int32) from rfl, show nI 7 = (7 : Int32) from rfl, show nI 8 = (8 : Int32) from rfl] at e0 e1 e2 e3 e4 e5 e6 e7 e8
  unfold rng at h ⊢
  rw [e0, e1, e2, e3, e4, e5, e6, e7, e8]
  exact h
theorem rng_0 {M : md_S} {i : Nat} {v : Int32} (hi : i < 60) (hv : v ∈ ([0, 1, 2, 3] : List Int32)) (h : rng M i) : rng (f_set_M M i 0 v) i := by
  have e0 : f_of (f_set_M M i 0 v) (nI i) (nI 0) = v := by rw [set_of hi (by decide) (by decide), if_pos ⟨rfl, rfl⟩]
  have e1 : f_of (f_set_M M i 0 v) (nI i) (nI 1) = f_of M (nI i) (nI 1) := by rw [set_of hi (by decide) (by decide), if_neg (by omega)]
  have e2 : f_of (f_set_M M i 0 v) (nI i) (nI 2) = f_of M (nI i) (nI 2) := by rw [set_of hi (by decide) (by decide), if_neg (by omega)]
  have e3 : f_of (f_set_M M i 0 v) (nI i) (nI 3) = f_of M (nI i) (nI 3) := by rw [set_of hi (by decide) (by decide), if_neg (by omega)]
  have e4 : f_of (f_set_M M i 0 v) (nI i) (nI 4) = f_of M (nI i) (nI 4) := by rw [set_of hi (by decide) (by decide), if_neg (by omega)]
  have e5 : f_of (f_set_M M i 0 v) (nI i) (nI 5) = f_of M (nI i) (nI 5) := by rw [set_of hi (by decide) (by decide), if_neg (by omega)]
  have e6 : f_of (f_set_M M i 0 v) (nI i) (nI 6) = f_of M (nI i) (nI 6) := by rw [set_of hi (by decide) (by decide), if_neg (by omega)]
  have e7 : f_of (f_set_M M i 0 v) (nI i) (nI 7) = f_of M (nI i) (nI 7) := by rw [set_of hi (by decide) (by decide), if_neg (by omega)]
  have e8 : f_of (f_set_M M i 0 v) (nI i) (nI 8) = f_of M (nI i) (nI 8) := by rw [set_of hi (by decide) (by decide), if_neg (by omega)]
  simp only [show nI 0 = (0 : Int32) from rfl, show nI 1 = (1 : Int32) from rfl, show nI 2 = (2 : Int32) from rfl, show nI 3 = (3 : Int32) from rfl, show nI 4 = (4 : Int32) from rfl, show nI 5 = (5 : Int32) from rfl, show nI 6 = (6 : Int32) from rfl, show nI 7 = (7 : Int32) from rfl, show nI 8 = (8 : Int32) from rfl] at e0 e1 e2 e3 e4 e5 e6 e7 e8
  unfold rng at h ⊢
  rw [e0, e1, e2, e3, e4, e5, e6, e7, e8]
  obtain ⟨r0, r1, r2, r3, r4, r5, r6, r7, r8⟩ := h
  exact ⟨hv, r1, r2, r3, r4, r5, r6, r7, r8⟩
theorem rng_1 {M : md_S} {i : Nat} {v : Int32} (hi : i < 60) (hv : v ∈ ([0, 1, 2] : List Int32)) (h : rng M i) : rng (f_set_M M i 1 v) i := by
  have e0 : f_of (f_set_M M i 1 v) (nI i) (nI 0) = f_of M (nI i) (nI 0) := by rw [set_of hi (by decide) (by decide), if_neg (by omega)]
  have e1 : f_of (f_set_M M i 1 v) (nI i) (nI 1) = v := by rw [set_of hi (by decide) (by decide), if_pos ⟨rfl, rfl⟩]
  have e2 : f_of (f_set_M M i 1 v) (nI i) (nI 2) = f_of M (nI i) (nI 2) := by rw [set_of hi (by decide) (by decide), if_neg (by omega)]
  have e3 : f_of (f_set_M M i 1 v) (nI i) (nI 3) = f_of M (nI i) (nI 3) := by rw [set_of hi (by decide) (by decide), if_neg (by omega)]
  have e4 : f_of (f_set_M M i 1 v) (nI i) (nI 4) = f_of M (nI i) (nI 4) := by rw [set_of hi (by decide) (by decide), if_neg (by omega)]
  have e5 : f_of (f_set_M M i 1 v) (nI i) (nI 5) = f_of M (nI i) (nI 5) := by rw [set_of hi (by decide) (by decide), if_neg (by omega)]
  have e6 : f_of (f_set_M M i 1 v) (nI i) (nI 6) = f_of M (nI i) (nI 6) := by rw [set_of hi (by decide) (by decide), if_neg (by omega)]
  have e7 : f_of (f_set_M M i 1 v) (nI i) (nI 7) = f_of M (nI i) (nI 7) := by rw [set_of hi (by decide) (by decide), if_neg (by omega)]
  have e8 : f_of (f_set_M M i 1 v) (nI i) (nI 8) = f_of M (nI i) (nI 8) := by rw [set_of hi (by decide) (by decide), if_neg (by omega)]
  simp only [show nI 0 = (0 : Int32) from rfl, show nI 1 = (1 : Int32) from rfl, show nI 2 = (2 : Int32) from rfl, show nI 3 = (3 : Int32) from rfl, show nI 4 = (4 : Int32) from rfl, show nI 5 = (5 : Int32) from rfl, show nI 6 = (6 : Int32) from rfl, show nI 7 = (7 : Int32) from rfl, show nI 8 = (8 : Int32) from rfl] at e0 e1 e2 e3 e4 e5 e6 e7 e8
  unfold rng at h ⊢
  rw [e0, e1, e2, e3, e4, e5, e6, e7, e8]
  obtain ⟨r0, r1, r2, r3, r4, r5, r6, r7, r8⟩ := h
  exact ⟨r0, hv, r2, r3, r4, r5, r6, r7, r8⟩
theorem rng_2 {M : md_S} {i : Nat} {v : Int32} (hi : i < 60) (hv : (-1 ≤ v.toInt ∧ v.toInt ≤ 1100)) (h : rng M i) : rng (f_set_M M i 2 v) i := by
  have e0 : f_of (f_set_M M i 2 v) (nI i) (nI 0) = f_of M (nI i) (nI 0) := by rw [set_of hi (by decide) (by decide), if_neg (by omega)]
  have e1 : f_of (f_set_M M i 2 v) (nI i) (nI 1) = f_of M (nI i) (nI 1) := by rw [set_of hi (by decide) (by decide), if_neg (by omega)]
  have e2 : f_of (f_set_M M i 2 v) (nI i) (nI 2) = v := by rw [set_of hi (by decide) (by decide), if_pos ⟨rfl, rfl⟩]
  have e3 : f_of (f_set_M M i 2 v) (nI i) (nI 3) = f_of M (nI i) (nI 3) := by rw [set_of hi (by decide) (by decide), if_neg (by omega)]
  have e4 : f_of (f_set_M M i 2 v) (nI i) (nI 4) = f_of M (nI i) (nI 4) := by rw [set_of hi (by decide) (by decide), if_neg (by omega)]
  have e5 : f_of (f_set_M M i 2 v) (nI i) (nI 5) = f_of M (nI i) (nI 5) := by rw [set_of hi (by decide) (by decide), if_neg (by omega)]
  have e6 : f_of (f_set_M M i 2 v) (nI i) (nI 6) = f_of M (nI i) (nI 6) := by rw [set_of hi (by decide) (by decide), if_neg (by omega)]
  have e7 : f_of (f_set_M M i 2 v) (nI i) (nI 7) = f_of M (nI i) (nI 7) := by rw [set_of hi (by decide) (by decide), if_neg (by omega)]
  have e8 : f_of (f_set_M M i 2 v) (nI i) (nI 8) = f_of M (nI i) (nI 8) := by rw [set_of hi (by decide) (by decide), if_neg (by omega)]
  simp only [show nI 0 = (0 : Int32) from rfl, show nI 1 = (1 : Int32) from rfl, show nI 2 = (2 : Int32) from rfl, show nI 3 = (3 : Int32) from rfl, show nI 4 = (4 : Int32) from rfl, show nI 5 = (5 : Int32) from rfl, show nI 6 = (6 : Int32) from rfl, show nI 7 = (7 : Int32) from rfl, show nI 8 = (8 : Int32) from rfl] at e0 e1 e2 e3 e4 e5 e6 e7 e8
  unfold rng at h ⊢
  rw [e0, e1, e2, e3, e4, e5, e6, e7, e8]
  obtain ⟨r0, r1, r2, r3, r4, r5, r6, r7, r8⟩ := h
  exact ⟨r0, r1, hv, r3, r4, r5, r6, r7, r8⟩
theorem rng_3 {M : md_S} {i : Nat} {v : Int32} (hi : i < 60) (hv : (-1 ≤ v.toInt ∧ v.toInt ≤ 400)) (h : rng M i) : rng (f_set_M M i 3 v) i := by
  have e0 : f_of (f_set_M M i 3 v) (nI i) (nI 0) = f_of M (nI i) (nI 0) := by rw [set_of hi (by decide) (by decide), if_neg (by omega)]
  have e1 : f_of (f_set_M M i 3 v) (nI i) (nI 1) = f_of M (nI i) (nI 1) := by rw [set_of hi (by decide) (by decide), if_neg (by omega)]
  have e2 : f_of (f_set_M M i 3 v) (nI i) (nI 2) = f_of M (nI i) (nI 2) := by rw [set_of hi (by decide) (by decide), if_neg (by omega)]
  have e3 : f_of (f_set_M M i 3 v) (nI i) (nI 3) = v := by rw [set_of hi (by decide) (by decide), if_pos ⟨rfl, rfl⟩]
  have e4 : f_of (f_set_M M i 3 v) (nI i) (nI 4) = f_of M (nI i) (nI 4) := by rw [set_of hi (by decide) (by decide), if_neg (by omega)]
  have e5 : f_of (f_set_M M i 3 v) (nI i) (nI 5) = f_of M (nI i) (nI 5) := by rw [set_of hi (by decide) (by decide), if_neg (by omega)]
  have e6 : f_of (f_set_M M i 3 v) (nI i) (nI 6) = f_of M (nI i) (nI 6) := by rw [set_of hi (by decide) (by decide), if_neg (by omega)]
  have e7 : f_of (f_set_M M i 3 v) (nI i) (nI 7) = f_of M (nI i) (nI 7) := by rw [set_of hi (by decide) (by decide), if_neg (by omega)]
  have e8 : f_of (f_set_M M i 3 v) (nI i) (nI 8) = f_of M (nI i) (nI 8) := by rw [set_of hi (by decide) (by decide), if_neg (by omega)]
  simp only [show nI 0 = (0 : Int32) from rfl, show nI 1 = (1 : Int32) from rfl, show nI 2 = (2 : Int32) from rfl, show nI 3 = (3 : Int32) from rfl, show nI 4 = (4 : Int32) from rfl, show nI 5 = (5 : Int32) from rfl, show nI 6 = (6 : Int32) from rfl, show nI 7 = (7 : Int32) from rfl, show nI 8 = (8 : Int32) from rfl] at e0 e1 e2 e3 e4 e5 e6 e7 e8
  unfold rng at h ⊢
  rw [e0, e1, e2, e3, e4, e5, e6, e7, e8]
  obtain ⟨r0, r1, r2, r3, r4, r5, r6, r7, r8⟩ := h
  exact ⟨r0, r1, r2, hv, r4, r5, r6, r7, r8⟩
theorem rng_4 {M : md_S} {i : Nat} {v : Int32} (hi : i < 60) (hv : nz 50 v) (h : rng M i) : rng (f_set_M M i 4 v) i := by
  have e0 : f_of (f_set_M M i 4 v) (nI i) (nI 0) = f_of M (nI i) (nI 0) := by rw [set_of hi (by decide) (by decide), if_neg (by omega)]
  have e1 : f_of (f_set_M M i 4 v) (nI i) (nI 1) = f_of M (nI i) (nI 1) := by rw [set_of hi (by decide) (by decide), if_neg (by omega)]
  have e2 : f_of (f_set_M M i 4 v) (nI i) (nI 2) = f_of M (nI i) (nI 2) := by rw [set_of hi (by decide) (by decide), if_neg (by omega)]
  have e3 : f_of (f_set_M M i 4 v) (nI i) (nI 3) = f_of M (nI i) (nI 3) := by rw [set_of hi (by decide) (by decide), if_neg (by omega)]
  have e4 : f_of (f_set_M M i 4 v) (nI i) (nI 4) = v := by rw [set_of hi (by decide) (by decide), if_pos ⟨rfl, rfl⟩]
  have e5 : f_of (f_set_M M i 4 v) (nI i) (nI 5) = f_of M (nI i) (nI 5) := by rw [set_of hi (by decide) (by decide), if_neg (by omega)]
  have e6 : f_of (f_set_M M i 4 v) (nI i) (nI 6) = f_of M (nI i) (nI 6) := by rw [set_of hi (by decide) (by decide), if_neg (by omega)]
  have e7 : f_of (f_set_M M i 4 v) (nI i) (nI 7) = f_of M (nI i) (nI 7) := by rw [set_of hi (by decide) (by decide), if_neg (by omega)]
  have e8 : f_of (f_set_M M i 4 v) (nI i) (nI 8) = f_of M (nI i) (nI 8) := by rw [set_of hi (by decide) (by decide), if_neg (by omega)]
  simp only [show nI 0 = (0 : Int32) from rfl, show nI 1 = (1 : Int32) from rfl, show nI 2 = (2 : Int32) from rfl, show nI 3 = (3 : Int32) from rfl, show nI 4 = (4 : Int32) from rfl, show nI 5 = (5 : Int32) from rfl, show nI 6 = (6 : Int32) from rfl, show nI 7 = (7 : Int32) from rfl, show nI 8 = (8 : Int32) from rfl] at e0 e1 e2 e3 e4 e5 e6 e7 e8
  unfold rng at h ⊢
  rw [e0, e1, e2, e3, e4, e5, e6, e7, e8]
  obtain ⟨r0, r1, r2, r3, r4, r5, r6, r7, r8⟩ := h
  exact ⟨r0, r1, r2, r3, hv, r5, r6, r7, r8⟩
theorem rng_5 {M : md_S} {i : Nat} {v : Int32} (hi : i < 60) (hv : nz 9 v) (h : rng M i) : rng (f_set_M M i 5 v) i := by
  have e0 : f_of (f_set_M M i 5 v) (nI i) (nI 0) = f_of M (nI i) (nI 0) := by rw [set_of hi (by decide) (by decide), if_neg (by omega)]
  have e1 : f_of (f_set_M M i 5 v) (nI i) (nI 1) = f_of M (nI i) (nI 1) := by rw [set_of hi (by decide) (by decide), if_neg (by omega)]
  have e2 : f_of (f_set_M M i 5 v) (nI i) (nI 2) = f_of M (nI i) (nI 2) := by rw [set_of hi (by decide) (by decide), if_neg (by omega)]
  have e3 : f_of (f_set_M M i 5 v) (nI i) (nI 3) = f_of M (nI i) (nI 3) := by rw [set_of hi (by decide) (by decide), if_neg (by omega)]
  have e4 : f_of (f_set_M M i 5 v) (nI i) (nI 4) = f_of M (nI i) (nI 4) := by rw [set_of hi (by decide) (by decide), if_neg (by omega)]
  have e5 : f_of (f_set_M M i 5 v) (nI i) (nI 5) = v := by rw [set_of hi (by decide) (by decide), if_pos ⟨rfl, rfl⟩]
  have e6 : f_of (f_set_M M i 5 v) (nI i) (nI 6) = f_of M (nI i) (nI 6) := by rw [set_of hi (by decide) (by decide), if_neg (by omega)]
  have e7 : f_of (f_set_M M i 5 v) (nI i) (nI 7) = f_of M (nI i) (nI 7) := by rw [set_of hi (by decide) (by decide), if_neg (by omega)]
  have e8 : f_of (f_set_M M i 5 v) (nI i) (nI 8) = f_of M (nI i) (nI 8) := by rw [set_of hi (by decide) (by decide), if_neg (by omega)]
  simp only [show nI 0 = (0 : Int32) from rfl, show nI 1 = (1 : Int32) from rfl, show nI 2 = (2 : Int32) from rfl, show nI 3 = (3 : Int32) from rfl, show nI 4 = (4 : Int32) from rfl, show nI 5 = (5 : Int32) from rfl, show nI 6 = (6 : Int32) from rfl, show nI 7 = (7 : Int32) from rfl, show nI 8 = (8 : Int32) from rfl] at e0 e1 e2 e3 e4 e5 e6 e7 e8
  unfold rng at h ⊢
  rw [e0, e1, e2, e3, e4, e5, e6, e7, e8]
  obtain ⟨r0, r1, r2, r3, r4, r5, r6, r7, r8⟩ := h
  exact ⟨r0, r1, r2, r3, r4, hv, r6, r7, r8⟩
theorem rng_6 {M : md_S} {i : Nat} {v : Int32} (hi : i < 60) (hv : nz 50 v) (h : rng M i) : rng (f_set_M M i 6 v) i := by
  have e0 : f_of (f_set_M M i 6 v) (nI i) (nI 0) = f_of M (nI i) (nI 0) := by rw [set_of hi (by decide) (by decide), if_neg (by omega)]
  have e1 : f_of (f_set_M M i 6 v) (nI i) (nI 1) = f_of M (nI i) (nI 1) := by rw [set_of hi (by decide) (by decide), if_neg (by omega)]
  have e2 : f_of (f_set_M M i 6 v) (nI i) (nI 2) = f_of M (nI i) (nI 2) := by rw [set_of hi (by decide) (by decide), if_neg (by omega)]
  have e3 : f_of (f_set_M M i 6 v) (nI i) (nI 3) = f_of M (nI i) (nI 3) := by rw [set_of hi (by decide) (by decide), if_neg (by omega)]
  have e4 : f_of (f_set_M M i 6 v) (nI i) (nI 4) = f_of M (nI i) (nI 4) := by rw [set_of hi (by decide) (by decide), if_neg (by omega)]
  have e5 : f_of (f_set_M M i 6 v) (nI i) (nI 5) = f_of M (nI i) (nI 5) := by rw [set_of hi (by decide) (by decide), if_neg (by omega)]
  have e6 : f_of (f_set_M M i 6 v) (nI i) (nI 6) = v := by rw [set_of hi (by decide) (by decide), if_pos ⟨rfl, rfl⟩]
  have e7 : f_of (f_set_M M i 6 v) (nI i) (nI 7) = f_of M (nI i) (nI 7) := by rw [set_of hi (by decide) (by decide), if_neg (by omega)]
  have e8 : f_of (f_set_M M i 6 v) (nI i) (nI 8) = f_of M (nI i) (nI 8) := by rw [set_of hi (by decide) (by decide), if_neg (by omega)]
  simp only [show nI 0 = (0 : Int32) from rfl, show nI 1 = (1 : Int32) from rfl, show nI 2 = (2 : Int32) from rfl, show nI 3 = (3 : Int32) from rfl, show nI 4 = (4 : Int32) from rfl, show nI 5 = (5 : Int32) from rfl, show nI 6 = (6 : Int32) from rfl, show nI 7 = (7 : Int32) from rfl, show nI 8 = (8 : Int32) from rfl] at e0 e1 e2 e3 e4 e5 e6 e7 e8
  unfold rng at h ⊢
  rw [e0, e1, e2, e3, e4, e5, e6, e7, e8]
  obtain ⟨r0, r1, r2, r3, r4, r5, r6, r7, r8⟩ := h
  exact ⟨r0, r1, r2, r3, r4, r5, hv, r7, r8⟩
theorem rng_7 {M : md_S} {i : Nat} {v : Int32} (hi : i < 60) (hv : nz 2 v) (h : rng M i) : rng (f_set_M M i 7 v) i := by
  have e0 : f_of (f_set_M M i 7 v) (nI i) (nI 0) = f_of M (nI i) (nI 0) := by rw [set_of hi (by decide) (by decide), if_neg (by omega)]
  have e1 : f_of (f_set_M M i 7 v) (nI i) (nI 1) = f_of M (nI i) (nI 1) := by rw [set_of hi (by decide) (by decide), if_neg (by omega)]
  have e2 : f_of (f_set_M M i 7 v) (nI i) (nI 2) = f_of M (nI i) (nI 2) := by rw [set_of hi (by decide) (by decide), if_neg (by omega)]
  have e3 : f_of (f_set_M M i 7 v) (nI i) (nI 3) = f_of M (nI i) (nI 3) := by rw [set_of hi (by decide) (by decide), if_neg (by omega)]
  have e4 : f_of (f_set_M M i 7 v) (nI i) (nI 4) = f_of M (nI i) (nI 4) := by rw [set_of hi (by decide) (by decide), if_neg (by omega)]
  have e5 : f_of (f_set_M M i 7 v) (nI i) (nI 5) = f_of M (nI i) (nI 5) := by rw [set_of hi (by decide) (by decide), if_neg (by omega)]
  have e6 : f_of (f_set_M M i 7 v) (nI i) (nI 6) = f_of M (nI i) (nI 6) := by rw [set_of hi (by decide) (by decide), if_neg (by omega)]
  have e7 : f_of (f_set_M M i 7 v) (nI i) (nI 7) = v := by rw [set_of hi (by decide) (by decide), if_pos ⟨rfl, rfl⟩]
  have e8 : f_of (f_set_M M i 7 v) (nI i) (nI 8) = f_of M (nI i) (nI 8) := by rw [set_of hi (by decide) (by decide), if_neg (by omega)]
  simp only [show nI 0 = (0 : Int32) from rfl, show nI 1 = (1 : Int32) from rfl, show nI 2 = (2 : Int32) from rfl, show nI 3 = (3 : Int32) from rfl, show nI 4 = (4 : Int32) from rfl, show nI 5 = (5 : Int32) from rfl, show nI 6 = (6 : Int32) from rfl, show nI 7 = (7 : Int32) from rfl, show nI 8 = (8 : Int32) from rfl] at e0 e1 e2 e3 e4 e5 e6 e7 e8
  unfold rng at h ⊢
  rw [e0, e1, e2, e3, e4, e5, e6, e7, e8]
  obtain ⟨r0, r1, r2, r3, r4, r5, r6, r7, r8⟩ := h
  exact ⟨r0, r1, r2, r3, r4, r5, r6, hv, r8⟩
theorem rng_8 {M : md_S} {i : Nat} {v : Int32} (hi : i < 60) (hv : (1 ≤ v.toInt ∧ v.toInt ≤ 4)) (h : rng M i) : rng (f_set_M M i 8 v) i := by
  have e0 : f_of (f_set_M M i 8 v) (nI i) (nI 0) = f_of M (nI i) (nI 0) := by rw [set_of hi (by decide) (by decide), if_neg (by omega)]
  have e1 : f_of (f_set_M M i 8 v) (nI i) (nI 1) = f_of M (nI i) (nI 1) := by rw [set_of hi (by decide) (by decide), if_neg (by omega)]
  have e2 : f_of (f_set_M M i 8 v) (nI i) (nI 2) = f_of M (nI i) (nI 2) := by rw [set_of hi (by decide) (by decide), if_neg (by omega)]
  have e3 : f_of (f_set_M M i 8 v) (nI i) (nI 3) = f_of M (nI i) (nI 3) := by rw [set_of hi (by decide) (by decide), if_neg (by omega)]
  have e4 : f_of (f_set_M M i 8 v) (nI i) (nI 4) = f_of M (nI i) (nI 4) := by rw [set_of hi (by decide) (by decide), if_neg (by omega)]
  have e5 : f_of (f_set_M M i 8 v) (nI i) (nI 5) = f_of M (nI i) (nI 5) := by rw [set_of hi (by decide) (by decide), if_neg (by omega)]
  have e6 : f_of (f_set_M M i 8 v) (nI i) (nI 6) = f_of M (nI i) (nI 6) := by rw [set_of hi (by decide) (by decide), if_neg (by omega)]
  have e7 : f_of (f_set_M M i 8 v) (nI i) (nI 7) = f_of M (nI i) (nI 7) := by rw [set_of hi (by decide) (by decide), if_neg (by omega)]
  have e8 : f_of (f_set_M M i 8 v) (nI i) (nI 8) = v := by rw [set_of hi (by decide) (by decide), if_pos ⟨rfl, rfl⟩]
  simp only [show nI 0 = (0 : Int32) from rfl, show nI 1 = (1 : Int32) from rfl, show nI 2 = (2 : Int32) from rfl, show nI 3 = (3 : Int32) from rfl, show nI 4 = (4 : Int32) from rfl, show nI 5 = (5 : Int32) from rfl, show nI 6 = (6 : Int32) from rfl, show nI 7 = (7 : Int32) from rfl, show nI 8 = (8 : Int32) from rfl] at e0 e1 e2 e3 e4 e5 e6 e7 e8
  unfold rng at h ⊢
  rw [e0, e1, e2, e3, e4, e5, e6, e7, e8]
  obtain ⟨r0, r1, r2, r3, r4, r5, r6, r7, r8⟩ := h
  exact ⟨r0, r1, r2, r3, r4, r5, r6, r7, hv⟩

theorem may_rng {M : md_S} {i : Nat} {w v : Int32} (hi : i < 60) (h : ¬ f_mayBe M (nI i) w v = 0) (hr : rng M i) : rng (f_set_M M i w.toNatClampNeg v) i := by
  have lo : ∀ {a : Int32}, ¬ v < a → a.toInt ≤ v.toInt := fun {a} q => by rw [Int32.lt_iff_toInt_lt] at q; omega
  have up : ∀ {a : Int32}, ¬ a < v → v.toInt ≤ a.toInt := fun {a} q => by rw [Int32.lt_iff_toInt_lt] at q; omega
  have up' : ∀ {a : Int32}, v ≤ a → v.toInt ≤ a.toInt := fun {a} q => Int32.le_iff_toInt_le.mp q
  have bet : ∀ {a b : Int32}, ¬ (if v < a then (0 : Int32) else (if b < v then 0 else 1)) = 0 → a.toInt ≤ v.toInt ∧ v.toInt ≤ b.toInt := fun {a b} q => by
    by_cases q1 : v < a
    · rw [if_pos q1] at q; exact absurd rfl q
    · rw [if_neg q1] at q
      by_cases q2 : b < v
      · rw [if_pos q2] at q; exact absurd rfl q
      · exact ⟨lo q1, up q2⟩
  unfold f_mayBe at h
  by_cases w0 : w = 0
  · rw [if_pos w0] at h
    subst w0
    refine rng_0 hi ?_ hr
    split at h
    · split at h
      · split at h
        · rename_i q; rw [q]; decide
        · split at h
          · exact absurd rfl h
          · split at h
            · exact absurd rfl h
            · rename_i q; rw [Classical.not_not.mp q]; decide
      · have := bet h
        rw [lit_0, show (3 : Int32).toInt = 3 by decide] at this
        have hc : v.toInt = 0 ∨ v.toInt = 1 ∨ v.toInt = 2 ∨ v.toInt = 3 := by omega
        have e : ∀ {a : Int32}, v.toInt = a.toInt → v = a := fun q => Int32.toInt_inj.mp q
        rcases hc with q | q | q | q
        · rw [e (a := 0) q]; decide
        · rw [e (a := 1) q]; decide
        · rw [e (a := 2) q]; decide
        · rw [e (a := 3) q]; decide
    · split at h
      · rename_i q; rw [q]; decide
      · split at h
        · exact absurd rfl h
        · rename_i q; rw [Classical.not_not.mp q]; decide
  · rw [if_neg w0] at h
    by_cases w1 : w = 1
    · rw [if_pos w1] at h
      subst w1
      refine rng_1 hi ?_ hr
      split at h
      · rename_i q; rw [q]; decide
      · split at h
        · exact absurd rfl h
        · split at h
          · exact absurd rfl h
          · split at h
            · exact absurd rfl h
            · rename_i q1
              split at h
              · exact absurd rfl h
              · rename_i q2
                have := up q2
                rw [show (2 : Int32).toInt = 2 by decide] at this
                rw [Int32.le_iff_toInt_le, lit_0] at q1
                have hc : v.toInt = 1 ∨ v.toInt = 2 := by omega
                have e : ∀ {a : Int32}, v.toInt = a.toInt → v = a := fun q => Int32.toInt_inj.mp q
                rcases hc with q | q
                · rw [e (a := 1) q]; decide
                · rw [e (a := 2) q]; decide
    · rw [if_neg w1] at h
      by_cases w2 : w = 2
      · rw [if_pos w2] at h
        subst w2
        refine rng_2 hi ?_ hr
        by_cases q1 : v < -1
        · rw [if_pos q1] at h
          have := bet h
          rw [show (1000 : Int32).toInt = 1000 by decide, show (1100 : Int32).toInt = 1100 by decide] at this
          omega
        · rw [if_neg q1] at h
          have q1' := lo q1
          rw [show (-1 : Int32).toInt = -1 by decide] at q1'
          by_cases q2 : v ≤ 400
          · have := up' q2
            rw [show (400 : Int32).toInt = 400 by decide] at this
            omega
          · rw [if_neg q2] at h
            have := bet h
            rw [show (1000 : Int32).toInt = 1000 by decide, show (1100 : Int32).toInt = 1100 by decide] at this
            omega
      · rw [if_neg w2] at h
        by_cases w3 : w = 3
        · rw [if_pos w3] at h
          subst w3
          refine rng_3 hi ?_ hr
          have := bet h
          rw [show (-1 : Int32).toInt = -1 by decide, show (400 : Int32).toInt = 400 by decide] at this
          exact this
        rw [if_neg w3] at h
        by_cases w4 : w = 4
        · rw [if_pos w4] at h
          subst w4
          refine rng_4 hi ?_ hr
          have := bet h
          rw [show (0 : Int32).toInt = 0 by decide, show (50 : Int32).toInt = 50 by decide] at this
          exact (by unfold nz; exact this)
        rw [if_neg w4] at h
        by_cases w5 : w = 5
        · rw [if_pos w5] at h
          subst w5
          refine rng_5 hi ?_ hr
          have := bet h
          rw [show (0 : Int32).toInt = 0 by decide, show (9 : Int32).toInt = 9 by decide] at this
          exact (by unfold nz; exact this)
        rw [if_neg w5] at h
        by_cases w6 : w = 6
        · rw [if_pos w6] at h
          subst w6
          refine rng_6 hi ?_ hr
          have := bet h
          rw [show (0 : Int32).toInt = 0 by decide, show (50 : Int32).toInt = 50 by decide] at this
          exact (by unfold nz; exact this)
        rw [if_neg w6] at h
        by_cases w7 : w = 7
        · rw [if_pos w7] at h
          subst w7
          refine rng_7 hi ?_ hr
          have := bet h
          rw [show (0 : Int32).toInt = 0 by decide, show (2 : Int32).toInt = 2 by decide] at this
          exact (by unfold nz; exact this)
        rw [if_neg w7] at h
        by_cases w8 : w = 8
        · rw [if_pos w8] at h
          subst w8
          refine rng_8 hi ?_ hr
          have := bet h
          rw [show (1 : Int32).toInt = 1 by decide, show (4 : Int32).toInt = 4 by decide] at this
          exact this
        rw [if_neg w8] at h
        exact absurd rfl h

theorem IV.set {M : md_S} {K : bt} {nn : Nat} (h : IV M K nn) (h60 : nn ≤ 60) {i : Nat} (hi : i < nn) {w v : Int32} (hm : ¬ f_mayBe M (nI i) w v = 0) : IV (f_set_M M i w.toNatClampNeg v) K nn := by
  have hp := (md_vin (f_mayBe_w hm)).2
  obtain ⟨⟨n1, ⟨n2, n3, n4, n5⟩, n6⟩, hv⟩ := h
  refine ⟨⟨n1, ⟨by rw [f_set_o (f := 4) (by decide), f_set_o (f := 5) (by decide), f_set_o (f := 7) (by decide)]; exact n2, n3, n4, n5⟩, n6⟩, fun j hj => ?_⟩
  have hr := (hv j hj).2.2.2.2.2.2
  by_cases c : j = i
  · subst c
    exact iv_9 (fun f hf => f_set_o hf) (may_rng (by omega) hm hr) (hv j hj)
  · exact iv_9 (fun f hf => f_set_o hf) (rng_other (by omega) hp c hr) (hv j hj)
section CR5
variable {xs : List Int32} {Kp : Nat → Prop} {A : cl_A} {S S' : cl_S} {M M' : md_S} {K : bt} {nn W t : Nat}
theorem CR.set (h : CR S M K nn W t) {i : Nat} (hi : i < nn) {w v : Int32} (hm : ¬ f_mayBe M (nI i) w v = 0) : CR (cl_up S 2200 (9 * i + w.toNatClampNeg) v) (f_set_M M i w.toNatClampNeg v) K nn W t := by
  have hp := (md_vin (f_mayBe_w hm)).2
  obtain ⟨h1, h2, h3, h4, h5, ⟨Wp, h6, h6'⟩, h7, h8, h9, h10, h11⟩ := h
  have h60 := h2.1
  have hIV := h1.set h60 hi hm
  generalize w.toNatClampNeg = p at hp hIV ⊢
  have e : cl_X [2200] S (cl_up S 2200 (9 * i + p) v) := cl_X.rf.up (by decide) _ _
  have e' : ∀ g, g ≠ 2200 → (cl_up S 2200 (9 * i + p) v).2.1 g = S.2.1 g := fun g hg => e.2.2 g (by simp [hg])
  refine ⟨hIV, ⟨h60, h2.2.1.mv rfl, fun f hf => (h2.2.2.1 f hf).mv rfl, fun j hj => ?_⟩, by rw [e' 803 (by decide)]; exact h3, by rw [e' 2100 (by decide)]; exact h4, by rw [e' 801 (by decide), e' 2000 (by decide), f_set_o (f := 0) (by decide)]; exact h5, ⟨Wp, h6.x e (by decide), h6'⟩, by rw [e' 301 (by decide)]; exact h7, h8, h9, ?_, ?_⟩
  · have hN := h2.2.2.2 j hj
    obtain ⟨b1, b2, b3, b4, b5, b6, b7, b8, b9, b10, b11, b12, b13⟩ := hN
    have eb : cl_bn (cl_up S 2200 (9 * i + p) v) (nI j) (S.2.1 508 j) = cl_bn S (nI j) (S.2.1 508 j) := by
      unfold cl_bn
      rw [e' 2301 (by decide)]
    refine ⟨b1.mv rfl, ?_, ?_, ?_, ?_, ?_, ?_, ?_, ?_, ?_, ?_, ?_, ?_⟩
    · rw [e' 500 (by decide)]; exact b2
    · rw [e' 501 (by decide), f_set_o (f := 3) (by decide)]; exact b3
    · rw [e' 502 (by decide), f_set_o (f := 4) (by decide)]; exact b4
    · rw [e' 503 (by decide), f_set_o (f := 8) (by decide)]; exact b5
    · rw [e' 505 (by decide), f_set_o (f := 5) (by decide)]; exact b6
    · rw [e' 506 (by decide), f_set_o (f := 6) (by decide)]; exact b7
    · rw [e' 507 (by decide), f_set_o (f := 7) (by decide)]; exact b8
    · rw [e' 508 (by decide)]; exact b9
    · rw [e' 508 (by decide), eb, f_set_o (f := 11) (by decide)]; exact b10
    · rw [e' 508 (by decide), eb]; exact b11
    · rw [e' 508 (by decide), eb, e' 2300 (by decide), f_set_o (f := 10) (by decide)]; exact b12
    · intro q hq
      unfold f_set_M
      by_cases c : 9 * j + q = 9 * i + p
      · rw [c, cl_up_at, md_up2_at]
      · rw [cl_up_off _ _ (fun x => c x.2), md_up2_off _ _ c]
        exact b13 q hq
  · unfold bx_eq at h10 ⊢
    rw [e' 511 (by decide), e' 0 (by decide), e' 1 (by decide), e' 2 (by decide), e' 3 (by decide), f_set_o (f := 23) (by decide), f_set_o (f := 24) (by decide), f_set_o (f := 25) (by decide), f_set_o (f := 26) (by decide), f_set_o (f := 27) (by decide)]
    exact h10
  · unfold wd_eq at h11 ⊢
    rw [e' 700 (by decide), e' 701 (by decide), e' 702 (by decide), e' 0 (by decide), e' 1 (by decide), e' 2 (by decide), e' 3 (by decide), f_set_o (f := 30) (by decide), f_set_o (f := 31) (by decide), f_set_o (f := 32) (by decide), f_set_o (f := 33) (by decide), f_set_o (f := 34) (by decide), f_set_o (f := 35) (by decide), f_set_o (f := 36) (by decide)]
    exact h11
theorem kk_set (h : CR S M K nn W t) {d : Nat} {a w v : Int32} : ∀ Q', (f_set_ok M a w v → ∀ S', CR S' (f_set_M M a.toNatClampNeg w.toNatClampNeg v) K nn W t → cl_X X_sm S S' → Q' (some (.int (M.2 9 (9 * a.toNatClampNeg + w.toNatClampNeg)))) A S') → (¬ f_set_ok M a w v → Q' (some (.int (-2))) A S) → cl_C xs Kp (d + 4) 23 [cl_rf A 8 0, .int a, .int w, .int v] A S Q' := by
  intro Q' hY hN
  have h2 := h.2.1
  have h60 := h2.1
  have hth := there_iff h.1.1.1 h60 a
  refine cl_intro (ms23 xs) (Nat.le_of_ble_eq_true rfl) (fun h0 => vc23_0 ⟨h2.2.1, kk_nodeAt h _ (fun i hi e => ?_) (fun hne => ?_)⟩)
  · subst e
    have ci : (nI i).toNatClampNeg = i := nI_clamp (by omega)
    have hn := h2.2.2.2 i hi
    have ht : ¬ f_there M (nI i) = 0 := hth.mpr ⟨i, hi, rfl⟩
    refine ⟨rfl, rfl, nI i, rfl, fun c => absurd c (nI_ne_m1 (by omega)), fun _ => ⟨hn.1, fun c => ?_, fun c => ?_⟩⟩
    · rw [mh_eq (by omega) hn (h.1.2 i hi)] at c
      exact hN (fun q => q.2 c)
    · rw [mh_eq (by omega) hn (h.1.2 i hi)] at c
      have hw := f_mayBe_w c
      refine ⟨fun q => absurd q (md_vin hw).1, fun _ => ⟨fun _ => ⟨hw, ?_⟩, fun q => ?_⟩⟩
      · have := hY ⟨ht, c⟩ (cl_up S 2200 (9 * i + w.toNatClampNeg) v) (by rw [ci]; exact h.set hi c) (cl_X.rf.up (by decide) _ _)
        rw [ci] at this ⊢
        rw [hn.2.2.2.2.2.2.2.2.2.2.2.2 _ (md_vin hw).2]
        exact this
      · exfalso
        obtain ⟨q1, q2⟩ := md_vin hw
        rw [Int32.lt_iff_toInt_lt, show (9 : Int32).toInt = 9 by decide] at q
        rw [Int32.lt_iff_toInt_lt, lit_0] at q1
        rw [Int32.toNatClampNeg] at q2
        omega
  · refine ⟨rfl, rfl, -1, rfl, fun _ => hN (fun q => hne (hth.mp q.1)), fun c => absurd rfl c⟩
end CR5
