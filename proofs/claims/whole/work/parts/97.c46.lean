/-! the class: between two calls; what only reads (by program and by hand: wip/whole/gen/c46.py) -/
theorem md_out4_0 {x : Int32} (h0 : ¬ x = 0) (h1 : ¬ x = 1) (h2 : ¬ x = 2) (h3 : ¬ x = 3) : x.toInt < 0 ∨ 3 < x.toInt := by
  have m0 : ¬ x.toInt = 0 := fun e => h0 (Int32.toInt_inj.mp (e.trans (by decide)))
  have m1 : ¬ x.toInt = 1 := fun e => h1 (Int32.toInt_inj.mp (e.trans (by decide)))
  have m2 : ¬ x.toInt = 2 := fun e => h2 (Int32.toInt_inj.mp (e.trans (by decide)))
  have m3 : ¬ x.toInt = 3 := fun e => h3 (Int32.toInt_inj.mp (e.trans (by decide)))
  omega
set_option maxHeartbeats 1000000 in
theorem vc19_0 {xs : List Int32} {K : Nat → Prop} {h0 : am_H} {d : Nat} {Q : Option Value → cl_A → cl_S → Prop} {A : cl_A} {S : cl_S} {x1 : Int32}
    (k : (((x1 < 0) → True) ∧ (¬ (x1 < 0) → (cl_z S) ∧ ((((S.2.1 803 0) ≤ x1) → True) ∧ (¬ ((S.2.1 803 0) ≤ x1) → ((60 ≤ x1) → True) ∧ (¬ (60 ≤ x1) → (vp_in x1 60) ∧ (True)))))) ∧ (∀ s1 : Int32, s1 = (if x1 < 0 then (-1) else (if (S.2.1 803 0) ≤ x1 then (-1) else (if 60 ≤ x1 then (-1) else (S.2.1 2100 x1.toNatClampNeg)))) → (Q (some (cl_rf A 5 s1)) A S))) :
    cl_wp xs K h0 d Q I19 0 [some (cl_rf A 8 0), some (.int x1)] [] A S := by
  refine cl_iload_n (dd D19_ok 0 rfl) rfl ?_
  have J1 : ∀ s1 : Int32, s1 = (if x1 < 0 then (-1) else (if (S.2.1 803 0) ≤ x1 then (-1) else (if 60 ≤ x1 then (-1) else (S.2.1 2100 x1.toNatClampNeg)))) → cl_wp xs K h0 d Q I19 31 [some (cl_rf A 8 0), some (.int x1)] [cl_rf A 5 s1] A S := by
    intro s1 e_s1
    exact cl_aret (dd D19_ok 17 rfl) ⟨_, rfl⟩ (k.2 s1 e_s1)
  refine cl_if_lt (tgt := 30) (dd D19_ok 1 rfl) (by decide) (fun c2 => ?_) (fun c2 => ?_)
  · refine cl_null (g := 5) (dd D19_ok 16 rfl) ?_
    exact J1 _ (by first | rfl | (rw [if_pos c2]; done) | (rw [if_pos c2]; rfl) | simp only [if_pos c2])
  · refine cl_iload_n (dd D19_ok 2 rfl) rfl ?_
    refine cl_aload_n (dd D19_ok 3 rfl) rfl ?_
    refine cl_gI (g := 803) (e := S.2.1 803 0) (dd D19_ok 4 rfl) pl8_44 (by decide) (by decide) (by decide) rfl rfl (k.1.2 c2).1.l8 rfl ?_
    refine cl_icmp_ge (tgt := 30) (dd D19_ok 5 rfl) (by decide) (fun c3 => ?_) (fun c3 => ?_)
    · refine cl_null (g := 5) (dd D19_ok 16 rfl) ?_
      exact J1 _ (by first | rfl | (rw [if_neg c2, if_pos c3]; done) | (rw [if_neg c2, if_pos c3]; rfl) | simp only [if_neg c2, if_pos c3])
    · refine cl_iload_n (dd D19_ok 6 rfl) rfl ?_
      refine cl_aload_n (dd D19_ok 7 rfl) rfl ?_
      refine cl_getO (g := 21) (dd D19_ok 8 rfl) pl8_15 (by decide) (by decide) (by decide) rfl (k.1.2 c2).1.l8 ?_
      refine cl_len (f := 21) (n := 60) (dd D19_ok 9 rfl) (by decide) (k.1.2 c2).1.l21 (Or.inr (Or.inr (Or.inr ⟨_, by decide, rfl⟩))) (by show ((List.range 60).map _).length = 60; simp) ?_
      rw [show (nI 60 : Int32) = 60 from rfl]
      refine cl_icmp_ge (tgt := 30) (dd D19_ok 10 rfl) (by decide) (fun c4 => ?_) (fun c4 => ?_)
      · refine cl_null (g := 5) (dd D19_ok 16 rfl) ?_
        exact J1 _ (by first | rfl | (rw [if_neg c2, if_neg c3, if_pos c4]; done) | (rw [if_neg c2, if_neg c3, if_pos c4]; rfl) | simp only [if_neg c2, if_neg c3, if_pos c4])
      · refine cl_aload_n (dd D19_ok 11 rfl) rfl ?_
        refine cl_getO (g := 21) (dd D19_ok 12 rfl) pl8_15 (by decide) (by decide) (by decide) rfl (k.1.2 c2).1.l8 ?_
        refine cl_iload_n (dd D19_ok 13 rfl) rfl ?_
        refine cl_ndv (e := S.2.1 2100 x1.toNatClampNeg) (dd D19_ok 14 rfl) (k.1.2 c2).1 (((k.1.2 c2).2.2 c3).2 c4).1 rfl ?_
        refine cl_goto (tgt := 31) (dd D19_ok 15 rfl) (by decide) ?_
        exact J1 _ (by first | rfl | (rw [if_neg c2, if_neg c3, if_neg c4]; done) | (rw [if_neg c2, if_neg c3, if_neg c4]; rfl) | simp only [if_neg c2, if_neg c3, if_neg c4])
set_option maxHeartbeats 1000000 in
theorem vc18_0 {xs : List Int32} {K : Nat → Prop} {h0 : am_H} {d : Nat} {Q : Option Value → cl_A → cl_S → Prop} {A : cl_A} {S : cl_S} {x1 : Int32}
    (k : (cl_z S) ∧ (cl_C xs K (d + 1) 19 [cl_rf A 8 0, .int x1] A S (fun v A' N1 => A' = A ∧ N1.1 = S.1 ∧ ∃ y1, v = some (cl_rf A 5 y1) ∧ ((((y1 = -1) → True) ∧ (¬ (y1 = -1) → (cl_n N1 y1) ∧ (((¬ (N1.2.1 501 y1.toNatClampNeg) = 0) → True) ∧ (¬ (¬ (N1.2.1 501 y1.toNatClampNeg) = 0) → True)))) ∧ (∀ s2 : Int32, s2 = (if y1 = -1 then (-1) else (if ¬ (N1.2.1 501 y1.toNatClampNeg) = 0 then (-1) else y1)) → (Q (some (cl_rf A 5 s2)) A N1)))))) :
    cl_wp xs K h0 (d + 1) Q I18 0 [some (cl_rf A 8 0), some (.int x1), none] [] A S := by
  refine cl_aload_n (dd D18_ok 0 rfl) rfl ?_
  refine cl_iload_n (dd D18_ok 1 rfl) rfl ?_
  refine cl_call (as := [.int x1]) (rest := []) (v := 0) (dd D18_ok 2 rfl) pl8_57 rfl (Nat.le_of_ble_eq_true rfl) (ms19 xs) rfl (by decide) k.1.l8 ((k.2).mono ?_) rfl
  rintro v A N1 ⟨rfl, e1, y1, rfl, w1⟩
  refine cl_astore_n (dd D18_ok 3 rfl) (Nat.le_of_ble_eq_true rfl) ?_
  refine cl_aload_n (dd D18_ok 4 rfl) rfl ?_
  have J1 : ∀ s2 : Int32, s2 = (if y1 = -1 then (-1) else (if ¬ (N1.2.1 501 y1.toNatClampNeg) = 0 then (-1) else y1)) → cl_wp xs K h0 (d + 1) Q I18 22 [some (cl_rf A 8 0), some (.int x1), some (cl_rf A 5 y1)] [cl_rf A 5 s2] A N1 := by
    intro s2 e_s2
    exact cl_aret (dd D18_ok 12 rfl) ⟨_, rfl⟩ (w1.2 s2 e_s2)
  refine cl_ifnull (tgt := 21) (dd D18_ok 5 rfl) (by decide) (fun c2 => ?_) (fun c2 => ?_)
  · refine cl_null (g := 5) (dd D18_ok 11 rfl) ?_
    exact J1 _ (by first | rfl | (rw [if_pos c2]; done) | (rw [if_pos c2]; rfl) | simp only [if_pos c2])
  · refine cl_aload_n (dd D18_ok 6 rfl) rfl ?_
    refine cl_gI (g := 501) (e := N1.2.1 501 y1.toNatClampNeg) (dd D18_ok 7 rfl) pl8_60 (by decide) (by decide) (by decide) rfl rfl (w1.1.2 c2).1.l5 rfl ?_
    refine cl_if_ne (tgt := 21) (dd D18_ok 8 rfl) (by decide) (fun c3 => ?_) (fun c3 => ?_)
    · refine cl_null (g := 5) (dd D18_ok 11 rfl) ?_
      exact J1 _ (by first | rfl | (rw [if_neg c2, if_pos c3]; done) | (rw [if_neg c2, if_pos c3]; rfl) | simp only [if_neg c2, if_pos c3])
    · refine cl_aload_n (dd D18_ok 9 rfl) rfl ?_
      refine cl_goto (tgt := 22) (dd D18_ok 10 rfl) (by decide) ?_
      exact J1 _ (by first | rfl | (rw [if_neg c2, if_neg c3]; done) | (rw [if_neg c2, if_neg c3]; rfl) | simp only [if_neg c2, if_neg c3])
set_option maxHeartbeats 1000000 in
theorem vc14_0 {xs : List Int32} {K : Nat → Prop} {h0 : am_H} {d : Nat} {Q : Option Value → cl_A → cl_S → Prop} {A : cl_A} {S : cl_S} {x1 : Int32}
    (k : ((x1 < 0) → Q (some (.int (-1))) A S) ∧ (¬ (x1 < 0) → (cl_z S) ∧ (((x1 ≤ (S.2.1 801 0)) → Q (some (.int x1)) A (cl_up S 801 0 x1)) ∧ (¬ (x1 ≤ (S.2.1 801 0)) → Q (some (.int (-1))) A S)))) :
    cl_wp xs K h0 d Q I14 0 [some (cl_rf A 8 0), some (.int x1)] [] A S := by
  refine cl_iload_n (dd D14_ok 0 rfl) rfl ?_
  refine cl_if_lt (tgt := 12) (dd D14_ok 1 rfl) (by decide) (fun c1 => ?_) (fun c1 => ?_)
  · refine cl_iconst (v := (-1)) (dd D14_ok 6 rfl) (by decide) ?_
    exact cl_iret (dd D14_ok 7 rfl) rfl (k.1 c1)
  · refine cl_iload_n (dd D14_ok 2 rfl) rfl ?_
    refine cl_aload_n (dd D14_ok 3 rfl) rfl ?_
    refine cl_gI (g := 801) (e := S.2.1 801 0) (dd D14_ok 4 rfl) pl8_29 (by decide) (by decide) (by decide) rfl rfl (k.2 c1).1.l8 rfl ?_
    refine cl_icmp_le (tgt := 14) (dd D14_ok 5 rfl) (by decide) (fun c2 => ?_) (fun c2 => ?_)
    · refine cl_aload_n (dd D14_ok 8 rfl) rfl ?_
      refine cl_iload_n (dd D14_ok 9 rfl) rfl ?_
      refine cl_pI (g := 801) (dd D14_ok 10 rfl) pl8_29 (by decide) (by decide) rfl rfl rfl rfl rfl (k.2 c1).1.l8 ?_
      refine cl_iload_n (dd D14_ok 11 rfl) rfl ?_
      exact cl_iret (dd D14_ok 12 rfl) rfl ((k.2 c1).2.1 c2)
    · refine cl_iconst (v := (-1)) (dd D14_ok 6 rfl) (by decide) ?_
      exact cl_iret (dd D14_ok 7 rfl) rfl ((k.2 c1).2.2 c2)
set_option maxHeartbeats 1000000 in
theorem vc100_0 {xs : List Int32} {K : Nat → Prop} {h0 : am_H} {d : Nat} {Q : Option Value → cl_A → cl_S → Prop} {A : cl_A} {S : cl_S} 
    (k : (cl_z S) ∧ (Q (some (.int (S.2.1 301 0))) A S)) :
    cl_wp xs K h0 d Q I100 0 [some (cl_rf A 8 0)] [] A S := by
  refine cl_aload_n (dd D100_ok 0 rfl) rfl ?_
  refine cl_getO (g := 3) (dd D100_ok 1 rfl) pl8_22 (by decide) (by decide) (by decide) rfl k.1.l8 ?_
  refine cl_gI (g := 301) (e := S.2.1 301 0) (dd D100_ok 2 rfl) pl8_106 (by decide) (by decide) (by decide) rfl rfl k.1.l3 rfl ?_
  exact cl_iret (dd D100_ok 3 rfl) rfl k.2
set_option maxHeartbeats 1000000 in
theorem vc99_0 {xs : List Int32} {K : Nat → Prop} {h0 : am_H} {d : Nat} {Q : Option Value → cl_A → cl_S → Prop} {A : cl_A} {S : cl_S} {x1 : Int32} {x2 : Int32}
    (k : (cl_z S) ∧ (cl_C xs K (d + 1) 19 [cl_rf A 8 0, .int x1] A S (fun v A' N1 => A' = A ∧ N1.1 = S.1 ∧ ∃ y1, v = some (cl_rf A 5 y1) ∧ (((y1 = -1) → Q (some (.int (-1))) A N1) ∧ (¬ (y1 = -1) → (cl_n N1 y1) ∧ (((¬ (N1.2.1 511 y1.toNatClampNeg) = 0) → ((x2 = 0) → Q (some (.int (N1.2.1 0 y1.toNatClampNeg))) A N1) ∧ (¬ (x2 = 0) → ((x2 = 1) → Q (some (.int (N1.2.1 1 y1.toNatClampNeg))) A N1) ∧ (¬ (x2 = 1) → ((x2 = 2) → Q (some (.int (N1.2.1 2 y1.toNatClampNeg))) A N1) ∧ (¬ (x2 = 2) → ((x2 = 3) → Q (some (.int (N1.2.1 3 y1.toNatClampNeg))) A N1) ∧ (¬ (x2 = 3) → Q (some (.int (-1))) A N1))))) ∧ (¬ (¬ (N1.2.1 511 y1.toNatClampNeg) = 0) → Q (some (.int (-1))) A N1))))))) :
    cl_wp xs K h0 (d + 1) Q I99 0 [some (cl_rf A 8 0), some (.int x1), some (.int x2), none] [] A S := by
  refine cl_aload_n (dd D99_ok 0 rfl) rfl ?_
  refine cl_iload_n (dd D99_ok 1 rfl) rfl ?_
  refine cl_call (as := [.int x1]) (rest := []) (v := 0) (dd D99_ok 2 rfl) pl8_57 rfl (Nat.le_of_ble_eq_true rfl) (ms19 xs) rfl (by decide) k.1.l8 ((k.2).mono ?_) rfl
  rintro v A N1 ⟨rfl, e1, y1, rfl, w1⟩
  refine cl_astore_n (dd D99_ok 3 rfl) (Nat.le_of_ble_eq_true rfl) ?_
  refine cl_aload_n (dd D99_ok 4 rfl) rfl ?_
  refine cl_ifnull (tgt := 17) (dd D99_ok 5 rfl) (by decide) (fun c1 => ?_) (fun c1 => ?_)
  · refine cl_iconst (v := (-1)) (dd D99_ok 9 rfl) (by decide) ?_
    exact cl_iret (dd D99_ok 10 rfl) rfl (w1.1 c1)
  · refine cl_aload_n (dd D99_ok 6 rfl) rfl ?_
    refine cl_gI (g := 511) (e := N1.2.1 511 y1.toNatClampNeg) (dd D99_ok 7 rfl) pl8_93 (by decide) (by decide) (by decide) rfl rfl (w1.2 c1).1.l5 rfl ?_
    refine cl_if_ne (tgt := 19) (dd D99_ok 8 rfl) (by decide) (fun c2 => ?_) (fun c2 => ?_)
    · refine cl_iload_n (dd D99_ok 11 rfl) rfl ?_
      by_cases c3 : x2 = 0
      · refine cl_tsw (tgt := 52) (dd D99_ok 12 rfl) (Or.inr ⟨by rw [c3]; decide, by rw [c3]; decide, _, by rw [c3]; rfl, by decide⟩) ?_
        refine cl_aload_n (dd D99_ok 13 rfl) rfl ?_
        refine cl_getO (g := 0) (dd D99_ok 14 rfl) pl8_84 (by decide) (by decide) (by decide) rfl (w1.2 c1).1.l5 ?_
        refine cl_gI (g := 0) (e := N1.2.1 0 y1.toNatClampNeg) (dd D99_ok 15 rfl) pl8_97 (by decide) (by decide) (by decide) rfl rfl (w1.2 c1).1.l0 rfl ?_
        exact cl_iret (dd D99_ok 16 rfl) rfl (((w1.2 c1).2.1 c2).1 c3)
      by_cases c4 : x2 = 1
      · refine cl_tsw (tgt := 60) (dd D99_ok 12 rfl) (Or.inr ⟨by rw [c4]; decide, by rw [c4]; decide, _, by rw [c4]; rfl, by decide⟩) ?_
        refine cl_aload_n (dd D99_ok 17 rfl) rfl ?_
        refine cl_getO (g := 0) (dd D99_ok 18 rfl) pl8_84 (by decide) (by decide) (by decide) rfl (w1.2 c1).1.l5 ?_
        refine cl_gI (g := 1) (e := N1.2.1 1 y1.toNatClampNeg) (dd D99_ok 19 rfl) pl8_100 (by decide) (by decide) (by decide) rfl rfl (w1.2 c1).1.l0 rfl ?_
        exact cl_iret (dd D99_ok 20 rfl) rfl ((((w1.2 c1).2.1 c2).2 c3).1 c4)
      by_cases c5 : x2 = 2
      · refine cl_tsw (tgt := 68) (dd D99_ok 12 rfl) (Or.inr ⟨by rw [c5]; decide, by rw [c5]; decide, _, by rw [c5]; rfl, by decide⟩) ?_
        refine cl_aload_n (dd D99_ok 21 rfl) rfl ?_
        refine cl_getO (g := 0) (dd D99_ok 22 rfl) pl8_84 (by decide) (by decide) (by decide) rfl (w1.2 c1).1.l5 ?_
        refine cl_gI (g := 2) (e := N1.2.1 2 y1.toNatClampNeg) (dd D99_ok 23 rfl) pl8_103 (by decide) (by decide) (by decide) rfl rfl (w1.2 c1).1.l0 rfl ?_
        exact cl_iret (dd D99_ok 24 rfl) rfl (((((w1.2 c1).2.1 c2).2 c3).2 c4).1 c5)
      by_cases c6 : x2 = 3
      · refine cl_tsw (tgt := 76) (dd D99_ok 12 rfl) (Or.inr ⟨by rw [c6]; decide, by rw [c6]; decide, _, by rw [c6]; rfl, by decide⟩) ?_
        refine cl_aload_n (dd D99_ok 25 rfl) rfl ?_
        refine cl_getO (g := 0) (dd D99_ok 26 rfl) pl8_84 (by decide) (by decide) (by decide) rfl (w1.2 c1).1.l5 ?_
        refine cl_gI (g := 3) (e := N1.2.1 3 y1.toNatClampNeg) (dd D99_ok 27 rfl) pl8_88 (by decide) (by decide) (by decide) rfl rfl (w1.2 c1).1.l0 rfl ?_
        exact cl_iret (dd D99_ok 28 rfl) rfl ((((((w1.2 c1).2.1 c2).2 c3).2 c4).2 c5).1 c6)
      refine cl_tsw (tgt := 84) (dd D99_ok 12 rfl) (Or.inl ⟨md_out4_0 c3 c4 c5 c6, by decide⟩) ?_
      refine cl_iconst (v := (-1)) (dd D99_ok 29 rfl) (by decide) ?_
      exact cl_iret (dd D99_ok 30 rfl) rfl ((((((w1.2 c1).2.1 c2).2 c3).2 c4).2 c5).2 c6)
    · refine cl_iconst (v := (-1)) (dd D99_ok 9 rfl) (by decide) ?_
      exact cl_iret (dd D99_ok 10 rfl) rfl ((w1.2 c1).2.2 c2)
set_option maxHeartbeats 1000000 in
theorem vc101_0 {xs : List Int32} {K : Nat → Prop} {h0 : am_H} {d : Nat} {Q : Option Value → cl_A → cl_S → Prop} {A : cl_A} {S : cl_S} {x1 : Int32} {x2 : Int32}
    (k : (cl_z S) ∧ (cl_C xs K (d + 6) 45 [cl_rf A 3 0, .int x1] A S (fun v A' N1 => A' = A ∧ N1.1 = S.1 ∧ ∃ y1, v = some (cl_rf A 7 y1) ∧ (((¬ y1 = -1) → ((x2 = 0) → (cl_w N1 y1) ∧ (Q (some (.int (N1.2.1 700 y1.toNatClampNeg))) A N1)) ∧ (¬ (x2 = 0) → ((x2 = 1) → (cl_w N1 y1) ∧ (Q (some (.int (N1.2.1 0 (60 + y1).toNatClampNeg))) A N1)) ∧ (¬ (x2 = 1) → ((x2 = 2) → (cl_w N1 y1) ∧ (Q (some (.int (N1.2.1 1 (60 + y1).toNatClampNeg))) A N1)) ∧ (¬ (x2 = 2) → ((x2 = 3) → (cl_w N1 y1) ∧ (Q (some (.int (N1.2.1 2 (60 + y1).toNatClampNeg))) A N1)) ∧ (¬ (x2 = 3) → ((x2 = 4) → (cl_w N1 y1) ∧ (Q (some (.int (N1.2.1 3 (60 + y1).toNatClampNeg))) A N1)) ∧ (¬ (x2 = 4) → ((x2 = 5) → (cl_w N1 y1) ∧ (Q (some (.int (N1.2.1 701 y1.toNatClampNeg))) A N1)) ∧ (¬ (x2 = 5) → ((x2 = 6) → (cl_w N1 y1) ∧ (Q (some (.int (N1.2.1 702 y1.toNatClampNeg))) A N1)) ∧ (¬ (x2 = 6) → Q (some (.int (-1))) A N1)))))))) ∧ (¬ (¬ y1 = -1) → Q (some (.int (-1))) A N1))))) :
    cl_wp xs K h0 (d + 6) Q I101 0 [some (cl_rf A 8 0), some (.int x1), some (.int x2), none] [] A S := by
  refine cl_aload_n (dd D101_ok 0 rfl) rfl ?_
  refine cl_getO (g := 3) (dd D101_ok 1 rfl) pl8_22 (by decide) (by decide) (by decide) rfl k.1.l8 ?_
  refine cl_iload_n (dd D101_ok 2 rfl) rfl ?_
  refine cl_call (as := [.int x1]) (rest := []) (v := 0) (dd D101_ok 3 rfl) pl8_109 rfl (Nat.le_of_ble_eq_true rfl) (ms45 xs) rfl (by decide) k.1.l3 ((k.2).mono ?_) rfl
  rintro v A N1 ⟨rfl, e1, y1, rfl, w1⟩
  refine cl_astore_n (dd D101_ok 4 rfl) (Nat.le_of_ble_eq_true rfl) ?_
  refine cl_aload_n (dd D101_ok 5 rfl) rfl ?_
  refine cl_ifnonnull (tgt := 15) (dd D101_ok 6 rfl) (by decide) (fun c1 => ?_) (fun c1 => ?_)
  · refine cl_iload_n (dd D101_ok 9 rfl) rfl ?_
    by_cases c2 : x2 = 0
    · refine cl_tsw (tgt := 60) (dd D101_ok 10 rfl) (Or.inr ⟨by rw [c2]; decide, by rw [c2]; decide, _, by rw [c2]; rfl, by decide⟩) ?_
      refine cl_aload_n (dd D101_ok 11 rfl) rfl ?_
      refine cl_gI (g := 700) (e := N1.2.1 700 y1.toNatClampNeg) (dd D101_ok 12 rfl) pl8_113 (by decide) (by decide) (by decide) rfl rfl ((w1.1 c1).1 c2).1.l7 rfl ?_
      exact cl_iret (dd D101_ok 13 rfl) rfl ((w1.1 c1).1 c2).2
    by_cases c3 : x2 = 1
    · refine cl_tsw (tgt := 65) (dd D101_ok 10 rfl) (Or.inr ⟨by rw [c3]; decide, by rw [c3]; decide, _, by rw [c3]; rfl, by decide⟩) ?_
      refine cl_aload_n (dd D101_ok 14 rfl) rfl ?_
      refine cl_gW (dd D101_ok 15 rfl) pl8_118 (by decide) (((w1.1 c1).2 c2).1 c3).1 ?_
      refine cl_gI (g := 0) (e := N1.2.1 0 (60 + y1).toNatClampNeg) (dd D101_ok 16 rfl) pl8_97 (by decide) (by decide) (by decide) rfl rfl (((w1.1 c1).2 c2).1 c3).1.l0 rfl ?_
      exact cl_iret (dd D101_ok 17 rfl) rfl (((w1.1 c1).2 c2).1 c3).2
    by_cases c4 : x2 = 2
    · refine cl_tsw (tgt := 73) (dd D101_ok 10 rfl) (Or.inr ⟨by rw [c4]; decide, by rw [c4]; decide, _, by rw [c4]; rfl, by decide⟩) ?_
      refine cl_aload_n (dd D101_ok 18 rfl) rfl ?_
      refine cl_gW (dd D101_ok 19 rfl) pl8_118 (by decide) ((((w1.1 c1).2 c2).2 c3).1 c4).1 ?_
      refine cl_gI (g := 1) (e := N1.2.1 1 (60 + y1).toNatClampNeg) (dd D101_ok 20 rfl) pl8_100 (by decide) (by decide) (by decide) rfl rfl ((((w1.1 c1).2 c2).2 c3).1 c4).1.l0 rfl ?_
      exact cl_iret (dd D101_ok 21 rfl) rfl ((((w1.1 c1).2 c2).2 c3).1 c4).2
    by_cases c5 : x2 = 3
    · refine cl_tsw (tgt := 81) (dd D101_ok 10 rfl) (Or.inr ⟨by rw [c5]; decide, by rw [c5]; decide, _, by rw [c5]; rfl, by decide⟩) ?_
      refine cl_aload_n (dd D101_ok 22 rfl) rfl ?_
      refine cl_gW (dd D101_ok 23 rfl) pl8_118 (by decide) (((((w1.1 c1).2 c2).2 c3).2 c4).1 c5).1 ?_
      refine cl_gI (g := 2) (e := N1.2.1 2 (60 + y1).toNatClampNeg) (dd D101_ok 24 rfl) pl8_103 (by decide) (by decide) (by decide) rfl rfl (((((w1.1 c1).2 c2).2 c3).2 c4).1 c5).1.l0 rfl ?_
      exact cl_iret (dd D101_ok 25 rfl) rfl (((((w1.1 c1).2 c2).2 c3).2 c4).1 c5).2
    by_cases c6 : x2 = 4
    · refine cl_tsw (tgt := 89) (dd D101_ok 10 rfl) (Or.inr ⟨by rw [c6]; decide, by rw [c6]; decide, _, by rw [c6]; rfl, by decide⟩) ?_
      refine cl_aload_n (dd D101_ok 26 rfl) rfl ?_
      refine cl_gW (dd D101_ok 27 rfl) pl8_118 (by decide) ((((((w1.1 c1).2 c2).2 c3).2 c4).2 c5).1 c6).1 ?_
      refine cl_gI (g := 3) (e := N1.2.1 3 (60 + y1).toNatClampNeg) (dd D101_ok 28 rfl) pl8_88 (by decide) (by decide) (by decide) rfl rfl ((((((w1.1 c1).2 c2).2 c3).2 c4).2 c5).1 c6).1.l0 rfl ?_
      exact cl_iret (dd D101_ok 29 rfl) rfl ((((((w1.1 c1).2 c2).2 c3).2 c4).2 c5).1 c6).2
    by_cases c7 : x2 = 5
    · refine cl_tsw (tgt := 97) (dd D101_ok 10 rfl) (Or.inr ⟨by rw [c7]; decide, by rw [c7]; decide, _, by rw [c7]; rfl, by decide⟩) ?_
      refine cl_aload_n (dd D101_ok 30 rfl) rfl ?_
      refine cl_gI (g := 701) (e := N1.2.1 701 y1.toNatClampNeg) (dd D101_ok 31 rfl) pl8_119 (by decide) (by decide) (by decide) rfl rfl (((((((w1.1 c1).2 c2).2 c3).2 c4).2 c5).2 c6).1 c7).1.l7 rfl ?_
      exact cl_iret (dd D101_ok 32 rfl) rfl (((((((w1.1 c1).2 c2).2 c3).2 c4).2 c5).2 c6).1 c7).2
    by_cases c8 : x2 = 6
    · refine cl_tsw (tgt := 102) (dd D101_ok 10 rfl) (Or.inr ⟨by rw [c8]; decide, by rw [c8]; decide, _, by rw [c8]; rfl, by decide⟩) ?_
      refine cl_aload_n (dd D101_ok 33 rfl) rfl ?_
      refine cl_gI (g := 702) (e := N1.2.1 702 y1.toNatClampNeg) (dd D101_ok 34 rfl) pl8_122 (by decide) (by decide) (by decide) rfl rfl ((((((((w1.1 c1).2 c2).2 c3).2 c4).2 c5).2 c6).2 c7).1 c8).1.l7 rfl ?_
      exact cl_iret (dd D101_ok 35 rfl) rfl ((((((((w1.1 c1).2 c2).2 c3).2 c4).2 c5).2 c6).2 c7).1 c8).2
    refine cl_tsw (tgt := 107) (dd D101_ok 10 rfl) (Or.inl ⟨md_out7_0 c2 c3 c4 c5 c6 c7 c8, by decide⟩) ?_
    refine cl_iconst (v := (-1)) (dd D101_ok 36 rfl) (by decide) ?_
    exact cl_iret (dd D101_ok 37 rfl) rfl ((((((((w1.1 c1).2 c2).2 c3).2 c4).2 c5).2 c6).2 c7).2 c8)
  · refine cl_iconst (v := (-1)) (dd D101_ok 7 rfl) (by decide) ?_
    exact cl_iret (dd D101_ok 8 rfl) rfl (w1.2 c1)
set_option maxHeartbeats 1000000 in
theorem vc102_0 {xs : List Int32} {K : Nat → Prop} {h0 : am_H} {d : Nat} {Q : Option Value → cl_A → cl_S → Prop} {A : cl_A} {S : cl_S} {x1 : Int32}
    (k : (cl_z S) ∧ (cl_C xs K (d + 20) 18 [cl_rf A 8 0, .int x1] A S (fun v A' N1 => A' = A ∧ N1.1 = S.1 ∧ ∃ y1, v = some (cl_rf A 5 y1) ∧ (((¬ y1 = -1) → cl_C xs K (d + 20) 60 [cl_rf A 6 0, cl_rf A 5 y1] A N1 (fun v A' N2 => A' = A ∧ N2.1 = N1.1 ∧ ∃ y2, v = some (.int y2) ∧ (Q (some (.int y2)) A N2))) ∧ (¬ (¬ y1 = -1) → Q (some (.int (-1))) A N1))))) :
    cl_wp xs K h0 (d + 20) Q I102 0 [some (cl_rf A 8 0), some (.int x1), none] [] A S := by
  refine cl_aload_n (dd D102_ok 0 rfl) rfl ?_
  refine cl_iload_n (dd D102_ok 1 rfl) rfl ?_
  refine cl_call (as := [.int x1]) (rest := []) (v := 0) (dd D102_ok 2 rfl) pl8_40 rfl (Nat.le_of_ble_eq_true rfl) (ms18 xs) rfl (by decide) k.1.l8 ((k.2).mono ?_) rfl
  rintro v A N1 ⟨rfl, e1, y1, rfl, w1⟩
  refine cl_astore_n (dd D102_ok 3 rfl) (Nat.le_of_ble_eq_true rfl) ?_
  refine cl_aload_n (dd D102_ok 4 rfl) rfl ?_
  refine cl_ifnonnull (tgt := 14) (dd D102_ok 5 rfl) (by decide) (fun c1 => ?_) (fun c1 => ?_)
  · refine cl_aload_n (dd D102_ok 8 rfl) rfl ?_
    refine cl_getO (g := 3) (dd D102_ok 9 rfl) pl8_22 (by decide) (by decide) (by decide) rfl (k.1.mv e1).l8 ?_
    refine cl_getO (g := 6) (dd D102_ok 10 rfl) pl8_125 (by decide) (by decide) (by decide) rfl (k.1.mv e1).l3 ?_
    refine cl_aload_n (dd D102_ok 11 rfl) rfl ?_
    refine cl_call (as := [cl_rf A 5 y1]) (rest := []) (v := 0) (dd D102_ok 12 rfl) pl8_129 rfl (Nat.le_of_ble_eq_true rfl) (ms60 xs) rfl (by decide) (k.1.mv e1).l6 (((w1.1 c1)).mono ?_) rfl
    rintro v A N2 ⟨rfl, e2, y2, rfl, w2⟩
    exact cl_iret (dd D102_ok 13 rfl) rfl w2
  · refine cl_iconst (v := (-1)) (dd D102_ok 6 rfl) (by decide) ?_
    refine cl_goto (tgt := 25) (dd D102_ok 7 rfl) (by decide) ?_
    exact cl_iret (dd D102_ok 13 rfl) rfl (w1.2 c1)
set_option maxHeartbeats 1000000 in
theorem vc103_0 {xs : List Int32} {K : Nat → Prop} {h0 : am_H} {d : Nat} {Q : Option Value → cl_A → cl_S → Prop} {A : cl_A} {S : cl_S} {x1 : Int32} {x2 : Int32}
    (k : (cl_z S) ∧ (cl_C xs K (d + 20) 18 [cl_rf A 8 0, .int x1] A S (fun v A' N1 => A' = A ∧ N1.1 = S.1 ∧ ∃ y1, v = some (cl_rf A 5 y1) ∧ (((y1 = -1) → Q (some (.int (-1))) A N1) ∧ (¬ (y1 = -1) → (cl_n N1 y1) ∧ ((((N1.2.1 502 y1.toNatClampNeg) = -1) → Q (some (.int (-1))) A N1) ∧ (¬ ((N1.2.1 502 y1.toNatClampNeg) = -1) → ((¬ (g_isB N1 y1) = 0) → cl_C xs K (d + 20) 95 [cl_rf A 5 y1, .int x2] A N1 (fun v A' N2 => A' = A ∧ N2.1 = N1.1 ∧ ∃ y2, v = some (.int y2) ∧ (Q (some (.int y2)) A N2))) ∧ (¬ (¬ (g_isB N1 y1) = 0) → Q (some (.int (-1))) A N1)))))))) :
    cl_wp xs K h0 (d + 20) Q I103 0 [some (cl_rf A 8 0), some (.int x1), some (.int x2), none] [] A S := by
  refine cl_aload_n (dd D103_ok 0 rfl) rfl ?_
  refine cl_iload_n (dd D103_ok 1 rfl) rfl ?_
  refine cl_call (as := [.int x1]) (rest := []) (v := 0) (dd D103_ok 2 rfl) pl8_40 rfl (Nat.le_of_ble_eq_true rfl) (ms18 xs) rfl (by decide) k.1.l8 ((k.2).mono ?_) rfl
  rintro v A N1 ⟨rfl, e1, y1, rfl, w1⟩
  refine cl_astore_n (dd D103_ok 3 rfl) (Nat.le_of_ble_eq_true rfl) ?_
  refine cl_aload_n (dd D103_ok 4 rfl) rfl ?_
  refine cl_ifnull (tgt := 24) (dd D103_ok 5 rfl) (by decide) (fun c1 => ?_) (fun c1 => ?_)
  · refine cl_iconst (v := (-1)) (dd D103_ok 12 rfl) (by decide) ?_
    exact cl_iret (dd D103_ok 13 rfl) rfl (w1.1 c1)
  · refine cl_aload_n (dd D103_ok 6 rfl) rfl ?_
    refine cl_gR (g := 502) (f := 5) (e := N1.2.1 502 y1.toNatClampNeg) (dd D103_ok 7 rfl) pl8_135 (by decide) (by decide) (by decide) rfl rfl (w1.2 c1).1.l5 rfl ?_
    refine cl_ifnull (tgt := 24) (dd D103_ok 8 rfl) (by decide) (fun c2 => ?_) (fun c2 => ?_)
    · refine cl_iconst (v := (-1)) (dd D103_ok 12 rfl) (by decide) ?_
      exact cl_iret (dd D103_ok 13 rfl) rfl ((w1.2 c1).2.1 c2)
    · refine cl_aload_n (dd D103_ok 9 rfl) rfl ?_
      refine cl_callsP (r := .int (g_isB N1 y1)) (as := [cl_rf A 5 y1]) (rest := []) (dd D103_ok 10 rfl) pl8_139 rfl (Nat.le_of_ble_eq_true rfl) (cc_g_isB (S := N1) (w1.2 c1).1) rfl ?_
      refine cl_if_ne (tgt := 26) (dd D103_ok 11 rfl) (by decide) (fun c3 => ?_) (fun c3 => ?_)
      · refine cl_aload_n (dd D103_ok 14 rfl) rfl ?_
        refine cl_iload_n (dd D103_ok 15 rfl) rfl ?_
        refine cl_calls (as := [cl_rf A 5 y1, .int x2]) (rest := []) (dd D103_ok 16 rfl) pl8_145 rfl (Nat.le_of_ble_eq_true rfl) (((((w1.2 c1).2.2 c2).1 c3)).mono ?_) rfl
        rintro v A N2 ⟨rfl, e2, y2, rfl, w2⟩
        exact cl_iret (dd D103_ok 17 rfl) rfl w2
      · refine cl_iconst (v := (-1)) (dd D103_ok 12 rfl) (by decide) ?_
        exact cl_iret (dd D103_ok 13 rfl) rfl (((w1.2 c1).2.2 c2).2 c3)

/-- class and reference between two calls -/
def CR (S : cl_S) (M : md_S) (K : bt) (nn W t : Nat) : Prop := IV M K nn ∧ cl_T S M nn ∧ S.2.1 803 0 = nI nn ∧ (∀ p, p < 60 → S.2.1 2100 p = if p < nn then nI p else -1) ∧ (S.2.1 801 0 = nI t ∧ M.1 1 = nI t ∧ t ≤ 400 ∧ ∀ p, p < t → S.2.1 2000 p = M.2 0 p) ∧ (∃ Wp, wp_R S Wp ∧ W ≤ Wp) ∧ S.2.1 301 0 = nI W ∧ M.1 29 = nI W ∧ W ≤ 3600 ∧ bx_eq S M nn ∧ wd_eq S M W
section CRS
variable {xs : List Int32} {Kp : Nat → Prop} {A : cl_A} {S : cl_S} {M : md_S} {K : bt} {nn W t : Nat}
theorem there_iff (h2 : M.1 2 = nI nn) (h60 : nn ≤ 60) (x : Int32) : ¬ f_there M x = 0 ↔ ∃ i, i < nn ∧ x = nI i := by
  refine ⟨fun c => f_there_of h2 h60 c, ?_⟩
  rintro ⟨i, hi, rfl⟩
  unfold f_there
  rw [if_neg (nI_pos (by omega)), h2, if_neg (nI_ge (by omega) (by omega))]
  decide
theorem kk_nodeAt (h : CR S M K nn W t) {d : Nat} {x : Int32} : ∀ Q', (∀ i, i < nn → x = nI i → Q' (some (cl_rf A 5 (nI i))) A S) → ((¬ ∃ i, i < nn ∧ x = nI i) → Q' (some (cl_rf A 5 (-1))) A S) → cl_C xs Kp (d + 1) 19 [cl_rf A 8 0, .int x] A S Q' := by
  intro Q' hY hN
  obtain ⟨h1, h2, h3, h4, _⟩ := h
  have h60 := h2.1
  have hiff := there_iff h1.1.1 h60 x
  refine cl_intro (ms19 xs) (Nat.le_of_ble_eq_true rfl) (fun h0 => vc19_0 ⟨⟨fun _ => trivial, fun c1 => ⟨h2.2.1, fun _ => trivial, fun c2 => ⟨fun _ => trivial, fun c3 => ⟨?_, trivial⟩⟩⟩⟩, fun s1 e => ?_⟩)
  · have : ¬ f_there M x = 0 := by
      unfold f_there
      rw [if_neg c1, h1.1.1, ← h3, if_neg c2]
      decide
    obtain ⟨i, hi, rfl⟩ := hiff.mp this
    exact vp_nI (by omega) (by decide)
  · by_cases c : f_there M x = 0
    · have hne : ¬ ∃ i, i < nn ∧ x = nI i := fun q => hiff.mpr q c
      have : s1 = -1 := by
        rw [e]
        unfold f_there at c
        split
        · rfl
        · rename_i q1
          split
          · rfl
          · rename_i q2
            rw [if_neg q1, h1.1.1, ← h3, if_neg q2] at c
            exact absurd c (by decide)
      rw [this]
      exact hN hne
    · obtain ⟨i, hi, rfl⟩ := hiff.mp c
      have : s1 = nI i := by
        rw [e, if_neg (nI_pos (by omega)), h3, if_neg (nI_ge (by omega) (by omega)), nI_clamp (by omega), h4 i (by omega), if_pos hi]
        exact if_neg (nI_ge (a := i) (b := 60) (by omega) (by omega))
      rw [this]
      exact hY i hi rfl
theorem kk_elementAt (h : CR S M K nn W t) {d : Nat} {x : Int32} : ∀ Q', (∀ i, i < nn → x = nI i → M.2 3 i = 0 → Q' (some (cl_rf A 5 (nI i))) A S) → ((¬ ∃ i, i < nn ∧ x = nI i ∧ M.2 3 i = 0) → Q' (some (cl_rf A 5 (-1))) A S) → cl_C xs Kp (d + 2) 18 [cl_rf A 8 0, .int x] A S Q' := by
  intro Q' hY hN
  have h2 := h.2.1
  have h60 := h2.1
  refine cl_intro (ms18 xs) (Nat.le_of_ble_eq_true rfl) (fun h0 => vc18_0 ⟨h2.2.1, kk_nodeAt h _ (fun i hi e => ?_) (fun hne => ?_)⟩)
  · have hk := (h2.2.2.2 i hi)
    refine ⟨rfl, rfl, nI i, rfl, ⟨fun _ => trivial, fun _ => ⟨hk.1, fun _ => trivial, fun _ => trivial⟩⟩, fun s2 e2 => ?_⟩
    rw [if_neg (nI_ne_m1 (by omega)), nI_clamp (by omega), hk.2.2.1] at e2
    by_cases c : M.2 3 i = 0
    · rw [if_neg (not_not_intro c)] at e2
      rw [e2]
      exact hY i hi e c
    · rw [if_pos c] at e2
      rw [e2]
      refine hN ?_
      rintro ⟨j, hj, ej, c2⟩
      have : j = i := nI_inj60 (by omega) (by omega) (ej.symm.trans e)
      subst this
      exact c c2
  · refine ⟨rfl, rfl, -1, rfl, ⟨fun _ => trivial, fun c => absurd rfl c⟩, fun s2 e2 => ?_⟩
    rw [if_pos rfl] at e2
    rw [e2]
    refine hN ?_
    rintro ⟨j, hj, ej, c2⟩
    exact hne ⟨j, hj, ej⟩
theorem kk_words (h : CR S M K nn W t) {d : Nat} : ∀ Q', Q' (some (.int (f_words M))) A S → cl_C xs Kp (d + 1) 100 [cl_rf A 8 0] A S Q' := by
  intro Q' hQ
  obtain ⟨h1, h2, h3, h4, h5, h6, h7, h8, h9⟩ := h
  refine cl_intro (ms100 xs) (Nat.le_of_ble_eq_true rfl) (fun h0 => vc100_0 ⟨h2.2.1, ?_⟩)
  rw [h7]
  unfold f_words at hQ
  rw [h8] at hQ
  exact hQ
theorem kk_box (h : CR S M K nn W t) {d : Nat} {x1 x2 : Int32} : ∀ Q', Q' (some (.int (f_box M x1 x2))) A S → cl_C xs Kp (d + 2) 99 [cl_rf A 8 0, .int x1, .int x2] A S Q' := by
  intro Q' hQ
  have hh := h
  obtain ⟨h1, h2, h3, h4, h5, h6, h7, h8, h9, h10, h11⟩ := h
  have h60 := h2.1
  refine cl_intro (ms99 xs) (Nat.le_of_ble_eq_true rfl) (fun h0 => vc99_0 ⟨h2.2.1, kk_nodeAt hh _ (fun i hi e => ?_) (fun hne => ?_)⟩)
  · subst e
    have ci : (nI i).toNatClampNeg = i := nI_clamp (by omega)
    have ht : ¬ f_there M (nI i) = 0 := (there_iff h1.1.1 h60 _).mpr ⟨i, hi, rfl⟩
    obtain ⟨b1, b2⟩ := h10 i hi
    unfold f_box at hQ
    rw [if_neg ht, ci] at hQ
    refine ⟨rfl, rfl, nI i, rfl, fun c => absurd c (nI_ne_m1 (by omega)), fun _ => ⟨(h2.2.2.2 i hi).1, ?_⟩⟩
    rw [ci]
    refine ⟨fun c => ?_, fun c => ?_⟩
    · have hb := b1.mpr c
      obtain ⟨v0, v1, v2, v3⟩ := b2 hb
      rw [if_neg hb] at hQ
      rw [v0, v1, v2, v3]
      refine ⟨fun e => ?_, fun n0 => ⟨fun e => ?_, fun n1 => ⟨fun e => ?_, fun n2 => ⟨fun e => ?_, fun n3 => ?_⟩⟩⟩⟩
      · subst e
        exact hQ
      · subst e
        exact hQ
      · subst e
        exact hQ
      · subst e
        exact hQ
      · have : (if x2 < 0 then (-1 : Int32) else if x2 ≤ 3 then (if ¬ x2 = 0 then (if ¬ x2 = 1 then (if ¬ x2 = 2 then M.2 27 i else M.2 26 i) else M.2 25 i) else M.2 24 i) else -1) = -1 := by
          by_cases q : x2 < 0
          · rw [if_pos q]
          · rw [if_neg q]
            by_cases q2 : x2 ≤ 3
            · exfalso
              rw [Int32.lt_iff_toInt_lt, lit_0] at q
              rw [Int32.le_iff_toInt_le, show (3 : Int32).toInt = 3 by decide] at q2
              have m0 : ¬ x2.toInt = 0 := fun e => n0 (Int32.toInt_inj.mp (e.trans (by decide)))
              have m1 : ¬ x2.toInt = 1 := fun e => n1 (Int32.toInt_inj.mp (e.trans (by decide)))
              have m2 : ¬ x2.toInt = 2 := fun e => n2 (Int32.toInt_inj.mp (e.trans (by decide)))
              have m3 : ¬ x2.toInt = 3 := fun e => n3 (Int32.toInt_inj.mp (e.trans (by decide)))
              omega
            · rw [if_neg q2]
        rw [this] at hQ
        exact hQ
    · have hb : M.2 23 i = 0 := Classical.not_not.mp (fun q => c (b1.mp q))
      rw [if_pos hb] at hQ
      exact hQ
  · have ht : f_there M x1 = 0 := Classical.not_not.mp (fun q => hne ((there_iff h1.1.1 h60 _).mp q))
    unfold f_box at hQ
    rw [if_pos ht] at hQ
    exact ⟨rfl, rfl, -1, rfl, fun _ => hQ, fun c => absurd rfl c⟩
theorem kk_word (h : CR S M K nn W t) {d : Nat} {x1 x2 : Int32} : ∀ Q', Q' (some (.int (f_word M x1 x2))) A S → cl_C xs Kp (d + 7) 101 [cl_rf A 8 0, .int x1, .int x2] A S Q' := by
  intro Q' hQ
  obtain ⟨h1, h2, h3, h4, h5, ⟨Wp, h6, h6'⟩, h7, h8, h9, h10, h11⟩ := h
  have h60 := h2.1
  have hWp := h6.1
  refine cl_intro (ms101 xs) (Nat.le_of_ble_eq_true rfl) (fun h0 => vc101_0 ⟨h2.2.1, kk_wordAt h2.2.1 h6 h6' h7 _ (fun w hw e => ?_) (fun hne => ?_)⟩)
  · subst e
    have cw : (nI w).toNatClampNeg = w := nI_clamp (by omega)
    have cw2 : (60 + nI w).toNatClampNeg = 60 + w := by
      rw [show (60 : Int32) = nI 60 from rfl, nI_add, nI_clamp (by omega)]
    have lt : nI w < nI W := Int32.not_le.mp (nI_ge (by omega) (by omega))
    unfold f_word at hQ
    rw [if_neg (nI_pos (by omega)), h8, if_pos lt, cw] at hQ
    have hcw := (h6.2.2.2.2 w (by omega)).2
    obtain ⟨v0, v1, v2, v3, v4, v5, v6⟩ := h11 w hw
    refine ⟨rfl, rfl, nI w, rfl, fun _ => ?_, fun c => absurd (nI_ne_m1 (by omega)) c⟩
    rw [cw, cw2, v0, v1, v2, v3, v4, v5, v6]
    refine ⟨fun e => ⟨hcw, ?_⟩, fun n0 => ⟨fun e => ⟨hcw, ?_⟩, fun n1 => ⟨fun e => ⟨hcw, ?_⟩, fun n2 => ⟨fun e => ⟨hcw, ?_⟩, fun n3 => ⟨fun e => ⟨hcw, ?_⟩, fun n4 => ⟨fun e => ⟨hcw, ?_⟩, fun n5 => ⟨fun e => ⟨hcw, ?_⟩, fun n6 => ?_⟩⟩⟩⟩⟩⟩⟩
    · rw [if_pos e] at hQ; exact hQ
    · rw [if_neg n0, if_pos e] at hQ; exact hQ
    · rw [if_neg n0, if_neg n1, if_pos e] at hQ; exact hQ
    · rw [if_neg n0, if_neg n1, if_neg n2, if_pos e] at hQ; exact hQ
    · rw [if_neg n0, if_neg n1, if_neg n2, if_neg n3, if_pos e] at hQ; exact hQ
    · rw [if_neg n0, if_neg n1, if_neg n2, if_neg n3, if_neg n4, if_pos e] at hQ; exact hQ
    · rw [if_neg n0, if_neg n1, if_neg n2, if_neg n3, if_neg n4, if_neg n5, if_pos e] at hQ; exact hQ
    · rw [if_neg n0, if_neg n1, if_neg n2, if_neg n3, if_neg n4, if_neg n5, if_neg n6] at hQ; exact hQ
  · refine ⟨rfl, rfl, -1, rfl, fun c => absurd rfl c, fun _ => ?_⟩
    have : f_word M x1 x2 = -1 := by
      unfold f_word
      by_cases q : x1 < 0
      · rw [if_pos q]
      · rw [if_neg q, h8]
        by_cases q2 : x1 < nI W
        · exfalso
          refine hne ⟨x1.toNatClampNeg, ?_, ?_⟩
          · rw [Int32.lt_iff_toInt_lt, nI_toInt (by omega)] at q2
            rw [Int32.lt_iff_toInt_lt, lit_0] at q
            rw [Int32.toNatClampNeg]
            omega
          · rw [Int32.lt_iff_toInt_lt, lit_0] at q
            have := Int32.toInt_lt x1
            apply Int32.toInt_inj.mp
            rw [nI_toInt (by rw [Int32.toNatClampNeg]; omega), Int32.toNatClampNeg]
            omega
        · rw [if_neg q2]
    rw [this] at hQ
    exact hQ
end CRS
