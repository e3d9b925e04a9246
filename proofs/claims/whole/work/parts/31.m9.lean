/-! the reference: modes, margins (by program and hand: wip/whole/gen/m9.py) -/
set_option maxHeartbeats 1000000 in
theorem vc116_0 {xs : List Int32} {mo : Nat} {ad : Nat → Nat} (hD : md_D mo ad) {h0 : am_H} {d : Nat} {Q : Option Value → md_S → Prop} {M : md_S} 
    (k : ∀ M1 : md_S, M1 = md_up1 M 22 0 → (md_wp xs mo ad h0 (d + 5) Q I116 7 [some (.ref mo), some (.int 0)] [] M1)) :
    md_wp xs mo ad h0 (d + 5) Q I116 0 [some (.ref mo), none] [] M := by
  refine md_aload0 (dd D116_ok 0 rfl) rfl ?_
  refine md_iconst (v := 0) (dd D116_ok 1 rfl) (by decide) ?_
  refine md_putI hD (dd D116_ok 2 rfl) pl9_178 (by decide) rfl rfl rfl ?_
  refine md_nm (fun M1 e1 => ?_)
  refine md_iconst (v := 0) (dd D116_ok 3 rfl) (by decide) ?_
  refine md_istore_n (dd D116_ok 4 rfl) (Nat.le_of_ble_eq_true rfl) ?_
  exact (k M1 e1)
set_option maxHeartbeats 1000000 in
theorem vc116_7 {xs : List Int32} {mo : Nat} {ad : Nat → Nat} (hD : md_D mo ad) {h0 : am_H} {d : Nat} {Q : Option Value → md_S → Prop} {M : md_S} {x1 : Int32}
    (k : ((x1 = (-1)) → md_wp xs mo ad h0 (d + 5) Q I116 176 [some (.ref mo), some (.int ((M.1 22) - 1))] [] M) ∧ (¬ (x1 = (-1)) → (vp_in (M.1 22) 60) ∧ (∀ M1 : md_S, M1 = md_up2 M 21 (M.1 22).toNatClampNeg x1 → (∀ M2 : md_S, M2 = md_up1 M1 22 ((M1.1 22) + 1) → ((((¬ x1 = 0) → (vp_in x1 60) ∧ ((vp_in (M2.2 4 x1.toNatClampNeg) 60) ∧ ((((f_isBox M2 (M2.2 4 x1.toNatClampNeg)) = 0) → True) ∧ (¬ ((f_isBox M2 (M2.2 4 x1.toNatClampNeg)) = 0) → True)))) ∧ (¬ (¬ x1 = 0) → True)) ∧ (∀ s1 : Int32, s1 = (if ¬ x1 = 0 then (if (f_isBox M2 (M2.2 4 x1.toNatClampNeg)) = 0 then (M2.2 14 (M2.2 4 x1.toNatClampNeg).toNatClampNeg) else (M2.2 4 x1.toNatClampNeg)) else (-1)) → ((vp_in x1 60) ∧ (∀ M3 : md_S, M3 = md_up2 M2 14 x1.toNatClampNeg s1 → ((((¬ x1 = 0) → (vp_in (M3.2 4 x1.toNatClampNeg) 60) ∧ (True)) ∧ (¬ (¬ x1 = 0) → ((¬ (f_of M3 0 0) = 2) → True) ∧ (¬ (¬ (f_of M3 0 0) = 2) → True))) ∧ (∀ s2 : Int32, s2 = (if ¬ x1 = 0 then (f_modeOf M3 x1) else (if ¬ (f_of M3 0 0) = 2 then 1 else 2)) → (∀ M4 : md_S, M4 = md_up2 M3 12 x1.toNatClampNeg s2 → ((((x1 ≤ 0) → True) ∧ (¬ (x1 ≤ 0) → (((f_isBox M4 x1) = 0) → True) ∧ (¬ ((f_isBox M4 x1) = 0) → (vp_in (M4.2 4 x1.toNatClampNeg) 60) ∧ (((¬ (M4.2 12 (M4.2 4 x1.toNatClampNeg).toNatClampNeg) = 1) → True) ∧ (¬ (¬ (M4.2 12 (M4.2 4 x1.toNatClampNeg).toNatClampNeg) = 1) → (((f_of M4 x1 1) ≤ 0) → True) ∧ (¬ ((f_of M4 x1 1) ≤ 0) → True)))))) ∧ (∀ s3 : Int32, s3 = (if x1 ≤ 0 then 0 else (if (f_isBox M4 x1) = 0 then 0 else (if ¬ (M4.2 12 (M4.2 4 x1.toNatClampNeg).toNatClampNeg) = 1 then 0 else (if (f_of M4 x1 1) ≤ 0 then 0 else 1)))) → (∀ M5 : md_S, M5 = md_up2 M4 13 x1.toNatClampNeg (s3 &&& 1) → (md_C xs mo ad (d + 5) 120 [.int x1, .int 0] M5 (fun v N4 => ∃ y4, v = some (.int y4) ∧ (md_wp xs mo ad h0 (d + 5) Q I116 7 [some (.ref mo), some (.int y4)] [] N4))))))))))))))))) :
    md_wp xs mo ad h0 (d + 5) Q I116 7 [some (.ref mo), some (.int x1)] [] M := by
  refine md_iload_n (dd D116_ok 5 rfl) rfl ?_
  refine md_iconst (v := (-1)) (dd D116_ok 6 rfl) (by decide) ?_
  refine md_icmp_eq (tgt := 169) (dd D116_ok 7 rfl) (by decide) (fun c1 => ?_) (fun c1 => ?_)
  · refine md_aload0 (dd D116_ok 99 rfl) rfl ?_
    refine md_getI (dd D116_ok 100 rfl) pl9_178 (by decide) rfl ?_
    refine md_iconst (v := 1) (dd D116_ok 101 rfl) (by decide) ?_
    refine md_isub (dd D116_ok 102 rfl) ?_
    refine md_istore_n (dd D116_ok 103 rfl) (Nat.le_of_ble_eq_true rfl) ?_
    exact (k.1 c1)
  · refine md_aload0 (dd D116_ok 8 rfl) rfl ?_
    refine md_getA (dd D116_ok 9 rfl) pl9_73 (by decide) rfl ?_
    refine md_aload0 (dd D116_ok 10 rfl) rfl ?_
    refine md_getI (dd D116_ok 11 rfl) pl9_178 (by decide) rfl ?_
    refine md_iload_n (dd D116_ok 12 rfl) rfl ?_
    refine md_iast (f := 21) hD (dd D116_ok 13 rfl) rfl (k.2 c1).1 ?_
    refine md_nm (fun M1 e1 => ?_)
    refine md_aload0 (dd D116_ok 14 rfl) rfl ?_
    refine md_dup (dd D116_ok 15 rfl) ?_
    refine md_getI (dd D116_ok 16 rfl) pl9_178 (by decide) rfl ?_
    refine md_iconst (v := 1) (dd D116_ok 17 rfl) (by decide) ?_
    refine md_iadd (dd D116_ok 18 rfl) ?_
    refine md_putI hD (dd D116_ok 19 rfl) pl9_178 (by decide) rfl rfl rfl ?_
    refine md_nm (fun M2 e2 => ?_)
    refine md_aload0 (dd D116_ok 20 rfl) rfl ?_
    refine md_getA (dd D116_ok 21 rfl) pl9_52 (by decide) rfl ?_
    refine md_iload_n (dd D116_ok 22 rfl) rfl ?_
    refine md_iload_n (dd D116_ok 23 rfl) rfl ?_
    have J1 : ∀ s1 : Int32, s1 = (if ¬ x1 = 0 then (if (f_isBox M2 (M2.2 4 x1.toNatClampNeg)) = 0 then (M2.2 14 (M2.2 4 x1.toNatClampNeg).toNatClampNeg) else (M2.2 4 x1.toNatClampNeg)) else (-1)) → md_wp xs mo ad h0 (d + 5) Q I116 78 [some (.ref mo), some (.int x1)] [.int s1, .int x1, .ref (ad 14)] M2 := by
      intro s1 e_s1
      refine md_iast (f := 14) hD (dd D116_ok 46 rfl) rfl ((((k.2 c1).2 M1 e1) M2 e2).2 s1 e_s1).1 ?_
      refine md_nm (fun M3 e3 => ?_)
      refine md_aload0 (dd D116_ok 47 rfl) rfl ?_
      refine md_getA (dd D116_ok 48 rfl) pl9_45 (by decide) rfl ?_
      refine md_iload_n (dd D116_ok 49 rfl) rfl ?_
      refine md_iload_n (dd D116_ok 50 rfl) rfl ?_
      have J2 : ∀ s2 : Int32, s2 = (if ¬ x1 = 0 then (f_modeOf M3 x1) else (if ¬ (f_of M3 0 0) = 2 then 1 else 2)) → md_wp xs mo ad h0 (d + 5) Q I116 111 [some (.ref mo), some (.int x1)] [.int s2, .int x1, .ref (ad 12)] M3 := by
        intro s2 e_s2
        refine md_iast (f := 12) hD (dd D116_ok 65 rfl) rfl ((((k.2 c1).2 M1 e1) M2 e2).2 s1 e_s1).1 ?_
        refine md_nm (fun M4 e4 => ?_)
        refine md_aload0 (dd D116_ok 66 rfl) rfl ?_
        refine md_getA (dd D116_ok 67 rfl) pl9_48 (by decide) rfl ?_
        refine md_iload_n (dd D116_ok 68 rfl) rfl ?_
        refine md_iload_n (dd D116_ok 69 rfl) rfl ?_
        have J3 : ∀ s3 : Int32, s3 = (if x1 ≤ 0 then 0 else (if (f_isBox M4 x1) = 0 then 0 else (if ¬ (M4.2 12 (M4.2 4 x1.toNatClampNeg).toNatClampNeg) = 1 then 0 else (if (f_of M4 x1 1) ≤ 0 then 0 else 1)))) → md_wp xs mo ad h0 (d + 5) Q I116 158 [some (.ref mo), some (.int x1)] [.int s3, .int x1, .ref (ad 13)] M4 := by
          intro s3 e_s3
          refine md_zast (f := 13) hD (dd D116_ok 92 rfl) rfl ((((k.2 c1).2 M1 e1) M2 e2).2 s1 e_s1).1 ?_
          refine md_nm (fun M5 e5 => ?_)
          refine md_aload0 (dd D116_ok 93 rfl) rfl ?_
          refine md_iload_n (dd D116_ok 94 rfl) rfl ?_
          refine md_iconst (v := 0) (dd D116_ok 95 rfl) (by decide) ?_
          refine md_call (as := [.int x1, .int 0]) (rest := []) (dd D116_ok 96 rfl) pl9_187 rfl (Nat.le_of_ble_eq_true rfl) (ms120 xs) rfl (((((((((((k.2 c1).2 M1 e1) M2 e2).2 s1 e_s1).2 M3 e3).2 s2 e_s2) M4 e4).2 s3 e_s3) M5 e5)).mono ?_) rfl
          rintro v N4 ⟨y4, rfl, w4⟩
          refine md_istore_n (dd D116_ok 97 rfl) (Nat.le_of_ble_eq_true rfl) ?_
          refine md_goto (tgt := 7) (dd D116_ok 98 rfl) (by decide) ?_
          exact w4
        refine md_if_le (tgt := 157) (dd D116_ok 70 rfl) (by decide) (fun c5 => ?_) (fun c5 => ?_)
        · refine md_iconst (v := 0) (dd D116_ok 91 rfl) (by decide) ?_
          exact J3 _ (by first | rfl | rw [if_pos c5] | simp only [if_pos c5])
        · refine md_aload0 (dd D116_ok 71 rfl) rfl ?_
          refine md_iload_n (dd D116_ok 72 rfl) rfl ?_
          refine md_callI (as := [.int x1]) (rest := [.int x1, .ref (ad 13)]) (dd D116_ok 73 rfl) pl9_181 rfl (Nat.le_of_ble_eq_true rfl) (ms117 xs) rfl (c_f_isBox hD ((((k.2 c1).2 M1 e1) M2 e2).2 s1 e_s1).1) rfl ?_
          refine md_if_eq (tgt := 157) (dd D116_ok 74 rfl) (by decide) (fun c6 => ?_) (fun c6 => ?_)
          · refine md_iconst (v := 0) (dd D116_ok 91 rfl) (by decide) ?_
            exact J3 _ (by first | rfl | rw [if_neg c5, if_pos c6] | simp only [if_neg c5, if_pos c6])
          · refine md_aload0 (dd D116_ok 75 rfl) rfl ?_
            refine md_getA (dd D116_ok 76 rfl) pl9_45 (by decide) rfl ?_
            refine md_aload0 (dd D116_ok 77 rfl) rfl ?_
            refine md_getA (dd D116_ok 78 rfl) pl9_21 (by decide) rfl ?_
            refine md_iload_n (dd D116_ok 79 rfl) rfl ?_
            refine md_iald (f := 4) (dd D116_ok 80 rfl) rfl ((((k.2 c1).2 M1 e1) M2 e2).2 s1 e_s1).1 ?_
            refine md_iald (f := 12) (dd D116_ok 81 rfl) rfl (((((((((k.2 c1).2 M1 e1) M2 e2).2 s1 e_s1).2 M3 e3).2 s2 e_s2) M4 e4).1.2 c5).2 c6).1 ?_
            refine md_iconst (v := 1) (dd D116_ok 82 rfl) (by decide) ?_
            refine md_icmp_ne (tgt := 157) (dd D116_ok 83 rfl) (by decide) (fun c7 => ?_) (fun c7 => ?_)
            · refine md_iconst (v := 0) (dd D116_ok 91 rfl) (by decide) ?_
              exact J3 _ (by first | rfl | rw [if_neg c5, if_neg c6, if_pos c7] | simp only [if_neg c5, if_neg c6, if_pos c7])
            · refine md_aload0 (dd D116_ok 84 rfl) rfl ?_
              refine md_iload_n (dd D116_ok 85 rfl) rfl ?_
              refine md_iconst (v := 1) (dd D116_ok 86 rfl) (by decide) ?_
              refine md_callI (as := [.int x1, .int 1]) (rest := [.int x1, .ref (ad 13)]) (dd D116_ok 87 rfl) pl9_168 rfl (Nat.le_of_ble_eq_true rfl) (ms118 xs) rfl (c_f_of hD ((((k.2 c1).2 M1 e1) M2 e2).2 s1 e_s1).1 (md_vl (by decide))) rfl ?_
              refine md_if_le (tgt := 157) (dd D116_ok 88 rfl) (by decide) (fun c8 => ?_) (fun c8 => ?_)
              · refine md_iconst (v := 0) (dd D116_ok 91 rfl) (by decide) ?_
                exact J3 _ (by first | rfl | rw [if_neg c5, if_neg c6, if_neg c7, if_pos c8] | simp only [if_neg c5, if_neg c6, if_neg c7, if_pos c8])
              · refine md_iconst (v := 1) (dd D116_ok 89 rfl) (by decide) ?_
                refine md_goto (tgt := 158) (dd D116_ok 90 rfl) (by decide) ?_
                exact J3 _ (by first | rfl | rw [if_neg c5, if_neg c6, if_neg c7, if_neg c8] | simp only [if_neg c5, if_neg c6, if_neg c7, if_neg c8])
      refine md_if_ne (tgt := 106) (dd D116_ok 51 rfl) (by decide) (fun c9 => ?_) (fun c9 => ?_)
      · refine md_aload0 (dd D116_ok 62 rfl) rfl ?_
        refine md_iload_n (dd D116_ok 63 rfl) rfl ?_
        refine md_callI (as := [.int x1]) (rest := [.int x1, .ref (ad 12)]) (dd D116_ok 64 rfl) pl9_184 rfl (Nat.le_of_ble_eq_true rfl) (ms119 xs) rfl (c_f_modeOf hD ((((k.2 c1).2 M1 e1) M2 e2).2 s1 e_s1).1 ((((((k.2 c1).2 M1 e1) M2 e2).2 s1 e_s1).2 M3 e3).1.1 c9).1) rfl ?_
        exact J2 _ (by first | rfl | rw [if_pos c9] | simp only [if_pos c9])
      · refine md_aload0 (dd D116_ok 52 rfl) rfl ?_
        refine md_iconst (v := 0) (dd D116_ok 53 rfl) (by decide) ?_
        refine md_iconst (v := 0) (dd D116_ok 54 rfl) (by decide) ?_
        refine md_callI (as := [.int 0, .int 0]) (rest := [.int x1, .ref (ad 12)]) (dd D116_ok 55 rfl) pl9_168 rfl (Nat.le_of_ble_eq_true rfl) (ms118 xs) rfl (c_f_of hD (md_vl (by decide)) (md_vl (by decide))) rfl ?_
        refine md_iconst (v := 2) (dd D116_ok 56 rfl) (by decide) ?_
        refine md_icmp_ne (tgt := 102) (dd D116_ok 57 rfl) (by decide) (fun c10 => ?_) (fun c10 => ?_)
        · refine md_iconst (v := 1) (dd D116_ok 60 rfl) (by decide) ?_
          refine md_goto (tgt := 111) (dd D116_ok 61 rfl) (by decide) ?_
          exact J2 _ (by first | rfl | rw [if_neg c9, if_pos c10] | simp only [if_neg c9, if_pos c10])
        · refine md_iconst (v := 2) (dd D116_ok 58 rfl) (by decide) ?_
          refine md_goto (tgt := 111) (dd D116_ok 59 rfl) (by decide) ?_
          exact J2 _ (by first | rfl | rw [if_neg c9, if_neg c10] | simp only [if_neg c9, if_neg c10])
    refine md_if_ne (tgt := 45) (dd D116_ok 24 rfl) (by decide) (fun c11 => ?_) (fun c11 => ?_)
    · refine md_aload0 (dd D116_ok 27 rfl) rfl ?_
      refine md_aload0 (dd D116_ok 28 rfl) rfl ?_
      refine md_getA (dd D116_ok 29 rfl) pl9_21 (by decide) rfl ?_
      refine md_iload_n (dd D116_ok 30 rfl) rfl ?_
      refine md_iald (f := 4) (dd D116_ok 31 rfl) rfl ((((k.2 c1).2 M1 e1) M2 e2).1.1 c11).1 ?_
      refine md_callI (as := [.int (M2.2 4 x1.toNatClampNeg)]) (rest := [.int x1, .ref (ad 14)]) (dd D116_ok 32 rfl) pl9_181 rfl (Nat.le_of_ble_eq_true rfl) (ms117 xs) rfl (c_f_isBox hD ((((k.2 c1).2 M1 e1) M2 e2).1.1 c11).2.1) rfl ?_
      refine md_if_eq (tgt := 67) (dd D116_ok 33 rfl) (by decide) (fun c12 => ?_) (fun c12 => ?_)
      · refine md_aload0 (dd D116_ok 39 rfl) rfl ?_
        refine md_getA (dd D116_ok 40 rfl) pl9_52 (by decide) rfl ?_
        refine md_aload0 (dd D116_ok 41 rfl) rfl ?_
        refine md_getA (dd D116_ok 42 rfl) pl9_21 (by decide) rfl ?_
        refine md_iload_n (dd D116_ok 43 rfl) rfl ?_
        refine md_iald (f := 4) (dd D116_ok 44 rfl) rfl ((((k.2 c1).2 M1 e1) M2 e2).1.1 c11).1 ?_
        refine md_iald (f := 14) (dd D116_ok 45 rfl) rfl ((((k.2 c1).2 M1 e1) M2 e2).1.1 c11).2.1 ?_
        exact J1 _ (by first | rfl | rw [if_pos c11, if_pos c12] | simp only [if_pos c11, if_pos c12])
      · refine md_aload0 (dd D116_ok 34 rfl) rfl ?_
        refine md_getA (dd D116_ok 35 rfl) pl9_21 (by decide) rfl ?_
        refine md_iload_n (dd D116_ok 36 rfl) rfl ?_
        refine md_iald (f := 4) (dd D116_ok 37 rfl) rfl ((((k.2 c1).2 M1 e1) M2 e2).1.1 c11).1 ?_
        refine md_goto (tgt := 78) (dd D116_ok 38 rfl) (by decide) ?_
        exact J1 _ (by first | rfl | rw [if_pos c11, if_neg c12] | simp only [if_pos c11, if_neg c12])
    · refine md_iconst (v := (-1)) (dd D116_ok 25 rfl) (by decide) ?_
      refine md_goto (tgt := 78) (dd D116_ok 26 rfl) (by decide) ?_
      exact J1 _ (by first | rfl | rw [if_neg c11] | simp only [if_neg c11])
set_option maxHeartbeats 1000000 in
theorem vc116_176 {xs : List Int32} {mo : Nat} {ad : Nat → Nat} (hD : md_D mo ad) {h0 : am_H} {d : Nat} {Q : Option Value → md_S → Prop} {M : md_S} {x1 : Int32}
    (k : ((x1 < 0) → Q none M) ∧ (¬ (x1 < 0) → (vp_in x1 60) ∧ ((vp_in (M.2 21 x1.toNatClampNeg) 60) ∧ (((¬ (M.2 3 (M.2 21 x1.toNatClampNeg).toNatClampNeg) = 0) → md_wp xs mo ad h0 (d + 5) Q I116 176 [some (.ref mo), some (.int (x1 + (-1)))] [] M) ∧ (¬ (¬ (M.2 3 (M.2 21 x1.toNatClampNeg).toNatClampNeg) = 0) → md_C xs mo ad (d + 5) 122 [.int (M.2 21 x1.toNatClampNeg)] M (fun v N1 => v = none ∧ (md_wp xs mo ad h0 (d + 5) Q I116 176 [some (.ref mo), some (.int (x1 + (-1)))] [] N1))))))) :
    md_wp xs mo ad h0 (d + 5) Q I116 176 [some (.ref mo), some (.int x1)] [] M := by
  refine md_iload_n (dd D116_ok 104 rfl) rfl ?_
  refine md_if_lt (tgt := 210) (dd D116_ok 105 rfl) (by decide) (fun c1 => ?_) (fun c1 => ?_)
  · exact md_vret (dd D116_ok 122 rfl) rfl (k.1 c1)
  · refine md_aload0 (dd D116_ok 106 rfl) rfl ?_
    refine md_getA (dd D116_ok 107 rfl) pl9_17 (by decide) rfl ?_
    refine md_aload0 (dd D116_ok 108 rfl) rfl ?_
    refine md_getA (dd D116_ok 109 rfl) pl9_73 (by decide) rfl ?_
    refine md_iload_n (dd D116_ok 110 rfl) rfl ?_
    refine md_iald (f := 21) (dd D116_ok 111 rfl) rfl (k.2 c1).1 ?_
    refine md_iald (f := 3) (dd D116_ok 112 rfl) rfl (k.2 c1).2.1 ?_
    refine md_if_ne (tgt := 204) (dd D116_ok 113 rfl) (by decide) (fun c2 => ?_) (fun c2 => ?_)
    · refine md_iinc (v := x1 + (-1)) (dd D116_ok 120 rfl) rfl rfl ?_
      refine md_goto (tgt := 176) (dd D116_ok 121 rfl) (by decide) ?_
      exact ((k.2 c1).2.2.1 c2)
    · refine md_aload0 (dd D116_ok 114 rfl) rfl ?_
      refine md_aload0 (dd D116_ok 115 rfl) rfl ?_
      refine md_getA (dd D116_ok 116 rfl) pl9_73 (by decide) rfl ?_
      refine md_iload_n (dd D116_ok 117 rfl) rfl ?_
      refine md_iald (f := 21) (dd D116_ok 118 rfl) rfl (k.2 c1).1 ?_
      refine md_call (as := [.int (M.2 21 x1.toNatClampNeg)]) (rest := []) (dd D116_ok 119 rfl) pl9_190 rfl (Nat.le_of_ble_eq_true rfl) (ms122 xs) rfl ((((k.2 c1).2.2.2 c2)).mono ?_) rfl
      rintro v N1 ⟨rfl, w1⟩
      refine md_iinc (v := x1 + (-1)) (dd D116_ok 120 rfl) rfl rfl ?_
      refine md_goto (tgt := 176) (dd D116_ok 121 rfl) (by decide) ?_
      exact w1
set_option maxHeartbeats 1000000 in
theorem vc122_0 {xs : List Int32} {mo : Nat} {ad : Nat → Nat} (hD : md_D mo ad) {h0 : am_H} {d : Nat} {Q : Option Value → md_S → Prop} {M : md_S} {x1 : Int32}
    (k : (vp_in x1 60) ∧ (∀ M1 : md_S, M1 = md_up2 M 19 x1.toNatClampNeg (f_of M x1 4) → (∀ M2 : md_S, M2 = md_up2 M1 20 x1.toNatClampNeg (f_of M1 x1 4) → ((¬ (x1 ≤ 0) → vp_in (M2.2 4 x1.toNatClampNeg) 60) ∧ (((¬ (f_joins M2 x1) = 0) → md_wp xs mo ad h0 (d + 4) Q I122 45 [some (.ref mo), some (.int x1), some (.int (-1)), some (.int (-1)), some (.int (M2.2 5 x1.toNatClampNeg))] [] M2) ∧ (¬ (¬ (f_joins M2 x1) = 0) → Q none M2)))))) :
    md_wp xs mo ad h0 (d + 4) Q I122 0 [some (.ref mo), some (.int x1), none, none, none] [] M := by
  refine md_aload0 (dd D122_ok 0 rfl) rfl ?_
  refine md_getA (dd D122_ok 1 rfl) pl9_67 (by decide) rfl ?_
  refine md_iload_n (dd D122_ok 2 rfl) rfl ?_
  refine md_aload0 (dd D122_ok 3 rfl) rfl ?_
  refine md_iload_n (dd D122_ok 4 rfl) rfl ?_
  refine md_iconst (v := 4) (dd D122_ok 5 rfl) (by decide) ?_
  refine md_callI (as := [.int x1, .int 4]) (rest := [.int x1, .ref (ad 19)]) (dd D122_ok 6 rfl) pl9_168 rfl (Nat.le_of_ble_eq_true rfl) (ms118 xs) rfl (c_f_of hD k.1 (md_vl (by decide))) rfl ?_
  refine md_iast (f := 19) hD (dd D122_ok 7 rfl) rfl k.1 ?_
  refine md_nm (fun M1 e1 => ?_)
  refine md_aload0 (dd D122_ok 8 rfl) rfl ?_
  refine md_getA (dd D122_ok 9 rfl) pl9_70 (by decide) rfl ?_
  refine md_iload_n (dd D122_ok 10 rfl) rfl ?_
  refine md_aload0 (dd D122_ok 11 rfl) rfl ?_
  refine md_iload_n (dd D122_ok 12 rfl) rfl ?_
  refine md_iconst (v := 4) (dd D122_ok 13 rfl) (by decide) ?_
  refine md_callI (as := [.int x1, .int 4]) (rest := [.int x1, .ref (ad 20)]) (dd D122_ok 14 rfl) pl9_168 rfl (Nat.le_of_ble_eq_true rfl) (ms118 xs) rfl (c_f_of hD k.1 (md_vl (by decide))) rfl ?_
  refine md_iast (f := 20) hD (dd D122_ok 15 rfl) rfl k.1 ?_
  refine md_nm (fun M2 e2 => ?_)
  refine md_aload0 (dd D122_ok 16 rfl) rfl ?_
  refine md_iload_n (dd D122_ok 17 rfl) rfl ?_
  refine md_callI (as := [.int x1]) (rest := []) (dd D122_ok 18 rfl) pl9_193 rfl (Nat.le_of_ble_eq_true rfl) (ms123 xs) rfl (c_f_joins hD k.1 ((k.2 M1 e1) M2 e2).1) rfl ?_
  refine md_if_ne (tgt := 33) (dd D122_ok 19 rfl) (by decide) (fun c1 => ?_) (fun c1 => ?_)
  · refine md_iconst (v := (-1)) (dd D122_ok 21 rfl) (by decide) ?_
    refine md_istore_n (dd D122_ok 22 rfl) (Nat.le_of_ble_eq_true rfl) ?_
    refine md_iconst (v := (-1)) (dd D122_ok 23 rfl) (by decide) ?_
    refine md_istore_n (dd D122_ok 24 rfl) (Nat.le_of_ble_eq_true rfl) ?_
    refine md_aload0 (dd D122_ok 25 rfl) rfl ?_
    refine md_getA (dd D122_ok 26 rfl) pl9_24 (by decide) rfl ?_
    refine md_iload_n (dd D122_ok 27 rfl) rfl ?_
    refine md_iald (f := 5) (dd D122_ok 28 rfl) rfl k.1 ?_
    refine md_istore (dd D122_ok 29 rfl) (Nat.le_of_ble_eq_true rfl) ?_
    exact (((k.2 M1 e1) M2 e2).2.1 c1)
  · exact md_vret (dd D122_ok 20 rfl) rfl (((k.2 M1 e1) M2 e2).2.2 c1)
set_option maxHeartbeats 1000000 in
theorem vc122_45 {xs : List Int32} {mo : Nat} {ad : Nat → Nat} (hD : md_D mo ad) {h0 : am_H} {d : Nat} {Q : Option Value → md_S → Prop} {M : md_S} {x1 : Int32} {x2 : Int32} {x3 : Int32} {x4 : Int32}
    (k : ((x4 = (-1)) → ((¬ x2 = (-1)) → (vp_in x2 60) ∧ (((((f_isBlock M x2) = 0) → True) ∧ (¬ ((f_isBlock M x2) = 0) → (vp_in x1 60) ∧ (True))) ∧ (∀ M_1 : md_S, M_1 = (if (f_isBlock M x2) = 0 then M else (md_up2 M 19 x1.toNatClampNeg (f_more (M.2 19 x1.toNatClampNeg) (M.2 19 x2.toNatClampNeg)))) → ((vp_in x3 60) ∧ (((((f_isBlock M_1 x3) = 0) → True) ∧ (¬ ((f_isBlock M_1 x3) = 0) → (vp_in x1 60) ∧ (((¬ (f_of M_1 x1 3) = (-1)) → True) ∧ (¬ (¬ (f_of M_1 x1 3) = (-1)) → True)))) ∧ (∀ M_2 : md_S, M_2 = (if (f_isBlock M_1 x3) = 0 then M_1 else (if ¬ (f_of M_1 x1 3) = (-1) then M_1 else (md_up2 M_1 20 x1.toNatClampNeg (f_more (M_1.2 20 x1.toNatClampNeg) (M_1.2 20 x3.toNatClampNeg))))) → (Q none M_2))))))) ∧ (¬ (¬ x2 = (-1)) → Q none M)) ∧ (¬ (x4 = (-1)) → (vp_in x4 60) ∧ (∀ s3 : Int32, s3 = (if ¬ (f_of M x4 0) = 3 then (if ¬ x2 = (-1) then x2 else x4) else x2) → ∀ s4 : Int32, s4 = (if ¬ (f_of M x4 0) = 3 then (if ¬ x2 = (-1) then x4 else x4) else x3) → (md_wp xs mo ad h0 (d + 4) Q I122 45 [some (.ref mo), some (.int x1), some (.int s3), some (.int s4), some (.int (M.2 7 x4.toNatClampNeg))] [] M)))) :
    md_wp xs mo ad h0 (d + 4) Q I122 45 [some (.ref mo), some (.int x1), some (.int x2), some (.int x3), some (.int x4)] [] M := by
  refine md_iload (dd D122_ok 30 rfl) rfl ?_
  refine md_iconst (v := (-1)) (dd D122_ok 31 rfl) (by decide) ?_
  refine md_icmp_eq (tgt := 92) (dd D122_ok 32 rfl) (by decide) (fun c1 => ?_) (fun c1 => ?_)
  · refine md_iload_n (dd D122_ok 55 rfl) rfl ?_
    refine md_iconst (v := (-1)) (dd D122_ok 56 rfl) (by decide) ?_
    refine md_icmp_ne (tgt := 98) (dd D122_ok 57 rfl) (by decide) (fun c2 => ?_) (fun c2 => ?_)
    · refine md_aload0 (dd D122_ok 59 rfl) rfl ?_
      refine md_iload_n (dd D122_ok 60 rfl) rfl ?_
      refine md_callI (as := [.int x2]) (rest := []) (dd D122_ok 61 rfl) pl9_196 rfl (Nat.le_of_ble_eq_true rfl) (ms124 xs) rfl (c_f_isBlock hD ((k.1 c1).1 c2).1) rfl ?_
      have J1 : ∀ M_1 : md_S, M_1 = (if (f_isBlock M x2) = 0 then M else (md_up2 M 19 x1.toNatClampNeg (f_more (M.2 19 x1.toNatClampNeg) (M.2 19 x2.toNatClampNeg)))) → md_wp xs mo ad h0 (d + 4) Q I122 127 [some (.ref mo), some (.int x1), some (.int x2), some (.int x3), some (.int x4)] [] M_1 := by
        intro M_1 e_M_1
        refine md_aload0 (dd D122_ok 76 rfl) rfl ?_
        refine md_iload_n (dd D122_ok 77 rfl) rfl ?_
        refine md_callI (as := [.int x3]) (rest := []) (dd D122_ok 78 rfl) pl9_196 rfl (Nat.le_of_ble_eq_true rfl) (ms124 xs) rfl (c_f_isBlock hD (((k.1 c1).1 c2).2.2 M_1 e_M_1).1) rfl ?_
        have J2 : ∀ M_2 : md_S, M_2 = (if (f_isBlock M_1 x3) = 0 then M_1 else (if ¬ (f_of M_1 x1 3) = (-1) then M_1 else (md_up2 M_1 20 x1.toNatClampNeg (f_more (M_1.2 20 x1.toNatClampNeg) (M_1.2 20 x3.toNatClampNeg))))) → md_wp xs mo ad h0 (d + 4) Q I122 166 [some (.ref mo), some (.int x1), some (.int x2), some (.int x3), some (.int x4)] [] M_2 := by
          intro M_2 e_M_2
          exact md_vret (dd D122_ok 99 rfl) rfl ((((k.1 c1).1 c2).2.2 M_1 e_M_1).2.2 M_2 e_M_2)
        refine md_if_eq (tgt := 166) (dd D122_ok 79 rfl) (by decide) (fun c5 => ?_) (fun c5 => ?_)
        · exact J2 _ (by first | rfl | rw [if_pos c5] | simp only [if_pos c5])
        · refine md_aload0 (dd D122_ok 80 rfl) rfl ?_
          refine md_iload_n (dd D122_ok 81 rfl) rfl ?_
          refine md_iconst (v := 3) (dd D122_ok 82 rfl) (by decide) ?_
          refine md_callI (as := [.int x1, .int 3]) (rest := []) (dd D122_ok 83 rfl) pl9_168 rfl (Nat.le_of_ble_eq_true rfl) (ms118 xs) rfl (c_f_of hD ((((k.1 c1).1 c2).2.2 M_1 e_M_1).2.1.2 c5).1 (md_vl (by decide))) rfl ?_
          refine md_iconst (v := (-1)) (dd D122_ok 84 rfl) (by decide) ?_
          refine md_icmp_ne (tgt := 166) (dd D122_ok 85 rfl) (by decide) (fun c6 => ?_) (fun c6 => ?_)
          · exact J2 _ (by first | rfl | rw [if_neg c5, if_pos c6] | simp only [if_neg c5, if_pos c6])
          · refine md_aload0 (dd D122_ok 86 rfl) rfl ?_
            refine md_getA (dd D122_ok 87 rfl) pl9_70 (by decide) rfl ?_
            refine md_iload_n (dd D122_ok 88 rfl) rfl ?_
            refine md_aload0 (dd D122_ok 89 rfl) rfl ?_
            refine md_getA (dd D122_ok 90 rfl) pl9_70 (by decide) rfl ?_
            refine md_iload_n (dd D122_ok 91 rfl) rfl ?_
            refine md_iald (f := 20) (dd D122_ok 92 rfl) rfl ((((k.1 c1).1 c2).2.2 M_1 e_M_1).2.1.2 c5).1 ?_
            refine md_aload0 (dd D122_ok 93 rfl) rfl ?_
            refine md_getA (dd D122_ok 94 rfl) pl9_70 (by decide) rfl ?_
            refine md_iload_n (dd D122_ok 95 rfl) rfl ?_
            refine md_iald (f := 20) (dd D122_ok 96 rfl) rfl (((k.1 c1).1 c2).2.2 M_1 e_M_1).1 ?_
            refine md_callS (as := [.int (M_1.2 20 x1.toNatClampNeg), .int (M_1.2 20 x3.toNatClampNeg)]) (rest := [.int x1, .ref (ad 20)]) (dd D122_ok 97 rfl) pl9_175 rfl (Nat.le_of_ble_eq_true rfl) (c_f_more ) rfl ?_
            refine md_iast (f := 20) hD (dd D122_ok 98 rfl) rfl ((((k.1 c1).1 c2).2.2 M_1 e_M_1).2.1.2 c5).1 ?_
            exact J2 _ (by first | rfl | rw [if_neg c5, if_neg c6] | simp only [if_neg c5, if_neg c6])
      refine md_if_eq (tgt := 127) (dd D122_ok 62 rfl) (by decide) (fun c7 => ?_) (fun c7 => ?_)
      · exact J1 _ (by first | rfl | rw [if_pos c7] | simp only [if_pos c7])
      · refine md_aload0 (dd D122_ok 63 rfl) rfl ?_
        refine md_getA (dd D122_ok 64 rfl) pl9_67 (by decide) rfl ?_
        refine md_iload_n (dd D122_ok 65 rfl) rfl ?_
        refine md_aload0 (dd D122_ok 66 rfl) rfl ?_
        refine md_getA (dd D122_ok 67 rfl) pl9_67 (by decide) rfl ?_
        refine md_iload_n (dd D122_ok 68 rfl) rfl ?_
        refine md_iald (f := 19) (dd D122_ok 69 rfl) rfl (((k.1 c1).1 c2).2.1.2 c7).1 ?_
        refine md_aload0 (dd D122_ok 70 rfl) rfl ?_
        refine md_getA (dd D122_ok 71 rfl) pl9_67 (by decide) rfl ?_
        refine md_iload_n (dd D122_ok 72 rfl) rfl ?_
        refine md_iald (f := 19) (dd D122_ok 73 rfl) rfl ((k.1 c1).1 c2).1 ?_
        refine md_callS (as := [.int (M.2 19 x1.toNatClampNeg), .int (M.2 19 x2.toNatClampNeg)]) (rest := [.int x1, .ref (ad 19)]) (dd D122_ok 74 rfl) pl9_175 rfl (Nat.le_of_ble_eq_true rfl) (c_f_more ) rfl ?_
        refine md_iast (f := 19) hD (dd D122_ok 75 rfl) rfl (((k.1 c1).1 c2).2.1.2 c7).1 ?_
        exact J1 _ (by first | rfl | rw [if_neg c7] | simp only [if_neg c7])
    · exact md_vret (dd D122_ok 58 rfl) rfl ((k.1 c1).2 c2)
  · refine md_aload0 (dd D122_ok 33 rfl) rfl ?_
    refine md_iload (dd D122_ok 34 rfl) rfl ?_
    refine md_iconst (v := 0) (dd D122_ok 35 rfl) (by decide) ?_
    refine md_callI (as := [.int x4, .int 0]) (rest := []) (dd D122_ok 36 rfl) pl9_168 rfl (Nat.le_of_ble_eq_true rfl) (ms118 xs) rfl (c_f_of hD (k.2 c1).1 (md_vl (by decide))) rfl ?_
    refine md_iconst (v := 3) (dd D122_ok 37 rfl) (by decide) ?_
    have J3 : ∀ s3 : Int32, s3 = (if ¬ (f_of M x4 0) = 3 then (if ¬ x2 = (-1) then x2 else x4) else x2) → ∀ s4 : Int32, s4 = (if ¬ (f_of M x4 0) = 3 then (if ¬ x2 = (-1) then x4 else x4) else x3) → md_wp xs mo ad h0 (d + 4) Q I122 80 [some (.ref mo), some (.int x1), some (.int s3), some (.int s4), some (.int x4)] [] M := by
      intro s3 e_s3 s4 e_s4
      refine md_aload0 (dd D122_ok 49 rfl) rfl ?_
      refine md_getA (dd D122_ok 50 rfl) pl9_30 (by decide) rfl ?_
      refine md_iload (dd D122_ok 51 rfl) rfl ?_
      refine md_iald (f := 7) (dd D122_ok 52 rfl) rfl (k.2 c1).1 ?_
      refine md_istore (dd D122_ok 53 rfl) (Nat.le_of_ble_eq_true rfl) ?_
      refine md_goto (tgt := 45) (dd D122_ok 54 rfl) (by decide) ?_
      exact ((k.2 c1).2 s3 e_s3 s4 e_s4)
    refine md_icmp_ne (tgt := 65) (dd D122_ok 38 rfl) (by decide) (fun c9 => ?_) (fun c9 => ?_)
    · refine md_iload_n (dd D122_ok 40 rfl) rfl ?_
      refine md_iconst (v := (-1)) (dd D122_ok 41 rfl) (by decide) ?_
      refine md_icmp_ne (tgt := 75) (dd D122_ok 42 rfl) (by decide) (fun c10 => ?_) (fun c10 => ?_)
      · refine md_iload_n (dd D122_ok 45 rfl) rfl ?_
        refine md_istore_n (dd D122_ok 46 rfl) (Nat.le_of_ble_eq_true rfl) ?_
        refine md_iload (dd D122_ok 47 rfl) rfl ?_
        refine md_istore_n (dd D122_ok 48 rfl) (Nat.le_of_ble_eq_true rfl) ?_
        exact J3 _ (by first | rfl | rw [if_pos c9, if_pos c10] | simp only [if_pos c9, if_pos c10]) _ (by first | rfl | rw [if_pos c9, if_pos c10] | simp only [if_pos c9, if_pos c10])
      · refine md_iload (dd D122_ok 43 rfl) rfl ?_
        refine md_goto (tgt := 76) (dd D122_ok 44 rfl) (by decide) ?_
        refine md_istore_n (dd D122_ok 46 rfl) (Nat.le_of_ble_eq_true rfl) ?_
        refine md_iload (dd D122_ok 47 rfl) rfl ?_
        refine md_istore_n (dd D122_ok 48 rfl) (Nat.le_of_ble_eq_true rfl) ?_
        exact J3 _ (by first | rfl | rw [if_pos c9, if_neg c10] | simp only [if_pos c9, if_neg c10]) _ (by first | rfl | rw [if_pos c9, if_neg c10] | simp only [if_pos c9, if_neg c10])
    · refine md_goto (tgt := 80) (dd D122_ok 39 rfl) (by decide) ?_
      exact J3 _ (by first | rfl | rw [if_neg c9] | simp only [if_neg c9]) _ (by first | rfl | rw [if_neg c9] | simp only [if_neg c9])
set_option maxHeartbeats 1000000 in
theorem vc130_0 {xs : List Int32} {mo : Nat} {ad : Nat → Nat} (hD : md_D mo ad) {h0 : am_H} {d : Nat} {Q : Option Value → md_S → Prop} {M : md_S} {x1 : Int32}
    (k : (vp_in x1 60) ∧ (md_wp xs mo ad h0 (d + 3) Q I130 19 [some (.ref mo), some (.int x1), some (.int 0), some (.int 0), some (.int 0), some (.int (f_of M x1 8)), some (.int x1), none, none] [] M)) :
    md_wp xs mo ad h0 (d + 3) Q I130 0 [some (.ref mo), some (.int x1), none, none, none, none, none, none, none] [] M := by
  refine md_iconst (v := 0) (dd D130_ok 0 rfl) (by decide) ?_
  refine md_istore_n (dd D130_ok 1 rfl) (Nat.le_of_ble_eq_true rfl) ?_
  refine md_iconst (v := 0) (dd D130_ok 2 rfl) (by decide) ?_
  refine md_istore_n (dd D130_ok 3 rfl) (Nat.le_of_ble_eq_true rfl) ?_
  refine md_iconst (v := 0) (dd D130_ok 4 rfl) (by decide) ?_
  refine md_istore (dd D130_ok 5 rfl) (Nat.le_of_ble_eq_true rfl) ?_
  refine md_aload0 (dd D130_ok 6 rfl) rfl ?_
  refine md_iload_n (dd D130_ok 7 rfl) rfl ?_
  refine md_bipush (v := 8) (dd D130_ok 8 rfl) (by decide) ?_
  refine md_callI (as := [.int x1, .int 8]) (rest := []) (dd D130_ok 9 rfl) pl9_168 rfl (Nat.le_of_ble_eq_true rfl) (ms118 xs) rfl (c_f_of hD k.1 (md_vl (by decide))) rfl ?_
  refine md_istore (dd D130_ok 10 rfl) (Nat.le_of_ble_eq_true rfl) ?_
  refine md_iload_n (dd D130_ok 11 rfl) rfl ?_
  refine md_istore (dd D130_ok 12 rfl) (Nat.le_of_ble_eq_true rfl) ?_
  exact k.2
set_option maxHeartbeats 1000000 in
theorem vc130_19 {xs : List Int32} {mo : Nat} {ad : Nat → Nat} (hD : md_D mo ad) {h0 : am_H} {d : Nat} {Q : Option Value → md_S → Prop} {M : md_S} {x1 : Int32} {x2 : Int32} {x3 : Int32} {x4 : Int32} {x5 : Int32} {x6 : Int32} {o7 : Option Value} {o8 : Option Value}
    (k : ((x6 = (-1)) → Q (some (.int x2)) M) ∧ (¬ (x6 = (-1)) → md_wp xs mo ad h0 (d + 3) Q I130 28 [some (.ref mo), some (.int x1), some (.int x2), some (.int x3), some (.int x4), some (.int x5), some (.int x6), some (.int 0), o8] [] M)) :
    md_wp xs mo ad h0 (d + 3) Q I130 19 [some (.ref mo), some (.int x1), some (.int x2), some (.int x3), some (.int x4), some (.int x5), some (.int x6), o7, o8] [] M := by
  refine md_iload (dd D130_ok 13 rfl) rfl ?_
  refine md_iconst (v := (-1)) (dd D130_ok 14 rfl) (by decide) ?_
  refine md_icmp_eq (tgt := 116) (dd D130_ok 15 rfl) (by decide) (fun c1 => ?_) (fun c1 => ?_)
  · refine md_iload_n (dd D130_ok 66 rfl) rfl ?_
    exact md_iret (dd D130_ok 67 rfl) rfl (k.1 c1)
  · refine md_iconst (v := 0) (dd D130_ok 16 rfl) (by decide) ?_
    refine md_istore (dd D130_ok 17 rfl) (Nat.le_of_ble_eq_true rfl) ?_
    exact (k.2 c1)
set_option maxHeartbeats 1000000 in
theorem vc130_28 {xs : List Int32} {mo : Nat} {ad : Nat → Nat} (hD : md_D mo ad) {h0 : am_H} {d : Nat} {Q : Option Value → md_S → Prop} {M : md_S} {x1 : Int32} {x2 : Int32} {x3 : Int32} {x4 : Int32} {x5 : Int32} {x6 : Int32} {x7 : Int32} {o8 : Option Value}
    (k : (vp_in x6 60) ∧ ((((M.2 11 x6.toNatClampNeg) ≤ x7) → md_C xs mo ad (d + 3) 120 [.int x6, .int x1] M (fun v N1 => ∃ y1, v = some (.int y1) ∧ (md_wp xs mo ad h0 (d + 3) Q I130 19 [some (.ref mo), some (.int x1), some (.int x2), some (.int x3), some (.int x4), some (.int x5), some (.int y1), some (.int x7), o8] [] N1))) ∧ (¬ ((M.2 11 x6.toNatClampNeg) ≤ x7) → (vp_in ((120 * x6) + x7) 7200) ∧ (∀ s2 : Int32, s2 = (if (f_blank (M.2 10 ((120 * x6) + x7).toNatClampNeg)) = 0 then (x2 + (x3 + ((f_glyph (M.2 10 ((120 * x6) + x7).toNatClampNeg)) * x5))) else (if x4 = 0 then x2 else (if ¬ x3 = 0 then x2 else x2))) → ∀ s3 : Int32, s3 = (if (f_blank (M.2 10 ((120 * x6) + x7).toNatClampNeg)) = 0 then 0 else (if x4 = 0 then x3 else (if ¬ x3 = 0 then x3 else (3 * x5)))) → ∀ s4 : Int32, s4 = (if (f_blank (M.2 10 ((120 * x6) + x7).toNatClampNeg)) = 0 then 1 else (if x4 = 0 then x4 else (if ¬ x3 = 0 then x4 else x4))) → (md_wp xs mo ad h0 (d + 3) Q I130 28 [some (.ref mo), some (.int x1), some (.int s2), some (.int s3), some (.int s4), some (.int x5), some (.int x6), some (.int (x7 + 1)), some (.int (M.2 10 ((120 * x6) + x7).toNatClampNeg))] [] M))))) :
    md_wp xs mo ad h0 (d + 3) Q I130 28 [some (.ref mo), some (.int x1), some (.int x2), some (.int x3), some (.int x4), some (.int x5), some (.int x6), some (.int x7), o8] [] M := by
  refine md_iload (dd D130_ok 18 rfl) rfl ?_
  refine md_aload0 (dd D130_ok 19 rfl) rfl ?_
  refine md_getA (dd D130_ok 20 rfl) pl9_42 (by decide) rfl ?_
  refine md_iload (dd D130_ok 21 rfl) rfl ?_
  refine md_iald (f := 11) (dd D130_ok 22 rfl) rfl k.1 ?_
  refine md_icmp_ge (tgt := 104) (dd D130_ok 23 rfl) (by decide) (fun c1 => ?_) (fun c1 => ?_)
  · refine md_aload0 (dd D130_ok 60 rfl) rfl ?_
    refine md_iload (dd D130_ok 61 rfl) rfl ?_
    refine md_iload_n (dd D130_ok 62 rfl) rfl ?_
    refine md_call (as := [.int x6, .int x1]) (rest := []) (dd D130_ok 63 rfl) pl9_187 rfl (Nat.le_of_ble_eq_true rfl) (ms120 xs) rfl (((k.2.1 c1)).mono ?_) rfl
    rintro v N1 ⟨y1, rfl, w1⟩
    refine md_istore (dd D130_ok 64 rfl) (Nat.le_of_ble_eq_true rfl) ?_
    refine md_goto (tgt := 19) (dd D130_ok 65 rfl) (by decide) ?_
    exact w1
  · refine md_aload0 (dd D130_ok 24 rfl) rfl ?_
    refine md_getA (dd D130_ok 25 rfl) pl9_39 (by decide) rfl ?_
    refine md_bipush (v := 120) (dd D130_ok 26 rfl) (by decide) ?_
    refine md_iload (dd D130_ok 27 rfl) rfl ?_
    refine md_imul (dd D130_ok 28 rfl) ?_
    refine md_iload (dd D130_ok 29 rfl) rfl ?_
    refine md_iadd (dd D130_ok 30 rfl) ?_
    refine md_bald (f := 10) (dd D130_ok 31 rfl) rfl (Or.inl rfl) (k.2.2 c1).1 ?_
    refine md_istore (dd D130_ok 32 rfl) (Nat.le_of_ble_eq_true rfl) ?_
    refine md_iload (dd D130_ok 33 rfl) rfl ?_
    refine md_callS (as := [.int (M.2 10 ((120 * x6) + x7).toNatClampNeg)]) (rest := []) (dd D130_ok 34 rfl) pl9_199 rfl (Nat.le_of_ble_eq_true rfl) (c_f_blank ) rfl ?_
    have J1 : ∀ s2 : Int32, s2 = (if (f_blank (M.2 10 ((120 * x6) + x7).toNatClampNeg)) = 0 then (x2 + (x3 + ((f_glyph (M.2 10 ((120 * x6) + x7).toNatClampNeg)) * x5))) else (if x4 = 0 then x2 else (if ¬ x3 = 0 then x2 else x2))) → ∀ s3 : Int32, s3 = (if (f_blank (M.2 10 ((120 * x6) + x7).toNatClampNeg)) = 0 then 0 else (if x4 = 0 then x3 else (if ¬ x3 = 0 then x3 else (3 * x5)))) → ∀ s4 : Int32, s4 = (if (f_blank (M.2 10 ((120 * x6) + x7).toNatClampNeg)) = 0 then 1 else (if x4 = 0 then x4 else (if ¬ x3 = 0 then x4 else x4))) → md_wp xs mo ad h0 (d + 3) Q I130 98 [some (.ref mo), some (.int x1), some (.int s2), some (.int s3), some (.int s4), some (.int x5), some (.int x6), some (.int x7), some (.int (M.2 10 ((120 * x6) + x7).toNatClampNeg))] [] M := by
      intro s2 e_s2 s3 e_s3 s4 e_s4
      refine md_iinc (v := x7 + 1) (dd D130_ok 58 rfl) rfl rfl ?_
      refine md_goto (tgt := 28) (dd D130_ok 59 rfl) (by decide) ?_
      exact ((k.2.2 c1).2 s2 e_s2 s3 e_s3 s4 e_s4)
    refine md_if_eq (tgt := 80) (dd D130_ok 35 rfl) (by decide) (fun c3 => ?_) (fun c3 => ?_)
    · refine md_iload_n (dd D130_ok 45 rfl) rfl ?_
      refine md_iload_n (dd D130_ok 46 rfl) rfl ?_
      refine md_iload (dd D130_ok 47 rfl) rfl ?_
      refine md_callS (as := [.int (M.2 10 ((120 * x6) + x7).toNatClampNeg)]) (rest := [.int x3, .int x2]) (dd D130_ok 48 rfl) pl9_202 rfl (Nat.le_of_ble_eq_true rfl) (c_f_glyph ) rfl ?_
      refine md_iload (dd D130_ok 49 rfl) rfl ?_
      refine md_imul (dd D130_ok 50 rfl) ?_
      refine md_iadd (dd D130_ok 51 rfl) ?_
      refine md_iadd (dd D130_ok 52 rfl) ?_
      refine md_istore_n (dd D130_ok 53 rfl) (Nat.le_of_ble_eq_true rfl) ?_
      refine md_iconst (v := 0) (dd D130_ok 54 rfl) (by decide) ?_
      refine md_istore_n (dd D130_ok 55 rfl) (Nat.le_of_ble_eq_true rfl) ?_
      refine md_iconst (v := 1) (dd D130_ok 56 rfl) (by decide) ?_
      refine md_istore (dd D130_ok 57 rfl) (Nat.le_of_ble_eq_true rfl) ?_
      exact J1 _ (by first | rfl | rw [if_pos c3] | simp only [if_pos c3]) _ (by first | rfl | rw [if_pos c3] | simp only [if_pos c3]) _ (by first | rfl | rw [if_pos c3] | simp only [if_pos c3])
    · refine md_iload (dd D130_ok 36 rfl) rfl ?_
      refine md_if_eq (tgt := 98) (dd D130_ok 37 rfl) (by decide) (fun c4 => ?_) (fun c4 => ?_)
      · exact J1 _ (by first | rfl | rw [if_neg c3, if_pos c4] | simp only [if_neg c3, if_pos c4]) _ (by first | rfl | rw [if_neg c3, if_pos c4] | simp only [if_neg c3, if_pos c4]) _ (by first | rfl | rw [if_neg c3, if_pos c4] | simp only [if_neg c3, if_pos c4])
      · refine md_iload_n (dd D130_ok 38 rfl) rfl ?_
        refine md_if_ne (tgt := 98) (dd D130_ok 39 rfl) (by decide) (fun c5 => ?_) (fun c5 => ?_)
        · exact J1 _ (by first | rfl | rw [if_neg c3, if_neg c4, if_pos c5] | simp only [if_neg c3, if_neg c4, if_pos c5]) _ (by first | rfl | rw [if_neg c3, if_neg c4, if_pos c5] | simp only [if_neg c3, if_neg c4, if_pos c5]) _ (by first | rfl | rw [if_neg c3, if_neg c4, if_pos c5] | simp only [if_neg c3, if_neg c4, if_pos c5])
        · refine md_iconst (v := 3) (dd D130_ok 40 rfl) (by decide) ?_
          refine md_iload (dd D130_ok 41 rfl) rfl ?_
          refine md_imul (dd D130_ok 42 rfl) ?_
          refine md_istore_n (dd D130_ok 43 rfl) (Nat.le_of_ble_eq_true rfl) ?_
          refine md_goto (tgt := 98) (dd D130_ok 44 rfl) (by decide) ?_
          exact J1 _ (by first | rfl | rw [if_neg c3, if_neg c4, if_neg c5] | simp only [if_neg c3, if_neg c4, if_neg c5]) _ (by first | rfl | rw [if_neg c3, if_neg c4, if_neg c5] | simp only [if_neg c3, if_neg c4, if_neg c5]) _ (by first | rfl | rw [if_neg c3, if_neg c4, if_neg c5] | simp only [if_neg c3, if_neg c4, if_neg c5])
set_option maxHeartbeats 1000000 in
theorem vc134_0 {xs : List Int32} {mo : Nat} {ad : Nat → Nat} (hD : md_D mo ad) {h0 : am_H} {d : Nat} {Q : Option Value → md_S → Prop} {M : md_S} {x1 : Int32}
    (k : (vp_in x1 60) ∧ (md_wp xs mo ad h0 (d + 3) Q I134 10 [some (.ref mo), some (.int x1), some (.int (f_of M x1 8)), some (.int 0), none] [] M)) :
    md_wp xs mo ad h0 (d + 3) Q I134 0 [some (.ref mo), some (.int x1), none, none, none] [] M := by
  refine md_aload0 (dd D134_ok 0 rfl) rfl ?_
  refine md_iload_n (dd D134_ok 1 rfl) rfl ?_
  refine md_bipush (v := 8) (dd D134_ok 2 rfl) (by decide) ?_
  refine md_callI (as := [.int x1, .int 8]) (rest := []) (dd D134_ok 3 rfl) pl9_168 rfl (Nat.le_of_ble_eq_true rfl) (ms118 xs) rfl (c_f_of hD k.1 (md_vl (by decide))) rfl ?_
  refine md_istore_n (dd D134_ok 4 rfl) (Nat.le_of_ble_eq_true rfl) ?_
  refine md_iconst (v := 0) (dd D134_ok 5 rfl) (by decide) ?_
  refine md_istore_n (dd D134_ok 6 rfl) (Nat.le_of_ble_eq_true rfl) ?_
  exact k.2
set_option maxHeartbeats 1000000 in
theorem vc134_10 {xs : List Int32} {mo : Nat} {ad : Nat → Nat} (hD : md_D mo ad) {h0 : am_H} {d : Nat} {Q : Option Value → md_S → Prop} {M : md_S} {x1 : Int32} {x2 : Int32} {x3 : Int32} {o4 : Option Value}
    (k : (vp_in x1 60) ∧ ((((M.2 11 x1.toNatClampNeg) ≤ x3) → Q none M) ∧ (¬ ((M.2 11 x1.toNatClampNeg) ≤ x3) → (vp_in ((120 * x1) + x3) 7200) ∧ ((((f_blank (M.2 10 ((120 * x1) + x3).toNatClampNeg)) = 0) → (vp_in (M.1 29) 3700) ∧ (∀ M1 : md_S, M1 = md_up2 M 30 (M.1 29).toNatClampNeg x1 → ((vp_in (M1.1 29) 3700) ∧ (∀ M2 : md_S, M2 = md_up2 M1 31 (M1.1 29).toNatClampNeg x3 → ((vp_in (M2.1 29) 3700) ∧ (∀ M3 : md_S, M3 = md_up2 M2 36 (M2.1 29).toNatClampNeg (7 * x2) → (md_wp xs mo ad h0 (d + 3) Q I134 79 [some (.ref mo), some (.int x1), some (.int x2), some (.int x3), some (.int 0)] [] M3))))))) ∧ (¬ ((f_blank (M.2 10 ((120 * x1) + x3).toNatClampNeg)) = 0) → md_wp xs mo ad h0 (d + 3) Q I134 10 [some (.ref mo), some (.int x1), some (.int x2), some (.int (x3 + 1)), o4] [] M))))) :
    md_wp xs mo ad h0 (d + 3) Q I134 10 [some (.ref mo), some (.int x1), some (.int x2), some (.int x3), o4] [] M := by
  refine md_iload_n (dd D134_ok 7 rfl) rfl ?_
  refine md_aload0 (dd D134_ok 8 rfl) rfl ?_
  refine md_getA (dd D134_ok 9 rfl) pl9_42 (by decide) rfl ?_
  refine md_iload_n (dd D134_ok 10 rfl) rfl ?_
  refine md_iald (f := 11) (dd D134_ok 11 rfl) rfl k.1 ?_
  refine md_icmp_ge (tgt := 177) (dd D134_ok 12 rfl) (by decide) (fun c1 => ?_) (fun c1 => ?_)
  · exact md_vret (dd D134_ok 104 rfl) rfl (k.2.1 c1)
  · refine md_aload0 (dd D134_ok 13 rfl) rfl ?_
    refine md_getA (dd D134_ok 14 rfl) pl9_39 (by decide) rfl ?_
    refine md_bipush (v := 120) (dd D134_ok 15 rfl) (by decide) ?_
    refine md_iload_n (dd D134_ok 16 rfl) rfl ?_
    refine md_imul (dd D134_ok 17 rfl) ?_
    refine md_iload_n (dd D134_ok 18 rfl) rfl ?_
    refine md_iadd (dd D134_ok 19 rfl) ?_
    refine md_bald (f := 10) (dd D134_ok 20 rfl) rfl (Or.inl rfl) (k.2.2 c1).1 ?_
    refine md_callS (as := [.int (M.2 10 ((120 * x1) + x3).toNatClampNeg)]) (rest := []) (dd D134_ok 21 rfl) pl9_199 rfl (Nat.le_of_ble_eq_true rfl) (c_f_blank ) rfl ?_
    refine md_if_eq (tgt := 43) (dd D134_ok 22 rfl) (by decide) (fun c2 => ?_) (fun c2 => ?_)
    · refine md_aload0 (dd D134_ok 25 rfl) rfl ?_
      refine md_getA (dd D134_ok 26 rfl) pl9_94 (by decide) rfl ?_
      refine md_aload0 (dd D134_ok 27 rfl) rfl ?_
      refine md_getI (dd D134_ok 28 rfl) pl9_153 (by decide) rfl ?_
      refine md_iload_n (dd D134_ok 29 rfl) rfl ?_
      refine md_iast (f := 30) hD (dd D134_ok 30 rfl) rfl ((k.2.2 c1).2.1 c2).1 ?_
      refine md_nm (fun M1 e1 => ?_)
      refine md_aload0 (dd D134_ok 31 rfl) rfl ?_
      refine md_getA (dd D134_ok 32 rfl) pl9_97 (by decide) rfl ?_
      refine md_aload0 (dd D134_ok 33 rfl) rfl ?_
      refine md_getI (dd D134_ok 34 rfl) pl9_153 (by decide) rfl ?_
      refine md_iload_n (dd D134_ok 35 rfl) rfl ?_
      refine md_iast (f := 31) hD (dd D134_ok 36 rfl) rfl (((k.2.2 c1).2.1 c2).2 M1 e1).1 ?_
      refine md_nm (fun M2 e2 => ?_)
      refine md_aload0 (dd D134_ok 37 rfl) rfl ?_
      refine md_getA (dd D134_ok 38 rfl) pl9_112 (by decide) rfl ?_
      refine md_aload0 (dd D134_ok 39 rfl) rfl ?_
      refine md_getI (dd D134_ok 40 rfl) pl9_153 (by decide) rfl ?_
      refine md_bipush (v := 7) (dd D134_ok 41 rfl) (by decide) ?_
      refine md_iload_n (dd D134_ok 42 rfl) rfl ?_
      refine md_imul (dd D134_ok 43 rfl) ?_
      refine md_iast (f := 36) hD (dd D134_ok 44 rfl) rfl ((((k.2.2 c1).2.1 c2).2 M1 e1).2 M2 e2).1 ?_
      refine md_nm (fun M3 e3 => ?_)
      refine md_iconst (v := 0) (dd D134_ok 45 rfl) (by decide) ?_
      refine md_istore (dd D134_ok 46 rfl) (Nat.le_of_ble_eq_true rfl) ?_
      exact (((((k.2.2 c1).2.1 c2).2 M1 e1).2 M2 e2).2 M3 e3)
    · refine md_iinc (v := x3 + 1) (dd D134_ok 23 rfl) rfl rfl ?_
      refine md_goto (tgt := 10) (dd D134_ok 24 rfl) (by decide) ?_
      exact ((k.2.2 c1).2.2 c2)
set_option maxHeartbeats 1000000 in
theorem vc134_79 {xs : List Int32} {mo : Nat} {ad : Nat → Nat} (hD : md_D mo ad) {h0 : am_H} {d : Nat} {Q : Option Value → md_S → Prop} {M : md_S} {x1 : Int32} {x2 : Int32} {x3 : Int32} {x4 : Int32}
    (k : (vp_in x1 60) ∧ ((((M.2 11 x1.toNatClampNeg) ≤ x3) → (vp_in (M.1 29) 3700) ∧ (∀ M1 : md_S, M1 = md_up2 M 32 (M.1 29).toNatClampNeg (x3 - (M.2 31 (M.1 29).toNatClampNeg)) → ((vp_in (M1.1 29) 3700) ∧ (∀ M2 : md_S, M2 = md_up2 M1 35 (M1.1 29).toNatClampNeg x4 → (∀ M3 : md_S, M3 = md_up1 M2 29 ((M2.1 29) + 1) → (md_wp xs mo ad h0 (d + 3) Q I134 10 [some (.ref mo), some (.int x1), some (.int x2), some (.int x3), some (.int x4)] [] M3)))))) ∧ (¬ ((M.2 11 x1.toNatClampNeg) ≤ x3) → (vp_in ((120 * x1) + x3) 7200) ∧ (((¬ (f_blank (M.2 10 ((120 * x1) + x3).toNatClampNeg)) = 0) → (vp_in (M.1 29) 3700) ∧ (∀ M4 : md_S, M4 = md_up2 M 32 (M.1 29).toNatClampNeg (x3 - (M.2 31 (M.1 29).toNatClampNeg)) → ((vp_in (M4.1 29) 3700) ∧ (∀ M5 : md_S, M5 = md_up2 M4 35 (M4.1 29).toNatClampNeg x4 → (∀ M6 : md_S, M6 = md_up1 M5 29 ((M5.1 29) + 1) → (md_wp xs mo ad h0 (d + 3) Q I134 10 [some (.ref mo), some (.int x1), some (.int x2), some (.int x3), some (.int x4)] [] M6)))))) ∧ (¬ (¬ (f_blank (M.2 10 ((120 * x1) + x3).toNatClampNeg)) = 0) → md_wp xs mo ad h0 (d + 3) Q I134 79 [some (.ref mo), some (.int x1), some (.int x2), some (.int (x3 + 1)), some (.int (x4 + ((f_glyph (M.2 10 ((120 * x1) + x3).toNatClampNeg)) * x2)))] [] M))))) :
    md_wp xs mo ad h0 (d + 3) Q I134 79 [some (.ref mo), some (.int x1), some (.int x2), some (.int x3), some (.int x4)] [] M := by
  refine md_iload_n (dd D134_ok 47 rfl) rfl ?_
  refine md_aload0 (dd D134_ok 48 rfl) rfl ?_
  refine md_getA (dd D134_ok 49 rfl) pl9_42 (by decide) rfl ?_
  refine md_iload_n (dd D134_ok 50 rfl) rfl ?_
  refine md_iald (f := 11) (dd D134_ok 51 rfl) rfl k.1 ?_
  refine md_icmp_ge (tgt := 133) (dd D134_ok 52 rfl) (by decide) (fun c1 => ?_) (fun c1 => ?_)
  · refine md_aload0 (dd D134_ok 79 rfl) rfl ?_
    refine md_getA (dd D134_ok 80 rfl) pl9_100 (by decide) rfl ?_
    refine md_aload0 (dd D134_ok 81 rfl) rfl ?_
    refine md_getI (dd D134_ok 82 rfl) pl9_153 (by decide) rfl ?_
    refine md_iload_n (dd D134_ok 83 rfl) rfl ?_
    refine md_aload0 (dd D134_ok 84 rfl) rfl ?_
    refine md_getA (dd D134_ok 85 rfl) pl9_97 (by decide) rfl ?_
    refine md_aload0 (dd D134_ok 86 rfl) rfl ?_
    refine md_getI (dd D134_ok 87 rfl) pl9_153 (by decide) rfl ?_
    refine md_iald (f := 31) (dd D134_ok 88 rfl) rfl (k.2.1 c1).1 ?_
    refine md_isub (dd D134_ok 89 rfl) ?_
    refine md_iast (f := 32) hD (dd D134_ok 90 rfl) rfl (k.2.1 c1).1 ?_
    refine md_nm (fun M1 e1 => ?_)
    refine md_aload0 (dd D134_ok 91 rfl) rfl ?_
    refine md_getA (dd D134_ok 92 rfl) pl9_109 (by decide) rfl ?_
    refine md_aload0 (dd D134_ok 93 rfl) rfl ?_
    refine md_getI (dd D134_ok 94 rfl) pl9_153 (by decide) rfl ?_
    refine md_iload (dd D134_ok 95 rfl) rfl ?_
    refine md_iast (f := 35) hD (dd D134_ok 96 rfl) rfl ((k.2.1 c1).2 M1 e1).1 ?_
    refine md_nm (fun M2 e2 => ?_)
    refine md_aload0 (dd D134_ok 97 rfl) rfl ?_
    refine md_dup (dd D134_ok 98 rfl) ?_
    refine md_getI (dd D134_ok 99 rfl) pl9_153 (by decide) rfl ?_
    refine md_iconst (v := 1) (dd D134_ok 100 rfl) (by decide) ?_
    refine md_iadd (dd D134_ok 101 rfl) ?_
    refine md_putI hD (dd D134_ok 102 rfl) pl9_153 (by decide) rfl rfl rfl ?_
    refine md_nm (fun M3 e3 => ?_)
    refine md_goto (tgt := 10) (dd D134_ok 103 rfl) (by decide) ?_
    exact ((((k.2.1 c1).2 M1 e1).2 M2 e2) M3 e3)
  · refine md_aload0 (dd D134_ok 53 rfl) rfl ?_
    refine md_getA (dd D134_ok 54 rfl) pl9_39 (by decide) rfl ?_
    refine md_bipush (v := 120) (dd D134_ok 55 rfl) (by decide) ?_
    refine md_iload_n (dd D134_ok 56 rfl) rfl ?_
    refine md_imul (dd D134_ok 57 rfl) ?_
    refine md_iload_n (dd D134_ok 58 rfl) rfl ?_
    refine md_iadd (dd D134_ok 59 rfl) ?_
    refine md_bald (f := 10) (dd D134_ok 60 rfl) rfl (Or.inl rfl) (k.2.2 c1).1 ?_
    refine md_callS (as := [.int (M.2 10 ((120 * x1) + x3).toNatClampNeg)]) (rest := []) (dd D134_ok 61 rfl) pl9_199 rfl (Nat.le_of_ble_eq_true rfl) (c_f_blank ) rfl ?_
    refine md_if_ne (tgt := 133) (dd D134_ok 62 rfl) (by decide) (fun c2 => ?_) (fun c2 => ?_)
    · refine md_aload0 (dd D134_ok 79 rfl) rfl ?_
      refine md_getA (dd D134_ok 80 rfl) pl9_100 (by decide) rfl ?_
      refine md_aload0 (dd D134_ok 81 rfl) rfl ?_
      refine md_getI (dd D134_ok 82 rfl) pl9_153 (by decide) rfl ?_
      refine md_iload_n (dd D134_ok 83 rfl) rfl ?_
      refine md_aload0 (dd D134_ok 84 rfl) rfl ?_
      refine md_getA (dd D134_ok 85 rfl) pl9_97 (by decide) rfl ?_
      refine md_aload0 (dd D134_ok 86 rfl) rfl ?_
      refine md_getI (dd D134_ok 87 rfl) pl9_153 (by decide) rfl ?_
      refine md_iald (f := 31) (dd D134_ok 88 rfl) rfl ((k.2.2 c1).2.1 c2).1 ?_
      refine md_isub (dd D134_ok 89 rfl) ?_
      refine md_iast (f := 32) hD (dd D134_ok 90 rfl) rfl ((k.2.2 c1).2.1 c2).1 ?_
      refine md_nm (fun M4 e4 => ?_)
      refine md_aload0 (dd D134_ok 91 rfl) rfl ?_
      refine md_getA (dd D134_ok 92 rfl) pl9_109 (by decide) rfl ?_
      refine md_aload0 (dd D134_ok 93 rfl) rfl ?_
      refine md_getI (dd D134_ok 94 rfl) pl9_153 (by decide) rfl ?_
      refine md_iload (dd D134_ok 95 rfl) rfl ?_
      refine md_iast (f := 35) hD (dd D134_ok 96 rfl) rfl (((k.2.2 c1).2.1 c2).2 M4 e4).1 ?_
      refine md_nm (fun M5 e5 => ?_)
      refine md_aload0 (dd D134_ok 97 rfl) rfl ?_
      refine md_dup (dd D134_ok 98 rfl) ?_
      refine md_getI (dd D134_ok 99 rfl) pl9_153 (by decide) rfl ?_
      refine md_iconst (v := 1) (dd D134_ok 100 rfl) (by decide) ?_
      refine md_iadd (dd D134_ok 101 rfl) ?_
      refine md_putI hD (dd D134_ok 102 rfl) pl9_153 (by decide) rfl rfl rfl ?_
      refine md_nm (fun M6 e6 => ?_)
      refine md_goto (tgt := 10) (dd D134_ok 103 rfl) (by decide) ?_
      exact (((((k.2.2 c1).2.1 c2).2 M4 e4).2 M5 e5) M6 e6)
    · refine md_iload (dd D134_ok 63 rfl) rfl ?_
      refine md_aload0 (dd D134_ok 64 rfl) rfl ?_
      refine md_getA (dd D134_ok 65 rfl) pl9_39 (by decide) rfl ?_
      refine md_bipush (v := 120) (dd D134_ok 66 rfl) (by decide) ?_
      refine md_iload_n (dd D134_ok 67 rfl) rfl ?_
      refine md_imul (dd D134_ok 68 rfl) ?_
      refine md_iload_n (dd D134_ok 69 rfl) rfl ?_
      refine md_iadd (dd D134_ok 70 rfl) ?_
      refine md_bald (f := 10) (dd D134_ok 71 rfl) rfl (Or.inl rfl) (k.2.2 c1).1 ?_
      refine md_callS (as := [.int (M.2 10 ((120 * x1) + x3).toNatClampNeg)]) (rest := [.int x4]) (dd D134_ok 72 rfl) pl9_202 rfl (Nat.le_of_ble_eq_true rfl) (c_f_glyph ) rfl ?_
      refine md_iload_n (dd D134_ok 73 rfl) rfl ?_
      refine md_imul (dd D134_ok 74 rfl) ?_
      refine md_iadd (dd D134_ok 75 rfl) ?_
      refine md_istore (dd D134_ok 76 rfl) (Nat.le_of_ble_eq_true rfl) ?_
      refine md_iinc (v := x3 + 1) (dd D134_ok 77 rfl) rfl rfl ?_
      refine md_goto (tgt := 79) (dd D134_ok 78 rfl) (by decide) ?_
      exact ((k.2.2 c1).2.2 c2)
set_option maxHeartbeats 1000000 in
theorem vc127_0 {xs : List Int32} {mo : Nat} {ad : Nat → Nat} (hD : md_D mo ad) {h0 : am_H} {d : Nat} {Q : Option Value → md_S → Prop} {M : md_S} {x1 : Int32}
    (k : (vp_in x1 60) ∧ ((vp_in (M.2 14 x1.toNatClampNeg) 60) ∧ (((¬ (M.2 12 x1.toNatClampNeg) = 4) → ((¬ (f_told M x1 (f_inner M (M.2 14 x1.toNatClampNeg))) = (-1)) → ∀ M1 : md_S, M1 = md_up2 M 17 x1.toNatClampNeg (f_more (f_told M x1 (f_inner M (M.2 14 x1.toNatClampNeg))) (2 * (f_edges M x1))) → (Q none M1)) ∧ (¬ (¬ (f_told M x1 (f_inner M (M.2 14 x1.toNatClampNeg))) = (-1)) → (((M.2 13 x1.toNatClampNeg) = 0) → ((¬ (M.2 12 (M.2 14 x1.toNatClampNeg).toNatClampNeg) = 2) → ∀ M2 : md_S, M2 = md_up2 M 17 x1.toNatClampNeg (f_more ((f_inner M (M.2 14 x1.toNatClampNeg)) - (2 * (f_of M x1 4))) (2 * (f_edges M x1))) → (Q none M2)) ∧ (¬ (¬ (M.2 12 (M.2 14 x1.toNatClampNeg).toNatClampNeg) = 2) → md_C xs mo ad (d + 5) 130 [.int x1] M (fun v N1 => ∃ y1, v = some (.int y1) ∧ ((vp_in x1 60) ∧ (∀ M3 : md_S, M3 = md_up2 N1 17 x1.toNatClampNeg (f_more (y1 + (2 * (f_edges M x1))) (2 * (f_edges M x1))) → (Q none M3)))))) ∧ (¬ ((M.2 13 x1.toNatClampNeg) = 0) → md_C xs mo ad (d + 5) 130 [.int x1] M (fun v N2 => ∃ y2, v = some (.int y2) ∧ ((vp_in x1 60) ∧ (∀ M4 : md_S, M4 = md_up2 N2 17 x1.toNatClampNeg (f_more (f_less ((f_inner M (M.2 14 x1.toNatClampNeg)) - (2 * (f_of M x1 4))) (y2 + (2 * (f_edges M x1)))) (2 * (f_edges M x1))) → (Q none M4))))))) ∧ (¬ (¬ (M.2 12 x1.toNatClampNeg) = 4) → ∀ s3 : Int32, s3 = (if ¬ (f_told M x1 (f_inner M (M.2 14 x1.toNatClampNeg))) = (-1) then (f_told M x1 (f_inner M (M.2 14 x1.toNatClampNeg))) else 8) → (∀ M5 : md_S, M5 = md_up2 M 17 x1.toNatClampNeg s3 → (∀ s4 : Int32, s4 = (if ¬ (f_of M5 x1 3) = (-1) then (f_of M5 x1 3) else 8) → (∀ M6 : md_S, M6 = md_up2 M5 18 x1.toNatClampNeg s4 → (Q none M6)))))))) :
    md_wp xs mo ad h0 (d + 5) Q I127 0 [some (.ref mo), some (.int x1), none, none, none] [] M := by
  refine md_aload0 (dd D127_ok 0 rfl) rfl ?_
  refine md_aload0 (dd D127_ok 1 rfl) rfl ?_
  refine md_getA (dd D127_ok 2 rfl) pl9_52 (by decide) rfl ?_
  refine md_iload_n (dd D127_ok 3 rfl) rfl ?_
  refine md_iald (f := 14) (dd D127_ok 4 rfl) rfl k.1 ?_
  refine md_callI (as := [.int (M.2 14 x1.toNatClampNeg)]) (rest := []) (dd D127_ok 5 rfl) pl9_205 rfl (Nat.le_of_ble_eq_true rfl) (ms128 xs) rfl (c_f_inner hD k.2.1) rfl ?_
  refine md_istore_n (dd D127_ok 6 rfl) (Nat.le_of_ble_eq_true rfl) ?_
  refine md_aload0 (dd D127_ok 7 rfl) rfl ?_
  refine md_iload_n (dd D127_ok 8 rfl) rfl ?_
  refine md_iload_n (dd D127_ok 9 rfl) rfl ?_
  refine md_callI (as := [.int x1, .int (f_inner M (M.2 14 x1.toNatClampNeg))]) (rest := []) (dd D127_ok 10 rfl) pl9_208 rfl (Nat.le_of_ble_eq_true rfl) (ms129 xs) rfl (c_f_told hD k.1) rfl ?_
  refine md_istore_n (dd D127_ok 11 rfl) (Nat.le_of_ble_eq_true rfl) ?_
  refine md_aload0 (dd D127_ok 12 rfl) rfl ?_
  refine md_getA (dd D127_ok 13 rfl) pl9_45 (by decide) rfl ?_
  refine md_iload_n (dd D127_ok 14 rfl) rfl ?_
  refine md_iald (f := 12) (dd D127_ok 15 rfl) rfl k.1 ?_
  refine md_iconst (v := 4) (dd D127_ok 16 rfl) (by decide) ?_
  refine md_icmp_ne (tgt := 73) (dd D127_ok 17 rfl) (by decide) (fun c1 => ?_) (fun c1 => ?_)
  · refine md_iconst (v := 2) (dd D127_ok 45 rfl) (by decide) ?_
    refine md_aload0 (dd D127_ok 46 rfl) rfl ?_
    refine md_iload_n (dd D127_ok 47 rfl) rfl ?_
    refine md_callI (as := [.int x1]) (rest := [.int 2]) (dd D127_ok 48 rfl) pl9_171 rfl (Nat.le_of_ble_eq_true rfl) (ms125 xs) rfl (c_f_edges hD k.1) rfl ?_
    refine md_imul (dd D127_ok 49 rfl) ?_
    refine md_istore (dd D127_ok 50 rfl) (Nat.le_of_ble_eq_true rfl) ?_
    refine md_iload_n (dd D127_ok 51 rfl) rfl ?_
    refine md_iconst (v := (-1)) (dd D127_ok 52 rfl) (by decide) ?_
    refine md_icmp_ne (tgt := 147) (dd D127_ok 53 rfl) (by decide) (fun c2 => ?_) (fun c2 => ?_)
    · refine md_aload0 (dd D127_ok 92 rfl) rfl ?_
      refine md_getA (dd D127_ok 93 rfl) pl9_61 (by decide) rfl ?_
      refine md_iload_n (dd D127_ok 94 rfl) rfl ?_
      refine md_iload_n (dd D127_ok 95 rfl) rfl ?_
      refine md_iload (dd D127_ok 96 rfl) rfl ?_
      refine md_callS (as := [.int (f_told M x1 (f_inner M (M.2 14 x1.toNatClampNeg))), .int (2 * (f_edges M x1))]) (rest := [.int x1, .ref (ad 17)]) (dd D127_ok 97 rfl) pl9_175 rfl (Nat.le_of_ble_eq_true rfl) (c_f_more ) rfl ?_
      refine md_iast (f := 17) hD (dd D127_ok 98 rfl) rfl k.1 ?_
      refine md_nm (fun M1 e1 => ?_)
      exact md_vret (dd D127_ok 99 rfl) rfl (((k.2.2.1 c1).1 c2) M1 e1)
    · refine md_iload_n (dd D127_ok 54 rfl) rfl ?_
      refine md_iconst (v := 2) (dd D127_ok 55 rfl) (by decide) ?_
      refine md_aload0 (dd D127_ok 56 rfl) rfl ?_
      refine md_iload_n (dd D127_ok 57 rfl) rfl ?_
      refine md_iconst (v := 4) (dd D127_ok 58 rfl) (by decide) ?_
      refine md_callI (as := [.int x1, .int 4]) (rest := [.int 2, .int (f_inner M (M.2 14 x1.toNatClampNeg))]) (dd D127_ok 59 rfl) pl9_168 rfl (Nat.le_of_ble_eq_true rfl) (ms118 xs) rfl (c_f_of hD k.1 (md_vl (by decide))) rfl ?_
      refine md_imul (dd D127_ok 60 rfl) ?_
      refine md_isub (dd D127_ok 61 rfl) ?_
      refine md_istore_n (dd D127_ok 62 rfl) (Nat.le_of_ble_eq_true rfl) ?_
      refine md_aload0 (dd D127_ok 63 rfl) rfl ?_
      refine md_getA (dd D127_ok 64 rfl) pl9_48 (by decide) rfl ?_
      refine md_iload_n (dd D127_ok 65 rfl) rfl ?_
      refine md_bald (f := 13) (dd D127_ok 66 rfl) rfl (Or.inr rfl) k.1 ?_
      refine md_if_eq (tgt := 123) (dd D127_ok 67 rfl) (by decide) (fun c3 => ?_) (fun c3 => ?_)
      · refine md_aload0 (dd D127_ok 77 rfl) rfl ?_
        refine md_getA (dd D127_ok 78 rfl) pl9_45 (by decide) rfl ?_
        refine md_aload0 (dd D127_ok 79 rfl) rfl ?_
        refine md_getA (dd D127_ok 80 rfl) pl9_52 (by decide) rfl ?_
        refine md_iload_n (dd D127_ok 81 rfl) rfl ?_
        refine md_iald (f := 14) (dd D127_ok 82 rfl) rfl k.1 ?_
        refine md_iald (f := 12) (dd D127_ok 83 rfl) rfl k.2.1 ?_
        refine md_iconst (v := 2) (dd D127_ok 84 rfl) (by decide) ?_
        refine md_icmp_ne (tgt := 147) (dd D127_ok 85 rfl) (by decide) (fun c4 => ?_) (fun c4 => ?_)
        · refine md_aload0 (dd D127_ok 92 rfl) rfl ?_
          refine md_getA (dd D127_ok 93 rfl) pl9_61 (by decide) rfl ?_
          refine md_iload_n (dd D127_ok 94 rfl) rfl ?_
          refine md_iload_n (dd D127_ok 95 rfl) rfl ?_
          refine md_iload (dd D127_ok 96 rfl) rfl ?_
          refine md_callS (as := [.int ((f_inner M (M.2 14 x1.toNatClampNeg)) - (2 * (f_of M x1 4))), .int (2 * (f_edges M x1))]) (rest := [.int x1, .ref (ad 17)]) (dd D127_ok 97 rfl) pl9_175 rfl (Nat.le_of_ble_eq_true rfl) (c_f_more ) rfl ?_
          refine md_iast (f := 17) hD (dd D127_ok 98 rfl) rfl k.1 ?_
          refine md_nm (fun M2 e2 => ?_)
          exact md_vret (dd D127_ok 99 rfl) rfl (((((k.2.2.1 c1).2 c2).1 c3).1 c4) M2 e2)
        · refine md_aload0 (dd D127_ok 86 rfl) rfl ?_
          refine md_iload_n (dd D127_ok 87 rfl) rfl ?_
          refine md_call (as := [.int x1]) (rest := []) (dd D127_ok 88 rfl) pl9_211 rfl (Nat.le_of_ble_eq_true rfl) (ms130 xs) rfl ((((((k.2.2.1 c1).2 c2).1 c3).2 c4)).mono ?_) rfl
          rintro v N1 ⟨y1, rfl, w1⟩
          refine md_iload (dd D127_ok 89 rfl) rfl ?_
          refine md_iadd (dd D127_ok 90 rfl) ?_
          refine md_istore_n (dd D127_ok 91 rfl) (Nat.le_of_ble_eq_true rfl) ?_
          refine md_aload0 (dd D127_ok 92 rfl) rfl ?_
          refine md_getA (dd D127_ok 93 rfl) pl9_61 (by decide) rfl ?_
          refine md_iload_n (dd D127_ok 94 rfl) rfl ?_
          refine md_iload_n (dd D127_ok 95 rfl) rfl ?_
          refine md_iload (dd D127_ok 96 rfl) rfl ?_
          refine md_callS (as := [.int (y1 + (2 * (f_edges M x1))), .int (2 * (f_edges M x1))]) (rest := [.int x1, .ref (ad 17)]) (dd D127_ok 97 rfl) pl9_175 rfl (Nat.le_of_ble_eq_true rfl) (c_f_more ) rfl ?_
          refine md_iast (f := 17) hD (dd D127_ok 98 rfl) rfl w1.1 ?_
          refine md_nm (fun M3 e3 => ?_)
          exact md_vret (dd D127_ok 99 rfl) rfl (w1.2 M3 e3)
      · refine md_iload_n (dd D127_ok 68 rfl) rfl ?_
        refine md_aload0 (dd D127_ok 69 rfl) rfl ?_
        refine md_iload_n (dd D127_ok 70 rfl) rfl ?_
        refine md_call (as := [.int x1]) (rest := [.int ((f_inner M (M.2 14 x1.toNatClampNeg)) - (2 * (f_of M x1 4)))]) (dd D127_ok 71 rfl) pl9_211 rfl (Nat.le_of_ble_eq_true rfl) (ms130 xs) rfl (((((k.2.2.1 c1).2 c2).2 c3)).mono ?_) rfl
        rintro v N2 ⟨y2, rfl, w2⟩
        refine md_iload (dd D127_ok 72 rfl) rfl ?_
        refine md_iadd (dd D127_ok 73 rfl) ?_
        refine md_callS (as := [.int ((f_inner M (M.2 14 x1.toNatClampNeg)) - (2 * (f_of M x1 4))), .int (y2 + (2 * (f_edges M x1)))]) (rest := []) (dd D127_ok 74 rfl) pl9_214 rfl (Nat.le_of_ble_eq_true rfl) (c_f_less ) rfl ?_
        refine md_istore_n (dd D127_ok 75 rfl) (Nat.le_of_ble_eq_true rfl) ?_
        refine md_goto (tgt := 147) (dd D127_ok 76 rfl) (by decide) ?_
        refine md_aload0 (dd D127_ok 92 rfl) rfl ?_
        refine md_getA (dd D127_ok 93 rfl) pl9_61 (by decide) rfl ?_
        refine md_iload_n (dd D127_ok 94 rfl) rfl ?_
        refine md_iload_n (dd D127_ok 95 rfl) rfl ?_
        refine md_iload (dd D127_ok 96 rfl) rfl ?_
        refine md_callS (as := [.int (f_less ((f_inner M (M.2 14 x1.toNatClampNeg)) - (2 * (f_of M x1 4))) (y2 + (2 * (f_edges M x1)))), .int (2 * (f_edges M x1))]) (rest := [.int x1, .ref (ad 17)]) (dd D127_ok 97 rfl) pl9_175 rfl (Nat.le_of_ble_eq_true rfl) (c_f_more ) rfl ?_
        refine md_iast (f := 17) hD (dd D127_ok 98 rfl) rfl w2.1 ?_
        refine md_nm (fun M4 e4 => ?_)
        exact md_vret (dd D127_ok 99 rfl) rfl (w2.2 M4 e4)
  · refine md_aload0 (dd D127_ok 18 rfl) rfl ?_
    refine md_getA (dd D127_ok 19 rfl) pl9_61 (by decide) rfl ?_
    refine md_iload_n (dd D127_ok 20 rfl) rfl ?_
    refine md_iload_n (dd D127_ok 21 rfl) rfl ?_
    refine md_iconst (v := (-1)) (dd D127_ok 22 rfl) (by decide) ?_
    have J1 : ∀ s3 : Int32, s3 = (if ¬ (f_told M x1 (f_inner M (M.2 14 x1.toNatClampNeg))) = (-1) then (f_told M x1 (f_inner M (M.2 14 x1.toNatClampNeg))) else 8) → md_wp xs mo ad h0 (d + 5) Q I127 44 [some (.ref mo), some (.int x1), some (.int (f_inner M (M.2 14 x1.toNatClampNeg))), some (.int (f_told M x1 (f_inner M (M.2 14 x1.toNatClampNeg)))), none] [.int s3, .int x1, .ref (ad 17)] M := by
      intro s3 e_s3
      refine md_iast (f := 17) hD (dd D127_ok 27 rfl) rfl k.1 ?_
      refine md_nm (fun M5 e5 => ?_)
      refine md_aload0 (dd D127_ok 28 rfl) rfl ?_
      refine md_getA (dd D127_ok 29 rfl) pl9_64 (by decide) rfl ?_
      refine md_iload_n (dd D127_ok 30 rfl) rfl ?_
      refine md_aload0 (dd D127_ok 31 rfl) rfl ?_
      refine md_iload_n (dd D127_ok 32 rfl) rfl ?_
      refine md_iconst (v := 3) (dd D127_ok 33 rfl) (by decide) ?_
      refine md_callI (as := [.int x1, .int 3]) (rest := [.int x1, .ref (ad 18)]) (dd D127_ok 34 rfl) pl9_168 rfl (Nat.le_of_ble_eq_true rfl) (ms118 xs) rfl (c_f_of hD k.1 (md_vl (by decide))) rfl ?_
      refine md_iconst (v := (-1)) (dd D127_ok 35 rfl) (by decide) ?_
      have J2 : ∀ s4 : Int32, s4 = (if ¬ (f_of M5 x1 3) = (-1) then (f_of M5 x1 3) else 8) → md_wp xs mo ad h0 (d + 5) Q I127 71 [some (.ref mo), some (.int x1), some (.int (f_inner M (M.2 14 x1.toNatClampNeg))), some (.int (f_told M x1 (f_inner M (M.2 14 x1.toNatClampNeg)))), none] [.int s4, .int x1, .ref (ad 18)] M5 := by
        intro s4 e_s4
        refine md_iast (f := 18) hD (dd D127_ok 43 rfl) rfl k.1 ?_
        refine md_nm (fun M6 e6 => ?_)
        exact md_vret (dd D127_ok 44 rfl) rfl (((((k.2.2.2 c1) s3 e_s3) M5 e5) s4 e_s4) M6 e6)
      refine md_icmp_ne (tgt := 65) (dd D127_ok 36 rfl) (by decide) (fun c7 => ?_) (fun c7 => ?_)
      · refine md_aload0 (dd D127_ok 39 rfl) rfl ?_
        refine md_iload_n (dd D127_ok 40 rfl) rfl ?_
        refine md_iconst (v := 3) (dd D127_ok 41 rfl) (by decide) ?_
        refine md_callI (as := [.int x1, .int 3]) (rest := [.int x1, .ref (ad 18)]) (dd D127_ok 42 rfl) pl9_168 rfl (Nat.le_of_ble_eq_true rfl) (ms118 xs) rfl (c_f_of hD k.1 (md_vl (by decide))) rfl ?_
        exact J2 _ (by first | rfl | rw [if_pos c7] | simp only [if_pos c7])
      · refine md_bipush (v := 8) (dd D127_ok 37 rfl) (by decide) ?_
        refine md_goto (tgt := 71) (dd D127_ok 38 rfl) (by decide) ?_
        exact J2 _ (by first | rfl | rw [if_neg c7] | simp only [if_neg c7])
    refine md_icmp_ne (tgt := 43) (dd D127_ok 23 rfl) (by decide) (fun c8 => ?_) (fun c8 => ?_)
    · refine md_iload_n (dd D127_ok 26 rfl) rfl ?_
      exact J1 _ (by first | rfl | rw [if_pos c8] | simp only [if_pos c8])
    · refine md_bipush (v := 8) (dd D127_ok 24 rfl) (by decide) ?_
      refine md_goto (tgt := 44) (dd D127_ok 25 rfl) (by decide) ?_
      exact J1 _ (by first | rfl | rw [if_neg c8] | simp only [if_neg c8])
set_option maxHeartbeats 1000000 in
theorem vc146_0 {xs : List Int32} {mo : Nat} {ad : Nat → Nat} (hD : md_D mo ad) {h0 : am_H} {d : Nat} {Q : Option Value → md_S → Prop} {M : md_S} {x1 : Int32}
    (k : (vp_in x1 60) ∧ (md_wp xs mo ad h0 (d + 4) Q I146 12 [some (.ref mo), some (.int x1), some (.int 0), some (.int 0), some (.int (M.2 5 x1.toNatClampNeg)), none] [] M)) :
    md_wp xs mo ad h0 (d + 4) Q I146 0 [some (.ref mo), some (.int x1), none, none, none, none] [] M := by
  refine md_iconst (v := 0) (dd D146_ok 0 rfl) (by decide) ?_
  refine md_istore_n (dd D146_ok 1 rfl) (Nat.le_of_ble_eq_true rfl) ?_
  refine md_iconst (v := 0) (dd D146_ok 2 rfl) (by decide) ?_
  refine md_istore_n (dd D146_ok 3 rfl) (Nat.le_of_ble_eq_true rfl) ?_
  refine md_aload0 (dd D146_ok 4 rfl) rfl ?_
  refine md_getA (dd D146_ok 5 rfl) pl9_24 (by decide) rfl ?_
  refine md_iload_n (dd D146_ok 6 rfl) rfl ?_
  refine md_iald (f := 5) (dd D146_ok 7 rfl) rfl k.1 ?_
  refine md_istore (dd D146_ok 8 rfl) (Nat.le_of_ble_eq_true rfl) ?_
  exact k.2
set_option maxHeartbeats 1000000 in
theorem vc146_12 {xs : List Int32} {mo : Nat} {ad : Nat → Nat} (hD : md_D mo ad) {h0 : am_H} {d : Nat} {Q : Option Value → md_S → Prop} {M : md_S} {x1 : Int32} {x2 : Int32} {x3 : Int32} {x4 : Int32} {o5 : Option Value}
    (k : ((x4 = (-1)) → (vp_in x1 60) ∧ (∀ M1 : md_S, M1 = md_up2 M 18 x1.toNatClampNeg (f_heightOf M x1 x3) → (Q none M1))) ∧ (¬ (x4 = (-1)) → (vp_in x4 60) ∧ (((¬ (f_isBox M x4) = 0) → ∀ M2 : md_S, M2 = md_up2 M 15 x4.toNatClampNeg (x2 + (f_of M x4 4)) → (∀ M3 : md_S, M3 = md_up2 M2 16 x4.toNatClampNeg (f_of M x4 4) → (md_wp xs mo ad h0 (d + 4) Q I146 12 [some (.ref mo), some (.int x1), some (.int (x2 + ((M3.2 17 x4.toNatClampNeg) + (2 * (f_of M x4 4))))), some (.int (f_more x3 ((M3.2 18 x4.toNatClampNeg) + (2 * (f_of M x4 4))))), some (.int (M3.2 7 x4.toNatClampNeg)), some (.int (f_of M x4 4))] [] M3))) ∧ (¬ (¬ (f_isBox M x4) = 0) → (((M.2 12 x4.toNatClampNeg) = 4) → ∀ M4 : md_S, M4 = md_up2 M 15 x4.toNatClampNeg (x2 + (f_of M x4 4)) → (∀ M5 : md_S, M5 = md_up2 M4 16 x4.toNatClampNeg (f_of M x4 4) → (md_wp xs mo ad h0 (d + 4) Q I146 12 [some (.ref mo), some (.int x1), some (.int (x2 + ((M5.2 17 x4.toNatClampNeg) + (2 * (f_of M x4 4))))), some (.int (f_more x3 ((M5.2 18 x4.toNatClampNeg) + (2 * (f_of M x4 4))))), some (.int (M5.2 7 x4.toNatClampNeg)), some (.int (f_of M x4 4))] [] M5))) ∧ (¬ ((M.2 12 x4.toNatClampNeg) = 4) → md_wp xs mo ad h0 (d + 4) Q I146 12 [some (.ref mo), some (.int x1), some (.int x2), some (.int x3), some (.int (M.2 7 x4.toNatClampNeg)), o5] [] M))))) :
    md_wp xs mo ad h0 (d + 4) Q I146 12 [some (.ref mo), some (.int x1), some (.int x2), some (.int x3), some (.int x4), o5] [] M := by
  refine md_iload (dd D146_ok 9 rfl) rfl ?_
  refine md_iconst (v := (-1)) (dd D146_ok 10 rfl) (by decide) ?_
  refine md_icmp_eq (tgt := 114) (dd D146_ok 11 rfl) (by decide) (fun c1 => ?_) (fun c1 => ?_)
  · refine md_aload0 (dd D146_ok 68 rfl) rfl ?_
    refine md_getA (dd D146_ok 69 rfl) pl9_64 (by decide) rfl ?_
    refine md_iload_n (dd D146_ok 70 rfl) rfl ?_
    refine md_aload0 (dd D146_ok 71 rfl) rfl ?_
    refine md_iload_n (dd D146_ok 72 rfl) rfl ?_
    refine md_iload_n (dd D146_ok 73 rfl) rfl ?_
    refine md_callI (as := [.int x1, .int x3]) (rest := [.int x1, .ref (ad 18)]) (dd D146_ok 74 rfl) pl9_232 rfl (Nat.le_of_ble_eq_true rfl) (ms145 xs) rfl (c_f_heightOf hD (k.1 c1).1) rfl ?_
    refine md_iast (f := 18) hD (dd D146_ok 75 rfl) rfl (k.1 c1).1 ?_
    refine md_nm (fun M1 e1 => ?_)
    exact md_vret (dd D146_ok 76 rfl) rfl ((k.1 c1).2 M1 e1)
  · refine md_aload0 (dd D146_ok 12 rfl) rfl ?_
    refine md_iload (dd D146_ok 13 rfl) rfl ?_
    refine md_callI (as := [.int x4]) (rest := []) (dd D146_ok 14 rfl) pl9_181 rfl (Nat.le_of_ble_eq_true rfl) (ms117 xs) rfl (c_f_isBox hD (k.2 c1).1) rfl ?_
    refine md_if_ne (tgt := 41) (dd D146_ok 15 rfl) (by decide) (fun c2 => ?_) (fun c2 => ?_)
    · refine md_aload0 (dd D146_ok 23 rfl) rfl ?_
      refine md_iload (dd D146_ok 24 rfl) rfl ?_
      refine md_iconst (v := 4) (dd D146_ok 25 rfl) (by decide) ?_
      refine md_callI (as := [.int x4, .int 4]) (rest := []) (dd D146_ok 26 rfl) pl9_168 rfl (Nat.le_of_ble_eq_true rfl) (ms118 xs) rfl (c_f_of hD (k.2 c1).1 (md_vl (by decide))) rfl ?_
      refine md_istore (dd D146_ok 27 rfl) (Nat.le_of_ble_eq_true rfl) ?_
      refine md_aload0 (dd D146_ok 28 rfl) rfl ?_
      refine md_getA (dd D146_ok 29 rfl) pl9_55 (by decide) rfl ?_
      refine md_iload (dd D146_ok 30 rfl) rfl ?_
      refine md_iload_n (dd D146_ok 31 rfl) rfl ?_
      refine md_iload (dd D146_ok 32 rfl) rfl ?_
      refine md_iadd (dd D146_ok 33 rfl) ?_
      refine md_iast (f := 15) hD (dd D146_ok 34 rfl) rfl (k.2 c1).1 ?_
      refine md_nm (fun M2 e2 => ?_)
      refine md_aload0 (dd D146_ok 35 rfl) rfl ?_
      refine md_getA (dd D146_ok 36 rfl) pl9_58 (by decide) rfl ?_
      refine md_iload (dd D146_ok 37 rfl) rfl ?_
      refine md_iload (dd D146_ok 38 rfl) rfl ?_
      refine md_iast (f := 16) hD (dd D146_ok 39 rfl) rfl (k.2 c1).1 ?_
      refine md_nm (fun M3 e3 => ?_)
      refine md_iload_n (dd D146_ok 40 rfl) rfl ?_
      refine md_aload0 (dd D146_ok 41 rfl) rfl ?_
      refine md_getA (dd D146_ok 42 rfl) pl9_61 (by decide) rfl ?_
      refine md_iload (dd D146_ok 43 rfl) rfl ?_
      refine md_iald (f := 17) (dd D146_ok 44 rfl) rfl (k.2 c1).1 ?_
      refine md_iconst (v := 2) (dd D146_ok 45 rfl) (by decide) ?_
      refine md_iload (dd D146_ok 46 rfl) rfl ?_
      refine md_imul (dd D146_ok 47 rfl) ?_
      refine md_iadd (dd D146_ok 48 rfl) ?_
      refine md_iadd (dd D146_ok 49 rfl) ?_
      refine md_istore_n (dd D146_ok 50 rfl) (Nat.le_of_ble_eq_true rfl) ?_
      refine md_iload_n (dd D146_ok 51 rfl) rfl ?_
      refine md_aload0 (dd D146_ok 52 rfl) rfl ?_
      refine md_getA (dd D146_ok 53 rfl) pl9_64 (by decide) rfl ?_
      refine md_iload (dd D146_ok 54 rfl) rfl ?_
      refine md_iald (f := 18) (dd D146_ok 55 rfl) rfl (k.2 c1).1 ?_
      refine md_iconst (v := 2) (dd D146_ok 56 rfl) (by decide) ?_
      refine md_iload (dd D146_ok 57 rfl) rfl ?_
      refine md_imul (dd D146_ok 58 rfl) ?_
      refine md_iadd (dd D146_ok 59 rfl) ?_
      refine md_callS (as := [.int x3, .int ((M3.2 18 x4.toNatClampNeg) + (2 * (f_of M x4 4)))]) (rest := []) (dd D146_ok 60 rfl) pl9_175 rfl (Nat.le_of_ble_eq_true rfl) (c_f_more ) rfl ?_
      refine md_istore_n (dd D146_ok 61 rfl) (Nat.le_of_ble_eq_true rfl) ?_
      refine md_aload0 (dd D146_ok 62 rfl) rfl ?_
      refine md_getA (dd D146_ok 63 rfl) pl9_30 (by decide) rfl ?_
      refine md_iload (dd D146_ok 64 rfl) rfl ?_
      refine md_iald (f := 7) (dd D146_ok 65 rfl) rfl (k.2 c1).1 ?_
      refine md_istore (dd D146_ok 66 rfl) (Nat.le_of_ble_eq_true rfl) ?_
      refine md_goto (tgt := 12) (dd D146_ok 67 rfl) (by decide) ?_
      exact ((((k.2 c1).2.1 c2) M2 e2) M3 e3)
    · refine md_aload0 (dd D146_ok 16 rfl) rfl ?_
      refine md_getA (dd D146_ok 17 rfl) pl9_45 (by decide) rfl ?_
      refine md_iload (dd D146_ok 18 rfl) rfl ?_
      refine md_iald (f := 12) (dd D146_ok 19 rfl) rfl (k.2 c1).1 ?_
      refine md_iconst (v := 4) (dd D146_ok 20 rfl) (by decide) ?_
      refine md_icmp_eq (tgt := 41) (dd D146_ok 21 rfl) (by decide) (fun c3 => ?_) (fun c3 => ?_)
      · refine md_aload0 (dd D146_ok 23 rfl) rfl ?_
        refine md_iload (dd D146_ok 24 rfl) rfl ?_
        refine md_iconst (v := 4) (dd D146_ok 25 rfl) (by decide) ?_
        refine md_callI (as := [.int x4, .int 4]) (rest := []) (dd D146_ok 26 rfl) pl9_168 rfl (Nat.le_of_ble_eq_true rfl) (ms118 xs) rfl (c_f_of hD (k.2 c1).1 (md_vl (by decide))) rfl ?_
        refine md_istore (dd D146_ok 27 rfl) (Nat.le_of_ble_eq_true rfl) ?_
        refine md_aload0 (dd D146_ok 28 rfl) rfl ?_
        refine md_getA (dd D146_ok 29 rfl) pl9_55 (by decide) rfl ?_
        refine md_iload (dd D146_ok 30 rfl) rfl ?_
        refine md_iload_n (dd D146_ok 31 rfl) rfl ?_
        refine md_iload (dd D146_ok 32 rfl) rfl ?_
        refine md_iadd (dd D146_ok 33 rfl) ?_
        refine md_iast (f := 15) hD (dd D146_ok 34 rfl) rfl (k.2 c1).1 ?_
        refine md_nm (fun M4 e4 => ?_)
        refine md_aload0 (dd D146_ok 35 rfl) rfl ?_
        refine md_getA (dd D146_ok 36 rfl) pl9_58 (by decide) rfl ?_
        refine md_iload (dd D146_ok 37 rfl) rfl ?_
        refine md_iload (dd D146_ok 38 rfl) rfl ?_
        refine md_iast (f := 16) hD (dd D146_ok 39 rfl) rfl (k.2 c1).1 ?_
        refine md_nm (fun M5 e5 => ?_)
        refine md_iload_n (dd D146_ok 40 rfl) rfl ?_
        refine md_aload0 (dd D146_ok 41 rfl) rfl ?_
        refine md_getA (dd D146_ok 42 rfl) pl9_61 (by decide) rfl ?_
        refine md_iload (dd D146_ok 43 rfl) rfl ?_
        refine md_iald (f := 17) (dd D146_ok 44 rfl) rfl (k.2 c1).1 ?_
        refine md_iconst (v := 2) (dd D146_ok 45 rfl) (by decide) ?_
        refine md_iload (dd D146_ok 46 rfl) rfl ?_
        refine md_imul (dd D146_ok 47 rfl) ?_
        refine md_iadd (dd D146_ok 48 rfl) ?_
        refine md_iadd (dd D146_ok 49 rfl) ?_
        refine md_istore_n (dd D146_ok 50 rfl) (Nat.le_of_ble_eq_true rfl) ?_
        refine md_iload_n (dd D146_ok 51 rfl) rfl ?_
        refine md_aload0 (dd D146_ok 52 rfl) rfl ?_
        refine md_getA (dd D146_ok 53 rfl) pl9_64 (by decide) rfl ?_
        refine md_iload (dd D146_ok 54 rfl) rfl ?_
        refine md_iald (f := 18) (dd D146_ok 55 rfl) rfl (k.2 c1).1 ?_
        refine md_iconst (v := 2) (dd D146_ok 56 rfl) (by decide) ?_
        refine md_iload (dd D146_ok 57 rfl) rfl ?_
        refine md_imul (dd D146_ok 58 rfl) ?_
        refine md_iadd (dd D146_ok 59 rfl) ?_
        refine md_callS (as := [.int x3, .int ((M5.2 18 x4.toNatClampNeg) + (2 * (f_of M x4 4)))]) (rest := []) (dd D146_ok 60 rfl) pl9_175 rfl (Nat.le_of_ble_eq_true rfl) (c_f_more ) rfl ?_
        refine md_istore_n (dd D146_ok 61 rfl) (Nat.le_of_ble_eq_true rfl) ?_
        refine md_aload0 (dd D146_ok 62 rfl) rfl ?_
        refine md_getA (dd D146_ok 63 rfl) pl9_30 (by decide) rfl ?_
        refine md_iload (dd D146_ok 64 rfl) rfl ?_
        refine md_iald (f := 7) (dd D146_ok 65 rfl) rfl (k.2 c1).1 ?_
        refine md_istore (dd D146_ok 66 rfl) (Nat.le_of_ble_eq_true rfl) ?_
        refine md_goto (tgt := 12) (dd D146_ok 67 rfl) (by decide) ?_
        exact (((((k.2 c1).2.2 c2).1 c3) M4 e4) M5 e5)
      · refine md_goto (tgt := 102) (dd D146_ok 22 rfl) (by decide) ?_
        refine md_aload0 (dd D146_ok 62 rfl) rfl ?_
        refine md_getA (dd D146_ok 63 rfl) pl9_30 (by decide) rfl ?_
        refine md_iload (dd D146_ok 64 rfl) rfl ?_
        refine md_iald (f := 7) (dd D146_ok 65 rfl) rfl (k.2 c1).1 ?_
        refine md_istore (dd D146_ok 66 rfl) (Nat.le_of_ble_eq_true rfl) ?_
        refine md_goto (tgt := 12) (dd D146_ok 67 rfl) (by decide) ?_
        exact (((k.2 c1).2.2 c2).2 c3)
set_option maxHeartbeats 1000000 in
theorem vc137_0 {xs : List Int32} {mo : Nat} {ad : Nat → Nat} (hD : md_D mo ad) {h0 : am_H} {d : Nat} {Q : Option Value → md_S → Prop} {M : md_S} {x1 : Int32}
    (k : (vp_in x1 60) ∧ (md_wp xs mo ad h0 (d + 4) Q I137 27 [some (.ref mo), some (.int x1), some (.int (f_of M x1 4)), some (.int ((M.2 17 x1.toNatClampNeg) + (2 * (f_of M x1 4)))), some (.int (M.1 37)), some (.int 0), none] [] M)) :
    md_wp xs mo ad h0 (d + 4) Q I137 0 [some (.ref mo), some (.int x1), none, none, none, none, none] [] M := by
  refine md_aload0 (dd D137_ok 0 rfl) rfl ?_
  refine md_iload_n (dd D137_ok 1 rfl) rfl ?_
  refine md_iconst (v := 4) (dd D137_ok 2 rfl) (by decide) ?_
  refine md_callI (as := [.int x1, .int 4]) (rest := []) (dd D137_ok 3 rfl) pl9_168 rfl (Nat.le_of_ble_eq_true rfl) (ms118 xs) rfl (c_f_of hD k.1 (md_vl (by decide))) rfl ?_
  refine md_istore_n (dd D137_ok 4 rfl) (Nat.le_of_ble_eq_true rfl) ?_
  refine md_aload0 (dd D137_ok 5 rfl) rfl ?_
  refine md_getA (dd D137_ok 6 rfl) pl9_61 (by decide) rfl ?_
  refine md_iload_n (dd D137_ok 7 rfl) rfl ?_
  refine md_iald (f := 17) (dd D137_ok 8 rfl) rfl k.1 ?_
  refine md_iconst (v := 2) (dd D137_ok 9 rfl) (by decide) ?_
  refine md_iload_n (dd D137_ok 10 rfl) rfl ?_
  refine md_imul (dd D137_ok 11 rfl) ?_
  refine md_iadd (dd D137_ok 12 rfl) ?_
  refine md_istore_n (dd D137_ok 13 rfl) (Nat.le_of_ble_eq_true rfl) ?_
  refine md_aload0 (dd D137_ok 14 rfl) rfl ?_
  refine md_getI (dd D137_ok 15 rfl) pl9_251 (by decide) rfl ?_
  refine md_istore (dd D137_ok 16 rfl) (Nat.le_of_ble_eq_true rfl) ?_
  refine md_iconst (v := 0) (dd D137_ok 17 rfl) (by decide) ?_
  refine md_istore (dd D137_ok 18 rfl) (Nat.le_of_ble_eq_true rfl) ?_
  exact k.2
set_option maxHeartbeats 1000000 in
theorem vc137_27 {xs : List Int32} {mo : Nat} {ad : Nat → Nat} (hD : md_D mo ad) {h0 : am_H} {d : Nat} {Q : Option Value → md_S → Prop} {M : md_S} {x1 : Int32} {x2 : Int32} {x3 : Int32} {x4 : Int32} {x5 : Int32} {o6 : Option Value}
    (k : (((M.1 46) ≤ x5) → (vp_in (M.1 46) 61) ∧ (∀ M1 : md_S, M1 = f_edgesAt_M M x4 → ((vp_in (M1.1 46) 61) ∧ (md_wp xs mo ad h0 (d + 4) Q I137 70 [some (.ref mo), some (.int x1), some (.int x2), some (.int x3), some (.int x4), some (.int (f_leastEnd M1 x4)), o6] [] M1)))) ∧ (¬ ((M.1 46) ≤ x5) → (vp_in x5 60) ∧ (md_wp xs mo ad h0 (d + 4) Q I137 27 [some (.ref mo), some (.int x1), some (.int x2), some (.int x3), some (.int (f_more x4 (M.2 49 x5.toNatClampNeg))), some (.int (x5 + 1)), o6] [] M))) :
    md_wp xs mo ad h0 (d + 4) Q I137 27 [some (.ref mo), some (.int x1), some (.int x2), some (.int x3), some (.int x4), some (.int x5), o6] [] M := by
  refine md_iload (dd D137_ok 19 rfl) rfl ?_
  refine md_aload0 (dd D137_ok 20 rfl) rfl ?_
  refine md_getI (dd D137_ok 21 rfl) pl9_244 (by decide) rfl ?_
  refine md_icmp_ge (tgt := 56) (dd D137_ok 22 rfl) (by decide) (fun c1 => ?_) (fun c1 => ?_)
  · refine md_aload0 (dd D137_ok 32 rfl) rfl ?_
    refine md_iload (dd D137_ok 33 rfl) rfl ?_
    refine md_callV (as := [.int x4]) (rest := []) (dd D137_ok 34 rfl) pl9_254 rfl (Nat.le_of_ble_eq_true rfl) (ms138 xs) rfl (c_f_edgesAt hD (k.1 c1).1) rfl ?_
    refine md_nm (fun M1 e1 => ?_)
    refine md_aload0 (dd D137_ok 35 rfl) rfl ?_
    refine md_iload (dd D137_ok 36 rfl) rfl ?_
    refine md_callI (as := [.int x4]) (rest := []) (dd D137_ok 37 rfl) pl9_257 rfl (Nat.le_of_ble_eq_true rfl) (ms140 xs) rfl (c_f_leastEnd hD ((k.1 c1).2 M1 e1).1) rfl ?_
    refine md_istore (dd D137_ok 38 rfl) (Nat.le_of_ble_eq_true rfl) ?_
    exact ((k.1 c1).2 M1 e1).2
  · refine md_iload (dd D137_ok 23 rfl) rfl ?_
    refine md_aload0 (dd D137_ok 24 rfl) rfl ?_
    refine md_getA (dd D137_ok 25 rfl) pl9_127 (by decide) rfl ?_
    refine md_iload (dd D137_ok 26 rfl) rfl ?_
    refine md_iald (f := 49) (dd D137_ok 27 rfl) rfl (k.2 c1).1 ?_
    refine md_callS (as := [.int x4, .int (M.2 49 x5.toNatClampNeg)]) (rest := []) (dd D137_ok 28 rfl) pl9_175 rfl (Nat.le_of_ble_eq_true rfl) (c_f_more ) rfl ?_
    refine md_istore (dd D137_ok 29 rfl) (Nat.le_of_ble_eq_true rfl) ?_
    refine md_iinc (v := x5 + 1) (dd D137_ok 30 rfl) rfl rfl ?_
    refine md_goto (tgt := 27) (dd D137_ok 31 rfl) (by decide) ?_
    exact (k.2 c1).2
set_option maxHeartbeats 1000000 in
theorem vc137_70 {xs : List Int32} {mo : Nat} {ad : Nat → Nat} (hD : md_D mo ad) {h0 : am_H} {d : Nat} {Q : Option Value → md_S → Prop} {M : md_S} {x1 : Int32} {x2 : Int32} {x3 : Int32} {x4 : Int32} {x5 : Int32} {o6 : Option Value}
    (k : ((((M.1 38) + x3) ≤ (M.1 39)) → (vp_in x1 60) ∧ (∀ s1 : Int32, s1 = (if ¬ (f_of M x1 1) = 1 then ((M.1 39) - x3) else (M.1 38)) → ((vp_in (M.1 46) 60) ∧ (∀ M1 : md_S, M1 = md_up2 M 47 (M.1 46).toNatClampNeg s1 → ((vp_in (M1.1 46) 60) ∧ (∀ M2 : md_S, M2 = md_up2 M1 48 (M1.1 46).toNatClampNeg (s1 + x3) → ((vp_in (M2.1 46) 60) ∧ (∀ M3 : md_S, M3 = md_up2 M2 49 (M2.1 46).toNatClampNeg x4 → ((vp_in (M3.1 46) 60) ∧ (∀ M4 : md_S, M4 = md_up2 M3 50 (M3.1 46).toNatClampNeg ((x4 + (M3.2 18 x1.toNatClampNeg)) + (2 * x2)) → ((vp_in (M4.1 46) 60) ∧ (∀ M5 : md_S, M5 = md_up2 M4 51 (M4.1 46).toNatClampNeg (f_of M4 x1 1) → (∀ M6 : md_S, M6 = md_up1 M5 46 ((M5.1 46) + 1) → (∀ M7 : md_S, M7 = md_up2 M6 15 x1.toNatClampNeg (s1 + x2) → (∀ M8 : md_S, M8 = md_up2 M7 16 x1.toNatClampNeg (x4 + x2) → (Q none M8)))))))))))))))) ∧ (¬ (((M.1 38) + x3) ≤ (M.1 39)) → ((x5 = (-1)) → (vp_in x1 60) ∧ (∀ s2 : Int32, s2 = (if ¬ (f_of M x1 1) = 1 then ((M.1 39) - x3) else (M.1 38)) → ((vp_in (M.1 46) 60) ∧ (∀ M9 : md_S, M9 = md_up2 M 47 (M.1 46).toNatClampNeg s2 → ((vp_in (M9.1 46) 60) ∧ (∀ M10 : md_S, M10 = md_up2 M9 48 (M9.1 46).toNatClampNeg (s2 + x3) → ((vp_in (M10.1 46) 60) ∧ (∀ M11 : md_S, M11 = md_up2 M10 49 (M10.1 46).toNatClampNeg x4 → ((vp_in (M11.1 46) 60) ∧ (∀ M12 : md_S, M12 = md_up2 M11 50 (M11.1 46).toNatClampNeg ((x4 + (M11.2 18 x1.toNatClampNeg)) + (2 * x2)) → ((vp_in (M12.1 46) 60) ∧ (∀ M13 : md_S, M13 = md_up2 M12 51 (M12.1 46).toNatClampNeg (f_of M12 x1 1) → (∀ M14 : md_S, M14 = md_up1 M13 46 ((M13.1 46) + 1) → (∀ M15 : md_S, M15 = md_up2 M14 15 x1.toNatClampNeg (s2 + x2) → (∀ M16 : md_S, M16 = md_up2 M15 16 x1.toNatClampNeg (x4 + x2) → (Q none M16)))))))))))))))) ∧ (¬ (x5 = (-1)) → (vp_in (M.1 46) 61) ∧ (∀ M17 : md_S, M17 = f_edgesAt_M M x5 → ((vp_in (M17.1 46) 61) ∧ (md_wp xs mo ad h0 (d + 4) Q I137 70 [some (.ref mo), some (.int x1), some (.int x2), some (.int x3), some (.int x5), some (.int (f_leastEnd M17 x5)), o6] [] M17)))))) :
    md_wp xs mo ad h0 (d + 4) Q I137 70 [some (.ref mo), some (.int x1), some (.int x2), some (.int x3), some (.int x4), some (.int x5), o6] [] M := by
  refine md_aload0 (dd D137_ok 39 rfl) rfl ?_
  refine md_getI (dd D137_ok 40 rfl) pl9_235 (by decide) rfl ?_
  refine md_iload_n (dd D137_ok 41 rfl) rfl ?_
  refine md_iadd (dd D137_ok 42 rfl) ?_
  refine md_aload0 (dd D137_ok 43 rfl) rfl ?_
  refine md_getI (dd D137_ok 44 rfl) pl9_241 (by decide) rfl ?_
  refine md_icmp_le (tgt := 110) (dd D137_ok 45 rfl) (by decide) (fun c1 => ?_) (fun c1 => ?_)
  · refine md_aload0 (dd D137_ok 59 rfl) rfl ?_
    refine md_iload_n (dd D137_ok 60 rfl) rfl ?_
    refine md_iconst (v := 1) (dd D137_ok 61 rfl) (by decide) ?_
    refine md_callI (as := [.int x1, .int 1]) (rest := []) (dd D137_ok 62 rfl) pl9_168 rfl (Nat.le_of_ble_eq_true rfl) (ms118 xs) rfl (c_f_of hD (k.1 c1).1 (md_vl (by decide))) rfl ?_
    refine md_iconst (v := 1) (dd D137_ok 63 rfl) (by decide) ?_
    have J1 : ∀ s1 : Int32, s1 = (if ¬ (f_of M x1 1) = 1 then ((M.1 39) - x3) else (M.1 38)) → md_wp xs mo ad h0 (d + 4) Q I137 133 [some (.ref mo), some (.int x1), some (.int x2), some (.int x3), some (.int x4), some (.int x5), o6] [.int s1] M := by
      intro s1 e_s1
      refine md_istore (dd D137_ok 72 rfl) (Nat.le_of_ble_eq_true rfl) ?_
      refine md_aload0 (dd D137_ok 73 rfl) rfl ?_
      refine md_getA (dd D137_ok 74 rfl) pl9_121 (by decide) rfl ?_
      refine md_aload0 (dd D137_ok 75 rfl) rfl ?_
      refine md_getI (dd D137_ok 76 rfl) pl9_244 (by decide) rfl ?_
      refine md_iload (dd D137_ok 77 rfl) rfl ?_
      refine md_iast (f := 47) hD (dd D137_ok 78 rfl) rfl ((k.1 c1).2 s1 e_s1).1 ?_
      refine md_nm (fun M1 e1 => ?_)
      refine md_aload0 (dd D137_ok 79 rfl) rfl ?_
      refine md_getA (dd D137_ok 80 rfl) pl9_124 (by decide) rfl ?_
      refine md_aload0 (dd D137_ok 81 rfl) rfl ?_
      refine md_getI (dd D137_ok 82 rfl) pl9_244 (by decide) rfl ?_
      refine md_iload (dd D137_ok 83 rfl) rfl ?_
      refine md_iload_n (dd D137_ok 84 rfl) rfl ?_
      refine md_iadd (dd D137_ok 85 rfl) ?_
      refine md_iast (f := 48) hD (dd D137_ok 86 rfl) rfl (((k.1 c1).2 s1 e_s1).2 M1 e1).1 ?_
      refine md_nm (fun M2 e2 => ?_)
      refine md_aload0 (dd D137_ok 87 rfl) rfl ?_
      refine md_getA (dd D137_ok 88 rfl) pl9_127 (by decide) rfl ?_
      refine md_aload0 (dd D137_ok 89 rfl) rfl ?_
      refine md_getI (dd D137_ok 90 rfl) pl9_244 (by decide) rfl ?_
      refine md_iload (dd D137_ok 91 rfl) rfl ?_
      refine md_iast (f := 49) hD (dd D137_ok 92 rfl) rfl ((((k.1 c1).2 s1 e_s1).2 M1 e1).2 M2 e2).1 ?_
      refine md_nm (fun M3 e3 => ?_)
      refine md_aload0 (dd D137_ok 93 rfl) rfl ?_
      refine md_getA (dd D137_ok 94 rfl) pl9_130 (by decide) rfl ?_
      refine md_aload0 (dd D137_ok 95 rfl) rfl ?_
      refine md_getI (dd D137_ok 96 rfl) pl9_244 (by decide) rfl ?_
      refine md_iload (dd D137_ok 97 rfl) rfl ?_
      refine md_aload0 (dd D137_ok 98 rfl) rfl ?_
      refine md_getA (dd D137_ok 99 rfl) pl9_64 (by decide) rfl ?_
      refine md_iload_n (dd D137_ok 100 rfl) rfl ?_
      refine md_iald (f := 18) (dd D137_ok 101 rfl) rfl (k.1 c1).1 ?_
      refine md_iadd (dd D137_ok 102 rfl) ?_
      refine md_iconst (v := 2) (dd D137_ok 103 rfl) (by decide) ?_
      refine md_iload_n (dd D137_ok 104 rfl) rfl ?_
      refine md_imul (dd D137_ok 105 rfl) ?_
      refine md_iadd (dd D137_ok 106 rfl) ?_
      refine md_iast (f := 50) hD (dd D137_ok 107 rfl) rfl (((((k.1 c1).2 s1 e_s1).2 M1 e1).2 M2 e2).2 M3 e3).1 ?_
      refine md_nm (fun M4 e4 => ?_)
      refine md_aload0 (dd D137_ok 108 rfl) rfl ?_
      refine md_getA (dd D137_ok 109 rfl) pl9_133 (by decide) rfl ?_
      refine md_aload0 (dd D137_ok 110 rfl) rfl ?_
      refine md_getI (dd D137_ok 111 rfl) pl9_244 (by decide) rfl ?_
      refine md_aload0 (dd D137_ok 112 rfl) rfl ?_
      refine md_iload_n (dd D137_ok 113 rfl) rfl ?_
      refine md_iconst (v := 1) (dd D137_ok 114 rfl) (by decide) ?_
      refine md_callI (as := [.int x1, .int 1]) (rest := [.int (M4.1 46), .ref (ad 51)]) (dd D137_ok 115 rfl) pl9_168 rfl (Nat.le_of_ble_eq_true rfl) (ms118 xs) rfl (c_f_of hD (k.1 c1).1 (md_vl (by decide))) rfl ?_
      refine md_iast (f := 51) hD (dd D137_ok 116 rfl) rfl ((((((k.1 c1).2 s1 e_s1).2 M1 e1).2 M2 e2).2 M3 e3).2 M4 e4).1 ?_
      refine md_nm (fun M5 e5 => ?_)
      refine md_aload0 (dd D137_ok 117 rfl) rfl ?_
      refine md_dup (dd D137_ok 118 rfl) ?_
      refine md_getI (dd D137_ok 119 rfl) pl9_244 (by decide) rfl ?_
      refine md_iconst (v := 1) (dd D137_ok 120 rfl) (by decide) ?_
      refine md_iadd (dd D137_ok 121 rfl) ?_
      refine md_putI hD (dd D137_ok 122 rfl) pl9_244 (by decide) rfl rfl rfl ?_
      refine md_nm (fun M6 e6 => ?_)
      refine md_aload0 (dd D137_ok 123 rfl) rfl ?_
      refine md_getA (dd D137_ok 124 rfl) pl9_55 (by decide) rfl ?_
      refine md_iload_n (dd D137_ok 125 rfl) rfl ?_
      refine md_iload (dd D137_ok 126 rfl) rfl ?_
      refine md_iload_n (dd D137_ok 127 rfl) rfl ?_
      refine md_iadd (dd D137_ok 128 rfl) ?_
      refine md_iast (f := 15) hD (dd D137_ok 129 rfl) rfl (k.1 c1).1 ?_
      refine md_nm (fun M7 e7 => ?_)
      refine md_aload0 (dd D137_ok 130 rfl) rfl ?_
      refine md_getA (dd D137_ok 131 rfl) pl9_58 (by decide) rfl ?_
      refine md_iload_n (dd D137_ok 132 rfl) rfl ?_
      refine md_iload (dd D137_ok 133 rfl) rfl ?_
      refine md_iload_n (dd D137_ok 134 rfl) rfl ?_
      refine md_iadd (dd D137_ok 135 rfl) ?_
      refine md_iast (f := 16) hD (dd D137_ok 136 rfl) rfl (k.1 c1).1 ?_
      refine md_nm (fun M8 e8 => ?_)
      exact md_vret (dd D137_ok 137 rfl) rfl ((((((((((k.1 c1).2 s1 e_s1).2 M1 e1).2 M2 e2).2 M3 e3).2 M4 e4).2 M5 e5) M6 e6) M7 e7) M8 e8)
    refine md_icmp_ne (tgt := 127) (dd D137_ok 64 rfl) (by decide) (fun c3 => ?_) (fun c3 => ?_)
    · refine md_aload0 (dd D137_ok 68 rfl) rfl ?_
      refine md_getI (dd D137_ok 69 rfl) pl9_241 (by decide) rfl ?_
      refine md_iload_n (dd D137_ok 70 rfl) rfl ?_
      refine md_isub (dd D137_ok 71 rfl) ?_
      exact J1 _ (by first | rfl | rw [if_pos c3] | simp only [if_pos c3])
    · refine md_aload0 (dd D137_ok 65 rfl) rfl ?_
      refine md_getI (dd D137_ok 66 rfl) pl9_235 (by decide) rfl ?_
      refine md_goto (tgt := 133) (dd D137_ok 67 rfl) (by decide) ?_
      exact J1 _ (by first | rfl | rw [if_neg c3] | simp only [if_neg c3])
  · refine md_iload (dd D137_ok 46 rfl) rfl ?_
    refine md_iconst (v := (-1)) (dd D137_ok 47 rfl) (by decide) ?_
    refine md_icmp_eq (tgt := 110) (dd D137_ok 48 rfl) (by decide) (fun c4 => ?_) (fun c4 => ?_)
    · refine md_aload0 (dd D137_ok 59 rfl) rfl ?_
      refine md_iload_n (dd D137_ok 60 rfl) rfl ?_
      refine md_iconst (v := 1) (dd D137_ok 61 rfl) (by decide) ?_
      refine md_callI (as := [.int x1, .int 1]) (rest := []) (dd D137_ok 62 rfl) pl9_168 rfl (Nat.le_of_ble_eq_true rfl) (ms118 xs) rfl (c_f_of hD ((k.2 c1).1 c4).1 (md_vl (by decide))) rfl ?_
      refine md_iconst (v := 1) (dd D137_ok 63 rfl) (by decide) ?_
      have J2 : ∀ s2 : Int32, s2 = (if ¬ (f_of M x1 1) = 1 then ((M.1 39) - x3) else (M.1 38)) → md_wp xs mo ad h0 (d + 4) Q I137 133 [some (.ref mo), some (.int x1), some (.int x2), some (.int x3), some (.int x4), some (.int x5), o6] [.int s2] M := by
        intro s2 e_s2
        refine md_istore (dd D137_ok 72 rfl) (Nat.le_of_ble_eq_true rfl) ?_
        refine md_aload0 (dd D137_ok 73 rfl) rfl ?_
        refine md_getA (dd D137_ok 74 rfl) pl9_121 (by decide) rfl ?_
        refine md_aload0 (dd D137_ok 75 rfl) rfl ?_
        refine md_getI (dd D137_ok 76 rfl) pl9_244 (by decide) rfl ?_
        refine md_iload (dd D137_ok 77 rfl) rfl ?_
        refine md_iast (f := 47) hD (dd D137_ok 78 rfl) rfl (((k.2 c1).1 c4).2 s2 e_s2).1 ?_
        refine md_nm (fun M9 e9 => ?_)
        refine md_aload0 (dd D137_ok 79 rfl) rfl ?_
        refine md_getA (dd D137_ok 80 rfl) pl9_124 (by decide) rfl ?_
        refine md_aload0 (dd D137_ok 81 rfl) rfl ?_
        refine md_getI (dd D137_ok 82 rfl) pl9_244 (by decide) rfl ?_
        refine md_iload (dd D137_ok 83 rfl) rfl ?_
        refine md_iload_n (dd D137_ok 84 rfl) rfl ?_
        refine md_iadd (dd D137_ok 85 rfl) ?_
        refine md_iast (f := 48) hD (dd D137_ok 86 rfl) rfl ((((k.2 c1).1 c4).2 s2 e_s2).2 M9 e9).1 ?_
        refine md_nm (fun M10 e10 => ?_)
        refine md_aload0 (dd D137_ok 87 rfl) rfl ?_
        refine md_getA (dd D137_ok 88 rfl) pl9_127 (by decide) rfl ?_
        refine md_aload0 (dd D137_ok 89 rfl) rfl ?_
        refine md_getI (dd D137_ok 90 rfl) pl9_244 (by decide) rfl ?_
        refine md_iload (dd D137_ok 91 rfl) rfl ?_
        refine md_iast (f := 49) hD (dd D137_ok 92 rfl) rfl (((((k.2 c1).1 c4).2 s2 e_s2).2 M9 e9).2 M10 e10).1 ?_
        refine md_nm (fun M11 e11 => ?_)
        refine md_aload0 (dd D137_ok 93 rfl) rfl ?_
        refine md_getA (dd D137_ok 94 rfl) pl9_130 (by decide) rfl ?_
        refine md_aload0 (dd D137_ok 95 rfl) rfl ?_
        refine md_getI (dd D137_ok 96 rfl) pl9_244 (by decide) rfl ?_
        refine md_iload (dd D137_ok 97 rfl) rfl ?_
        refine md_aload0 (dd D137_ok 98 rfl) rfl ?_
        refine md_getA (dd D137_ok 99 rfl) pl9_64 (by decide) rfl ?_
        refine md_iload_n (dd D137_ok 100 rfl) rfl ?_
        refine md_iald (f := 18) (dd D137_ok 101 rfl) rfl ((k.2 c1).1 c4).1 ?_
        refine md_iadd (dd D137_ok 102 rfl) ?_
        refine md_iconst (v := 2) (dd D137_ok 103 rfl) (by decide) ?_
        refine md_iload_n (dd D137_ok 104 rfl) rfl ?_
        refine md_imul (dd D137_ok 105 rfl) ?_
        refine md_iadd (dd D137_ok 106 rfl) ?_
        refine md_iast (f := 50) hD (dd D137_ok 107 rfl) rfl ((((((k.2 c1).1 c4).2 s2 e_s2).2 M9 e9).2 M10 e10).2 M11 e11).1 ?_
        refine md_nm (fun M12 e12 => ?_)
        refine md_aload0 (dd D137_ok 108 rfl) rfl ?_
        refine md_getA (dd D137_ok 109 rfl) pl9_133 (by decide) rfl ?_
        refine md_aload0 (dd D137_ok 110 rfl) rfl ?_
        refine md_getI (dd D137_ok 111 rfl) pl9_244 (by decide) rfl ?_
        refine md_aload0 (dd D137_ok 112 rfl) rfl ?_
        refine md_iload_n (dd D137_ok 113 rfl) rfl ?_
        refine md_iconst (v := 1) (dd D137_ok 114 rfl) (by decide) ?_
        refine md_callI (as := [.int x1, .int 1]) (rest := [.int (M12.1 46), .ref (ad 51)]) (dd D137_ok 115 rfl) pl9_168 rfl (Nat.le_of_ble_eq_true rfl) (ms118 xs) rfl (c_f_of hD ((k.2 c1).1 c4).1 (md_vl (by decide))) rfl ?_
        refine md_iast (f := 51) hD (dd D137_ok 116 rfl) rfl (((((((k.2 c1).1 c4).2 s2 e_s2).2 M9 e9).2 M10 e10).2 M11 e11).2 M12 e12).1 ?_
        refine md_nm (fun M13 e13 => ?_)
        refine md_aload0 (dd D137_ok 117 rfl) rfl ?_
        refine md_dup (dd D137_ok 118 rfl) ?_
        refine md_getI (dd D137_ok 119 rfl) pl9_244 (by decide) rfl ?_
        refine md_iconst (v := 1) (dd D137_ok 120 rfl) (by decide) ?_
        refine md_iadd (dd D137_ok 121 rfl) ?_
        refine md_putI hD (dd D137_ok 122 rfl) pl9_244 (by decide) rfl rfl rfl ?_
        refine md_nm (fun M14 e14 => ?_)
        refine md_aload0 (dd D137_ok 123 rfl) rfl ?_
        refine md_getA (dd D137_ok 124 rfl) pl9_55 (by decide) rfl ?_
        refine md_iload_n (dd D137_ok 125 rfl) rfl ?_
        refine md_iload (dd D137_ok 126 rfl) rfl ?_
        refine md_iload_n (dd D137_ok 127 rfl) rfl ?_
        refine md_iadd (dd D137_ok 128 rfl) ?_
        refine md_iast (f := 15) hD (dd D137_ok 129 rfl) rfl ((k.2 c1).1 c4).1 ?_
        refine md_nm (fun M15 e15 => ?_)
        refine md_aload0 (dd D137_ok 130 rfl) rfl ?_
        refine md_getA (dd D137_ok 131 rfl) pl9_58 (by decide) rfl ?_
        refine md_iload_n (dd D137_ok 132 rfl) rfl ?_
        refine md_iload (dd D137_ok 133 rfl) rfl ?_
        refine md_iload_n (dd D137_ok 134 rfl) rfl ?_
        refine md_iadd (dd D137_ok 135 rfl) ?_
        refine md_iast (f := 16) hD (dd D137_ok 136 rfl) rfl ((k.2 c1).1 c4).1 ?_
        refine md_nm (fun M16 e16 => ?_)
        exact md_vret (dd D137_ok 137 rfl) rfl (((((((((((k.2 c1).1 c4).2 s2 e_s2).2 M9 e9).2 M10 e10).2 M11 e11).2 M12 e12).2 M13 e13) M14 e14) M15 e15) M16 e16)
      refine md_icmp_ne (tgt := 127) (dd D137_ok 64 rfl) (by decide) (fun c6 => ?_) (fun c6 => ?_)
      · refine md_aload0 (dd D137_ok 68 rfl) rfl ?_
        refine md_getI (dd D137_ok 69 rfl) pl9_241 (by decide) rfl ?_
        refine md_iload_n (dd D137_ok 70 rfl) rfl ?_
        refine md_isub (dd D137_ok 71 rfl) ?_
        exact J2 _ (by first | rfl | rw [if_pos c6] | simp only [if_pos c6])
      · refine md_aload0 (dd D137_ok 65 rfl) rfl ?_
        refine md_getI (dd D137_ok 66 rfl) pl9_235 (by decide) rfl ?_
        refine md_goto (tgt := 133) (dd D137_ok 67 rfl) (by decide) ?_
        exact J2 _ (by first | rfl | rw [if_neg c6] | simp only [if_neg c6])
    · refine md_iload (dd D137_ok 49 rfl) rfl ?_
      refine md_istore (dd D137_ok 50 rfl) (Nat.le_of_ble_eq_true rfl) ?_
      refine md_aload0 (dd D137_ok 51 rfl) rfl ?_
      refine md_iload (dd D137_ok 52 rfl) rfl ?_
      refine md_callV (as := [.int x5]) (rest := []) (dd D137_ok 53 rfl) pl9_254 rfl (Nat.le_of_ble_eq_true rfl) (ms138 xs) rfl (c_f_edgesAt hD ((k.2 c1).2 c4).1) rfl ?_
      refine md_nm (fun M17 e17 => ?_)
      refine md_aload0 (dd D137_ok 54 rfl) rfl ?_
      refine md_iload (dd D137_ok 55 rfl) rfl ?_
      refine md_callI (as := [.int x5]) (rest := []) (dd D137_ok 56 rfl) pl9_257 rfl (Nat.le_of_ble_eq_true rfl) (ms140 xs) rfl (c_f_leastEnd hD (((k.2 c1).2 c4).2 M17 e17).1) rfl ?_
      refine md_istore (dd D137_ok 57 rfl) (Nat.le_of_ble_eq_true rfl) ?_
      refine md_goto (tgt := 70) (dd D137_ok 58 rfl) (by decide) ?_
      exact (((k.2 c1).2 c4).2 M17 e17).2
set_option maxHeartbeats 1000000 in
theorem vc143_0 {xs : List Int32} {mo : Nat} {ad : Nat → Nat} (hD : md_D mo ad) {h0 : am_H} {d : Nat} {Q : Option Value → md_S → Prop} {M : md_S} 
    (k : ∀ s1 : Int32, s1 = (if ¬ (M.1 43) = 0 then (if ¬ (M.1 43) = 1 then (f_more 0 ((M.1 39) - (M.1 40))) else ((f_more 0 ((M.1 39) - (M.1 40))) / 2)) else 0) → (md_wp xs mo ad h0 (d + 6) Q I143 43 [some (.ref mo), some (.int (f_more 0 ((M.1 39) - (M.1 40)))), some (.int s1), some (.int 0), none, none] [] M)) :
    md_wp xs mo ad h0 (d + 6) Q I143 0 [some (.ref mo), none, none, none, none, none] [] M := by
  refine md_iconst (v := 0) (dd D143_ok 0 rfl) (by decide) ?_
  refine md_aload0 (dd D143_ok 1 rfl) rfl ?_
  refine md_getI (dd D143_ok 2 rfl) pl9_241 (by decide) rfl ?_
  refine md_aload0 (dd D143_ok 3 rfl) rfl ?_
  refine md_getI (dd D143_ok 4 rfl) pl9_260 (by decide) rfl ?_
  refine md_isub (dd D143_ok 5 rfl) ?_
  refine md_callS (as := [.int 0, .int ((M.1 39) - (M.1 40))]) (rest := []) (dd D143_ok 6 rfl) pl9_175 rfl (Nat.le_of_ble_eq_true rfl) (c_f_more ) rfl ?_
  refine md_istore_n (dd D143_ok 7 rfl) (Nat.le_of_ble_eq_true rfl) ?_
  refine md_aload0 (dd D143_ok 8 rfl) rfl ?_
  refine md_getI (dd D143_ok 9 rfl) pl9_263 (by decide) rfl ?_
  have J1 : ∀ s1 : Int32, s1 = (if ¬ (M.1 43) = 0 then (if ¬ (M.1 43) = 1 then (f_more 0 ((M.1 39) - (M.1 40))) else ((f_more 0 ((M.1 39) - (M.1 40))) / 2)) else 0) → md_wp xs mo ad h0 (d + 6) Q I143 40 [some (.ref mo), some (.int (f_more 0 ((M.1 39) - (M.1 40)))), none, none, none, none] [.int s1] M := by
    intro s1 e_s1
    refine md_istore_n (dd D143_ok 22 rfl) (Nat.le_of_ble_eq_true rfl) ?_
    refine md_iconst (v := 0) (dd D143_ok 23 rfl) (by decide) ?_
    refine md_istore_n (dd D143_ok 24 rfl) (Nat.le_of_ble_eq_true rfl) ?_
    exact (k s1 e_s1)
  refine md_if_ne (tgt := 25) (dd D143_ok 10 rfl) (by decide) (fun c2 => ?_) (fun c2 => ?_)
  · refine md_aload0 (dd D143_ok 13 rfl) rfl ?_
    refine md_getI (dd D143_ok 14 rfl) pl9_263 (by decide) rfl ?_
    refine md_iconst (v := 1) (dd D143_ok 15 rfl) (by decide) ?_
    refine md_icmp_ne (tgt := 39) (dd D143_ok 16 rfl) (by decide) (fun c3 => ?_) (fun c3 => ?_)
    · refine md_iload_n (dd D143_ok 21 rfl) rfl ?_
      exact J1 _ (by first | rfl | rw [if_pos c2, if_pos c3] | simp only [if_pos c2, if_pos c3])
    · refine md_iload_n (dd D143_ok 17 rfl) rfl ?_
      refine md_iconst (v := 2) (dd D143_ok 18 rfl) (by decide) ?_
      refine md_idiv (dd D143_ok 19 rfl) (by decide) ?_
      refine md_goto (tgt := 40) (dd D143_ok 20 rfl) (by decide) ?_
      exact J1 _ (by first | rfl | rw [if_pos c2, if_neg c3] | simp only [if_pos c2, if_neg c3])
  · refine md_iconst (v := 0) (dd D143_ok 11 rfl) (by decide) ?_
    refine md_goto (tgt := 40) (dd D143_ok 12 rfl) (by decide) ?_
    exact J1 _ (by first | rfl | rw [if_neg c2] | simp only [if_neg c2])
set_option maxHeartbeats 1000000 in
theorem vc143_43 {xs : List Int32} {mo : Nat} {ad : Nat → Nat} (hD : md_D mo ad) {h0 : am_H} {d : Nat} {Q : Option Value → md_S → Prop} {M : md_S} {x1 : Int32} {x2 : Int32} {x3 : Int32} {o4 : Option Value} {o5 : Option Value}
    (k : (((M.1 41) ≤ x3) → ∀ M1 : md_S, M1 = md_up1 M 37 ((M.1 37) + (M.1 42)) → (∀ M2 : md_S, M2 = md_up1 M1 41 0 → (∀ M3 : md_S, M3 = md_up1 M2 42 0 → (∀ M4 : md_S, M4 = md_up1 M3 54 0 → (md_wp xs mo ad h0 (d + 6) Q I143 173 [some (.ref mo), some (.int x1), some (.int x2), some (.int 0), o4, o5] [] M4))))) ∧ (¬ ((M.1 41) ≤ x3) → (vp_in x3 3700) ∧ ((¬ (0 ≤ (M.2 44 x3.toNatClampNeg)) → vp_in ((-1) - (M.2 44 x3.toNatClampNeg)) 60) ∧ (((0 ≤ (M.2 44 x3.toNatClampNeg)) → vp_in (M.2 44 x3.toNatClampNeg) 3700) ∧ (((0 ≤ (M.2 44 x3.toNatClampNeg)) → vp_in (M.2 30 (M.2 44 x3.toNatClampNeg).toNatClampNeg) 60) ∧ ((((0 ≤ (M.2 44 x3.toNatClampNeg)) → (vp_in (M.2 44 x3.toNatClampNeg) 3700) ∧ (True)) ∧ (¬ (0 ≤ (M.2 44 x3.toNatClampNeg)) → (vp_in ((-1) - (M.2 44 x3.toNatClampNeg)) 60) ∧ (True))) ∧ (∀ M_1 : md_S, M_1 = (if 0 ≤ (M.2 44 x3.toNatClampNeg) then (md_up2 (md_up2 M 33 (M.2 44 x3.toNatClampNeg).toNatClampNeg ((M.2 45 x3.toNatClampNeg) + x2)) 34 (M.2 44 x3.toNatClampNeg).toNatClampNeg (((M.1 37) + (M.1 42)) - (f_itemHigh M (M.2 44 x3.toNatClampNeg)))) else (md_up2 (md_up2 M 15 ((-1) - (M.2 44 x3.toNatClampNeg)).toNatClampNeg ((M.2 45 x3.toNatClampNeg) + x2)) 16 ((-1) - (M.2 44 x3.toNatClampNeg)).toNatClampNeg (((M.1 37) + (M.1 42)) - (f_itemHigh M (M.2 44 x3.toNatClampNeg))))) → (md_wp xs mo ad h0 (d + 6) Q I143 43 [some (.ref mo), some (.int x1), some (.int x2), some (.int (x3 + 1)), some (.int (M.2 44 x3.toNatClampNeg)), some (.int (((M.1 37) + (M.1 42)) - (f_itemHigh M (M.2 44 x3.toNatClampNeg))))] [] M_1)))))))) :
    md_wp xs mo ad h0 (d + 6) Q I143 43 [some (.ref mo), some (.int x1), some (.int x2), some (.int x3), o4, o5] [] M := by
  refine md_iload_n (dd D143_ok 25 rfl) rfl ?_
  refine md_aload0 (dd D143_ok 26 rfl) rfl ?_
  refine md_getI (dd D143_ok 27 rfl) pl9_266 (by decide) rfl ?_
  refine md_icmp_ge (tgt := 143) (dd D143_ok 28 rfl) (by decide) (fun c1 => ?_) (fun c1 => ?_)
  · refine md_aload0 (dd D143_ok 83 rfl) rfl ?_
    refine md_dup (dd D143_ok 84 rfl) ?_
    refine md_getI (dd D143_ok 85 rfl) pl9_251 (by decide) rfl ?_
    refine md_aload0 (dd D143_ok 86 rfl) rfl ?_
    refine md_getI (dd D143_ok 87 rfl) pl9_269 (by decide) rfl ?_
    refine md_iadd (dd D143_ok 88 rfl) ?_
    refine md_putI hD (dd D143_ok 89 rfl) pl9_251 (by decide) rfl rfl rfl ?_
    refine md_nm (fun M1 e1 => ?_)
    refine md_aload0 (dd D143_ok 90 rfl) rfl ?_
    refine md_iconst (v := 0) (dd D143_ok 91 rfl) (by decide) ?_
    refine md_putI hD (dd D143_ok 92 rfl) pl9_266 (by decide) rfl rfl rfl ?_
    refine md_nm (fun M2 e2 => ?_)
    refine md_aload0 (dd D143_ok 93 rfl) rfl ?_
    refine md_iconst (v := 0) (dd D143_ok 94 rfl) (by decide) ?_
    refine md_putI hD (dd D143_ok 95 rfl) pl9_269 (by decide) rfl rfl rfl ?_
    refine md_nm (fun M3 e3 => ?_)
    refine md_aload0 (dd D143_ok 96 rfl) rfl ?_
    refine md_iconst (v := 0) (dd D143_ok 97 rfl) (by decide) ?_
    refine md_putI hD (dd D143_ok 98 rfl) pl9_275 (by decide) rfl rfl rfl ?_
    refine md_nm (fun M4 e4 => ?_)
    refine md_iconst (v := 0) (dd D143_ok 99 rfl) (by decide) ?_
    refine md_istore_n (dd D143_ok 100 rfl) (Nat.le_of_ble_eq_true rfl) ?_
    exact (((((k.1 c1) M1 e1) M2 e2) M3 e3) M4 e4)
  · refine md_aload0 (dd D143_ok 29 rfl) rfl ?_
    refine md_getA (dd D143_ok 30 rfl) pl9_115 (by decide) rfl ?_
    refine md_iload_n (dd D143_ok 31 rfl) rfl ?_
    refine md_iald (f := 44) (dd D143_ok 32 rfl) rfl (k.2 c1).1 ?_
    refine md_istore (dd D143_ok 33 rfl) (Nat.le_of_ble_eq_true rfl) ?_
    refine md_aload0 (dd D143_ok 34 rfl) rfl ?_
    refine md_getI (dd D143_ok 35 rfl) pl9_251 (by decide) rfl ?_
    refine md_aload0 (dd D143_ok 36 rfl) rfl ?_
    refine md_getI (dd D143_ok 37 rfl) pl9_269 (by decide) rfl ?_
    refine md_iadd (dd D143_ok 38 rfl) ?_
    refine md_aload0 (dd D143_ok 39 rfl) rfl ?_
    refine md_iload (dd D143_ok 40 rfl) rfl ?_
    refine md_callI (as := [.int (M.2 44 x3.toNatClampNeg)]) (rest := [.int ((M.1 37) + (M.1 42))]) (dd D143_ok 41 rfl) pl9_272 rfl (Nat.le_of_ble_eq_true rfl) (ms142 xs) rfl (c_f_itemHigh hD (k.2 c1).2.1 (k.2 c1).2.2.1 (k.2 c1).2.2.2.1) rfl ?_
    refine md_isub (dd D143_ok 42 rfl) ?_
    refine md_istore (dd D143_ok 43 rfl) (Nat.le_of_ble_eq_true rfl) ?_
    refine md_iload (dd D143_ok 44 rfl) rfl ?_
    have J1 : ∀ M_1 : md_S, M_1 = (if 0 ≤ (M.2 44 x3.toNatClampNeg) then (md_up2 (md_up2 M 33 (M.2 44 x3.toNatClampNeg).toNatClampNeg ((M.2 45 x3.toNatClampNeg) + x2)) 34 (M.2 44 x3.toNatClampNeg).toNatClampNeg (((M.1 37) + (M.1 42)) - (f_itemHigh M (M.2 44 x3.toNatClampNeg)))) else (md_up2 (md_up2 M 15 ((-1) - (M.2 44 x3.toNatClampNeg)).toNatClampNeg ((M.2 45 x3.toNatClampNeg) + x2)) 16 ((-1) - (M.2 44 x3.toNatClampNeg)).toNatClampNeg (((M.1 37) + (M.1 42)) - (f_itemHigh M (M.2 44 x3.toNatClampNeg))))) → md_wp xs mo ad h0 (d + 6) Q I143 137 [some (.ref mo), some (.int x1), some (.int x2), some (.int x3), some (.int (M.2 44 x3.toNatClampNeg)), some (.int (((M.1 37) + (M.1 42)) - (f_itemHigh M (M.2 44 x3.toNatClampNeg))))] [] M_1 := by
      intro M_1 e_M_1
      refine md_iinc (v := x3 + 1) (dd D143_ok 81 rfl) rfl rfl ?_
      refine md_goto (tgt := 43) (dd D143_ok 82 rfl) (by decide) ?_
      exact ((k.2 c1).2.2.2.2.2 M_1 e_M_1)
    refine md_if_ge (tgt := 113) (dd D143_ok 45 rfl) (by decide) (fun c3 => ?_) (fun c3 => ?_)
    · refine md_aload0 (dd D143_ok 66 rfl) rfl ?_
      refine md_getA (dd D143_ok 67 rfl) pl9_103 (by decide) rfl ?_
      refine md_iload (dd D143_ok 68 rfl) rfl ?_
      refine md_aload0 (dd D143_ok 69 rfl) rfl ?_
      refine md_getA (dd D143_ok 70 rfl) pl9_118 (by decide) rfl ?_
      refine md_iload_n (dd D143_ok 71 rfl) rfl ?_
      refine md_iald (f := 45) (dd D143_ok 72 rfl) rfl (k.2 c1).1 ?_
      refine md_iload_n (dd D143_ok 73 rfl) rfl ?_
      refine md_iadd (dd D143_ok 74 rfl) ?_
      refine md_iast (f := 33) hD (dd D143_ok 75 rfl) rfl ((k.2 c1).2.2.2.2.1.1 c3).1 ?_
      refine md_aload0 (dd D143_ok 76 rfl) rfl ?_
      refine md_getA (dd D143_ok 77 rfl) pl9_106 (by decide) rfl ?_
      refine md_iload (dd D143_ok 78 rfl) rfl ?_
      refine md_iload (dd D143_ok 79 rfl) rfl ?_
      refine md_iast (f := 34) hD (dd D143_ok 80 rfl) rfl ((k.2 c1).2.2.2.2.1.1 c3).1 ?_
      exact J1 _ (by first | rfl | rw [if_pos c3] | simp only [if_pos c3])
    · refine md_aload0 (dd D143_ok 46 rfl) rfl ?_
      refine md_getA (dd D143_ok 47 rfl) pl9_55 (by decide) rfl ?_
      refine md_iconst (v := (-1)) (dd D143_ok 48 rfl) (by decide) ?_
      refine md_iload (dd D143_ok 49 rfl) rfl ?_
      refine md_isub (dd D143_ok 50 rfl) ?_
      refine md_aload0 (dd D143_ok 51 rfl) rfl ?_
      refine md_getA (dd D143_ok 52 rfl) pl9_118 (by decide) rfl ?_
      refine md_iload_n (dd D143_ok 53 rfl) rfl ?_
      refine md_iald (f := 45) (dd D143_ok 54 rfl) rfl (k.2 c1).1 ?_
      refine md_iload_n (dd D143_ok 55 rfl) rfl ?_
      refine md_iadd (dd D143_ok 56 rfl) ?_
      refine md_iast (f := 15) hD (dd D143_ok 57 rfl) rfl ((k.2 c1).2.2.2.2.1.2 c3).1 ?_
      refine md_aload0 (dd D143_ok 58 rfl) rfl ?_
      refine md_getA (dd D143_ok 59 rfl) pl9_58 (by decide) rfl ?_
      refine md_iconst (v := (-1)) (dd D143_ok 60 rfl) (by decide) ?_
      refine md_iload (dd D143_ok 61 rfl) rfl ?_
      refine md_isub (dd D143_ok 62 rfl) ?_
      refine md_iload (dd D143_ok 63 rfl) rfl ?_
      refine md_iast (f := 16) hD (dd D143_ok 64 rfl) rfl ((k.2 c1).2.2.2.2.1.2 c3).1 ?_
      refine md_goto (tgt := 137) (dd D143_ok 65 rfl) (by decide) ?_
      exact J1 _ (by first | rfl | rw [if_neg c3] | simp only [if_neg c3])
set_option maxHeartbeats 1000000 in
theorem vc143_173 {xs : List Int32} {mo : Nat} {ad : Nat → Nat} (hD : md_D mo ad) {h0 : am_H} {d : Nat} {Q : Option Value → md_S → Prop} {M : md_S} {x1 : Int32} {x2 : Int32} {x3 : Int32} {o4 : Option Value} {o5 : Option Value}
    (k : (((M.1 53) ≤ x3) → ∀ M1 : md_S, M1 = md_up1 M 53 0 → (Q none M1)) ∧ (¬ ((M.1 53) ≤ x3) → (vp_in x3 60) ∧ (md_C xs mo ad (d + 6) 137 [.int (M.2 52 x3.toNatClampNeg)] M (fun v N1 => v = none ∧ (md_wp xs mo ad h0 (d + 6) Q I143 173 [some (.ref mo), some (.int x1), some (.int x2), some (.int (x3 + 1)), o4, o5] [] N1))))) :
    md_wp xs mo ad h0 (d + 6) Q I143 173 [some (.ref mo), some (.int x1), some (.int x2), some (.int x3), o4, o5] [] M := by
  refine md_iload_n (dd D143_ok 101 rfl) rfl ?_
  refine md_aload0 (dd D143_ok 102 rfl) rfl ?_
  refine md_getI (dd D143_ok 103 rfl) pl9_279 (by decide) rfl ?_
  refine md_icmp_ge (tgt := 197) (dd D143_ok 104 rfl) (by decide) (fun c1 => ?_) (fun c1 => ?_)
  · refine md_aload0 (dd D143_ok 113 rfl) rfl ?_
    refine md_iconst (v := 0) (dd D143_ok 114 rfl) (by decide) ?_
    refine md_putI hD (dd D143_ok 115 rfl) pl9_279 (by decide) rfl rfl rfl ?_
    refine md_nm (fun M1 e1 => ?_)
    exact md_vret (dd D143_ok 116 rfl) rfl ((k.1 c1) M1 e1)
  · refine md_aload0 (dd D143_ok 105 rfl) rfl ?_
    refine md_aload0 (dd D143_ok 106 rfl) rfl ?_
    refine md_getA (dd D143_ok 107 rfl) pl9_136 (by decide) rfl ?_
    refine md_iload_n (dd D143_ok 108 rfl) rfl ?_
    refine md_iald (f := 52) (dd D143_ok 109 rfl) rfl (k.2 c1).1 ?_
    refine md_call (as := [.int (M.2 52 x3.toNatClampNeg)]) (rest := []) (dd D143_ok 110 rfl) pl9_282 rfl (Nat.le_of_ble_eq_true rfl) (ms137 xs) rfl (((k.2 c1).2).mono ?_) rfl
    rintro v N1 ⟨rfl, w1⟩
    refine md_iinc (v := x3 + 1) (dd D143_ok 111 rfl) rfl rfl ?_
    refine md_goto (tgt := 173) (dd D143_ok 112 rfl) (by decide) ?_
    exact w1
set_option maxHeartbeats 1000000 in
theorem vc141_0 {xs : List Int32} {mo : Nat} {ad : Nat → Nat} (hD : md_D mo ad) {h0 : am_H} {d : Nat} {Q : Option Value → md_S → Prop} {M : md_S} {x1 : Int32} {x2 : Int32} {x3 : Int32}
    (k : md_wp xs mo ad h0 (d + 7) Q I141 3 [some (.ref mo), some (.int x1), some (.int x2), some (.int x3), some (.int 0), none, none] [] M) :
    md_wp xs mo ad h0 (d + 7) Q I141 0 [some (.ref mo), some (.int x1), some (.int x2), some (.int x3), none, none, none] [] M := by
  refine md_iconst (v := 0) (dd D141_ok 0 rfl) (by decide) ?_
  refine md_istore (dd D141_ok 1 rfl) (Nat.le_of_ble_eq_true rfl) ?_
  exact k
set_option maxHeartbeats 1000000 in
theorem vc141_3 {xs : List Int32} {mo : Nat} {ad : Nat → Nat} (hD : md_D mo ad) {h0 : am_H} {d : Nat} {Q : Option Value → md_S → Prop} {M : md_S} {x1 : Int32} {x2 : Int32} {x3 : Int32} {x4 : Int32} {o5 : Option Value} {o6 : Option Value}
    (k : ((¬ x4 = 0) → ∀ M1 : md_S, M1 = md_up1 M 54 0 → (Q none M1)) ∧ (¬ (¬ x4 = 0) → (((¬ (M.1 41) = 0) → True) ∧ (¬ (¬ (M.1 41) = 0) → (vp_in (M.1 46) 61) ∧ (True))) ∧ (∀ M_1 : md_S, M_1 = (if ¬ (M.1 41) = 0 then M else (md_up1 (f_edgesAt_M M (M.1 37)) 40 ((f_edgesAt_M M (M.1 37)).1 38))) → (∀ s2 : Int32, s2 = (if (M_1.1 41) ≤ 0 then 0 else (if (M_1.1 54) = 0 then 0 else (3 * x3))) → (((((M_1.1 41) ≤ 0) → (vp_in (M_1.1 46) 61) ∧ (True)) ∧ (¬ ((M_1.1 41) ≤ 0) → True)) ∧ (∀ s3 : Int32, s3 = (if (M_1.1 41) ≤ 0 then (f_leastEnd M_1 (M_1.1 37)) else (-1)) → ((((((M_1.1 40) + s2) + x2) ≤ (M_1.1 39)) → (vp_in (M_1.1 41) 3700) ∧ (∀ M2 : md_S, M2 = md_up2 M_1 44 (M_1.1 41).toNatClampNeg x1 → ((vp_in (M2.1 41) 3700) ∧ (∀ M3 : md_S, M3 = md_up2 M2 45 (M2.1 41).toNatClampNeg ((M_1.1 40) + s2) → (∀ M4 : md_S, M4 = md_up1 M3 41 ((M3.1 41) + 1) → (∀ M5 : md_S, M5 = md_up1 M4 40 (((M_1.1 40) + s2) + x2) → ((¬ (0 ≤ x1) → vp_in ((-1) - x1) 60) ∧ (((0 ≤ x1) → vp_in x1 3700) ∧ (((0 ≤ x1) → vp_in (M5.2 30 x1.toNatClampNeg) 60) ∧ (∀ M6 : md_S, M6 = md_up1 M5 42 (f_more (M5.1 42) (f_itemHigh M5 x1)) → (md_wp xs mo ad h0 (d + 7) Q I141 3 [some (.ref mo), some (.int x1), some (.int x2), some (.int x3), some (.int 1), some (.int ((M_1.1 40) + s2)), some (.int s3)] [] M6))))))))))) ∧ (¬ ((((M_1.1 40) + s2) + x2) ≤ (M_1.1 39)) → ((¬ (M_1.1 41) = 0) → (((M_1.1 41) ≤ 0) → ∀ M7 : md_S, M7 = md_up1 M_1 37 s3 → (md_wp xs mo ad h0 (d + 7) Q I141 3 [some (.ref mo), some (.int x1), some (.int x2), some (.int x3), some (.int x4), some (.int ((M_1.1 40) + s2)), some (.int s3)] [] M7)) ∧ (¬ ((M_1.1 41) ≤ 0) → md_C xs mo ad (d + 7) 143 [] M_1 (fun v N4 => v = none ∧ (md_wp xs mo ad h0 (d + 7) Q I141 3 [some (.ref mo), some (.int x1), some (.int x2), some (.int x3), some (.int x4), some (.int ((M_1.1 40) + s2)), some (.int s3)] [] N4)))) ∧ (¬ (¬ (M_1.1 41) = 0) → ((¬ s3 = (-1)) → (((M_1.1 41) ≤ 0) → ∀ M8 : md_S, M8 = md_up1 M_1 37 s3 → (md_wp xs mo ad h0 (d + 7) Q I141 3 [some (.ref mo), some (.int x1), some (.int x2), some (.int x3), some (.int x4), some (.int ((M_1.1 40) + s2)), some (.int s3)] [] M8)) ∧ (¬ ((M_1.1 41) ≤ 0) → md_C xs mo ad (d + 7) 143 [] M_1 (fun v N5 => v = none ∧ (md_wp xs mo ad h0 (d + 7) Q I141 3 [some (.ref mo), some (.int x1), some (.int x2), some (.int x3), some (.int x4), some (.int ((M_1.1 40) + s2)), some (.int s3)] [] N5)))) ∧ (¬ (¬ s3 = (-1)) → (vp_in (M_1.1 41) 3700) ∧ (∀ M9 : md_S, M9 = md_up2 M_1 44 (M_1.1 41).toNatClampNeg x1 → ((vp_in (M9.1 41) 3700) ∧ (∀ M10 : md_S, M10 = md_up2 M9 45 (M9.1 41).toNatClampNeg ((M_1.1 40) + s2) → (∀ M11 : md_S, M11 = md_up1 M10 41 ((M10.1 41) + 1) → (∀ M12 : md_S, M12 = md_up1 M11 40 (((M_1.1 40) + s2) + x2) → ((¬ (0 ≤ x1) → vp_in ((-1) - x1) 60) ∧ (((0 ≤ x1) → vp_in x1 3700) ∧ (((0 ≤ x1) → vp_in (M12.2 30 x1.toNatClampNeg) 60) ∧ (∀ M13 : md_S, M13 = md_up1 M12 42 (f_more (M12.1 42) (f_itemHigh M12 x1)) → (md_wp xs mo ad h0 (d + 7) Q I141 3 [some (.ref mo), some (.int x1), some (.int x2), some (.int x3), some (.int 1), some (.int ((M_1.1 40) + s2)), some (.int s3)] [] M13)))))))))))))))))))) :
    md_wp xs mo ad h0 (d + 7) Q I141 3 [some (.ref mo), some (.int x1), some (.int x2), some (.int x3), some (.int x4), o5, o6] [] M := by
  refine md_iload (dd D141_ok 2 rfl) rfl ?_
  refine md_if_ne (tgt := 188) (dd D141_ok 3 rfl) (by decide) (fun c1 => ?_) (fun c1 => ?_)
  · refine md_aload0 (dd D141_ok 96 rfl) rfl ?_
    refine md_iconst (v := 0) (dd D141_ok 97 rfl) (by decide) ?_
    refine md_putI hD (dd D141_ok 98 rfl) pl9_275 (by decide) rfl rfl rfl ?_
    refine md_nm (fun M1 e1 => ?_)
    exact md_vret (dd D141_ok 99 rfl) rfl ((k.1 c1) M1 e1)
  · refine md_aload0 (dd D141_ok 4 rfl) rfl ?_
    refine md_getI (dd D141_ok 5 rfl) pl9_266 (by decide) rfl ?_
    have J1 : ∀ M_1 : md_S, M_1 = (if ¬ (M.1 41) = 0 then M else (md_up1 (f_edgesAt_M M (M.1 37)) 40 ((f_edgesAt_M M (M.1 37)).1 38))) → md_wp xs mo ad h0 (d + 7) Q I141 31 [some (.ref mo), some (.int x1), some (.int x2), some (.int x3), some (.int x4), o5, o6] [] M_1 := by
      intro M_1 e_M_1
      refine md_aload0 (dd D141_ok 15 rfl) rfl ?_
      refine md_getI (dd D141_ok 16 rfl) pl9_260 (by decide) rfl ?_
      refine md_aload0 (dd D141_ok 17 rfl) rfl ?_
      refine md_getI (dd D141_ok 18 rfl) pl9_266 (by decide) rfl ?_
      have J2 : ∀ s2 : Int32, s2 = (if (M_1.1 41) ≤ 0 then 0 else (if (M_1.1 54) = 0 then 0 else (3 * x3))) → md_wp xs mo ad h0 (d + 7) Q I141 56 [some (.ref mo), some (.int x1), some (.int x2), some (.int x3), some (.int x4), o5, o6] [.int s2, .int (M_1.1 40)] M_1 := by
        intro s2 e_s2
        refine md_iadd (dd D141_ok 28 rfl) ?_
        refine md_istore (dd D141_ok 29 rfl) (Nat.le_of_ble_eq_true rfl) ?_
        refine md_aload0 (dd D141_ok 30 rfl) rfl ?_
        refine md_getI (dd D141_ok 31 rfl) pl9_266 (by decide) rfl ?_
        have J3 : ∀ s3 : Int32, s3 = (if (M_1.1 41) ≤ 0 then (f_leastEnd M_1 (M_1.1 37)) else (-1)) → md_wp xs mo ad h0 (d + 7) Q I141 78 [some (.ref mo), some (.int x1), some (.int x2), some (.int x3), some (.int x4), some (.int ((M_1.1 40) + s2)), o6] [.int s3] M_1 := by
          intro s3 e_s3
          refine md_istore (dd D141_ok 39 rfl) (Nat.le_of_ble_eq_true rfl) ?_
          refine md_iload (dd D141_ok 40 rfl) rfl ?_
          refine md_iload_n (dd D141_ok 41 rfl) rfl ?_
          refine md_iadd (dd D141_ok 42 rfl) ?_
          refine md_aload0 (dd D141_ok 43 rfl) rfl ?_
          refine md_getI (dd D141_ok 44 rfl) pl9_241 (by decide) rfl ?_
          refine md_icmp_le (tgt := 104) (dd D141_ok 45 rfl) (by decide) (fun c5 => ?_) (fun c5 => ?_)
          · refine md_aload0 (dd D141_ok 52 rfl) rfl ?_
            refine md_getA (dd D141_ok 53 rfl) pl9_115 (by decide) rfl ?_
            refine md_aload0 (dd D141_ok 54 rfl) rfl ?_
            refine md_getI (dd D141_ok 55 rfl) pl9_266 (by decide) rfl ?_
            refine md_iload_n (dd D141_ok 56 rfl) rfl ?_
            refine md_iast (f := 44) hD (dd D141_ok 57 rfl) rfl (((((k.2 c1).2 M_1 e_M_1) s2 e_s2).2 s3 e_s3).1 c5).1 ?_
            refine md_nm (fun M2 e2 => ?_)
            refine md_aload0 (dd D141_ok 58 rfl) rfl ?_
            refine md_getA (dd D141_ok 59 rfl) pl9_118 (by decide) rfl ?_
            refine md_aload0 (dd D141_ok 60 rfl) rfl ?_
            refine md_getI (dd D141_ok 61 rfl) pl9_266 (by decide) rfl ?_
            refine md_iload (dd D141_ok 62 rfl) rfl ?_
            refine md_iast (f := 45) hD (dd D141_ok 63 rfl) rfl ((((((k.2 c1).2 M_1 e_M_1) s2 e_s2).2 s3 e_s3).1 c5).2 M2 e2).1 ?_
            refine md_nm (fun M3 e3 => ?_)
            refine md_aload0 (dd D141_ok 64 rfl) rfl ?_
            refine md_dup (dd D141_ok 65 rfl) ?_
            refine md_getI (dd D141_ok 66 rfl) pl9_266 (by decide) rfl ?_
            refine md_iconst (v := 1) (dd D141_ok 67 rfl) (by decide) ?_
            refine md_iadd (dd D141_ok 68 rfl) ?_
            refine md_putI hD (dd D141_ok 69 rfl) pl9_266 (by decide) rfl rfl rfl ?_
            refine md_nm (fun M4 e4 => ?_)
            refine md_aload0 (dd D141_ok 70 rfl) rfl ?_
            refine md_iload (dd D141_ok 71 rfl) rfl ?_
            refine md_iload_n (dd D141_ok 72 rfl) rfl ?_
            refine md_iadd (dd D141_ok 73 rfl) ?_
            refine md_putI hD (dd D141_ok 74 rfl) pl9_260 (by decide) rfl rfl rfl ?_
            refine md_nm (fun M5 e5 => ?_)
            refine md_aload0 (dd D141_ok 75 rfl) rfl ?_
            refine md_aload0 (dd D141_ok 76 rfl) rfl ?_
            refine md_getI (dd D141_ok 77 rfl) pl9_269 (by decide) rfl ?_
            refine md_aload0 (dd D141_ok 78 rfl) rfl ?_
            refine md_iload_n (dd D141_ok 79 rfl) rfl ?_
            refine md_callI (as := [.int x1]) (rest := [.int (M5.1 42), .ref mo]) (dd D141_ok 80 rfl) pl9_272 rfl (Nat.le_of_ble_eq_true rfl) (ms142 xs) rfl (c_f_itemHigh hD (((((((((k.2 c1).2 M_1 e_M_1) s2 e_s2).2 s3 e_s3).1 c5).2 M2 e2).2 M3 e3) M4 e4) M5 e5).1 (((((((((k.2 c1).2 M_1 e_M_1) s2 e_s2).2 s3 e_s3).1 c5).2 M2 e2).2 M3 e3) M4 e4) M5 e5).2.1 (((((((((k.2 c1).2 M_1 e_M_1) s2 e_s2).2 s3 e_s3).1 c5).2 M2 e2).2 M3 e3) M4 e4) M5 e5).2.2.1) rfl ?_
            refine md_callS (as := [.int (M5.1 42), .int (f_itemHigh M5 x1)]) (rest := [.ref mo]) (dd D141_ok 81 rfl) pl9_175 rfl (Nat.le_of_ble_eq_true rfl) (c_f_more ) rfl ?_
            refine md_putI hD (dd D141_ok 82 rfl) pl9_269 (by decide) rfl rfl rfl ?_
            refine md_nm (fun M6 e6 => ?_)
            refine md_iconst (v := 1) (dd D141_ok 83 rfl) (by decide) ?_
            refine md_istore (dd D141_ok 84 rfl) (Nat.le_of_ble_eq_true rfl) ?_
            refine md_goto (tgt := 185) (dd D141_ok 85 rfl) (by decide) ?_
            refine md_goto (tgt := 3) (dd D141_ok 95 rfl) (by decide) ?_
            exact ((((((((((k.2 c1).2 M_1 e_M_1) s2 e_s2).2 s3 e_s3).1 c5).2 M2 e2).2 M3 e3) M4 e4) M5 e5).2.2.2 M6 e6)
          · refine md_aload0 (dd D141_ok 46 rfl) rfl ?_
            refine md_getI (dd D141_ok 47 rfl) pl9_266 (by decide) rfl ?_
            refine md_if_ne (tgt := 165) (dd D141_ok 48 rfl) (by decide) (fun c6 => ?_) (fun c6 => ?_)
            · refine md_aload0 (dd D141_ok 86 rfl) rfl ?_
              refine md_getI (dd D141_ok 87 rfl) pl9_266 (by decide) rfl ?_
              refine md_if_le (tgt := 179) (dd D141_ok 88 rfl) (by decide) (fun c7 => ?_) (fun c7 => ?_)
              · refine md_aload0 (dd D141_ok 92 rfl) rfl ?_
                refine md_iload (dd D141_ok 93 rfl) rfl ?_
                refine md_putI hD (dd D141_ok 94 rfl) pl9_251 (by decide) rfl rfl rfl ?_
                refine md_nm (fun M7 e7 => ?_)
                refine md_goto (tgt := 3) (dd D141_ok 95 rfl) (by decide) ?_
                exact ((((((((k.2 c1).2 M_1 e_M_1) s2 e_s2).2 s3 e_s3).2 c5).1 c6).1 c7) M7 e7)
              · refine md_aload0 (dd D141_ok 89 rfl) rfl ?_
                refine md_call (as := []) (rest := []) (dd D141_ok 90 rfl) pl9_285 rfl (Nat.le_of_ble_eq_true rfl) (ms143 xs) rfl (((((((((k.2 c1).2 M_1 e_M_1) s2 e_s2).2 s3 e_s3).2 c5).1 c6).2 c7)).mono ?_) rfl
                rintro v N4 ⟨rfl, w4⟩
                refine md_goto (tgt := 185) (dd D141_ok 91 rfl) (by decide) ?_
                refine md_goto (tgt := 3) (dd D141_ok 95 rfl) (by decide) ?_
                exact w4
            · refine md_iload (dd D141_ok 49 rfl) rfl ?_
              refine md_iconst (v := (-1)) (dd D141_ok 50 rfl) (by decide) ?_
              refine md_icmp_ne (tgt := 165) (dd D141_ok 51 rfl) (by decide) (fun c8 => ?_) (fun c8 => ?_)
              · refine md_aload0 (dd D141_ok 86 rfl) rfl ?_
                refine md_getI (dd D141_ok 87 rfl) pl9_266 (by decide) rfl ?_
                refine md_if_le (tgt := 179) (dd D141_ok 88 rfl) (by decide) (fun c9 => ?_) (fun c9 => ?_)
                · refine md_aload0 (dd D141_ok 92 rfl) rfl ?_
                  refine md_iload (dd D141_ok 93 rfl) rfl ?_
                  refine md_putI hD (dd D141_ok 94 rfl) pl9_251 (by decide) rfl rfl rfl ?_
                  refine md_nm (fun M8 e8 => ?_)
                  refine md_goto (tgt := 3) (dd D141_ok 95 rfl) (by decide) ?_
                  exact (((((((((k.2 c1).2 M_1 e_M_1) s2 e_s2).2 s3 e_s3).2 c5).2 c6).1 c8).1 c9) M8 e8)
                · refine md_aload0 (dd D141_ok 89 rfl) rfl ?_
                  refine md_call (as := []) (rest := []) (dd D141_ok 90 rfl) pl9_285 rfl (Nat.le_of_ble_eq_true rfl) (ms143 xs) rfl ((((((((((k.2 c1).2 M_1 e_M_1) s2 e_s2).2 s3 e_s3).2 c5).2 c6).1 c8).2 c9)).mono ?_) rfl
                  rintro v N5 ⟨rfl, w5⟩
                  refine md_goto (tgt := 185) (dd D141_ok 91 rfl) (by decide) ?_
                  refine md_goto (tgt := 3) (dd D141_ok 95 rfl) (by decide) ?_
                  exact w5
              · refine md_aload0 (dd D141_ok 52 rfl) rfl ?_
                refine md_getA (dd D141_ok 53 rfl) pl9_115 (by decide) rfl ?_
                refine md_aload0 (dd D141_ok 54 rfl) rfl ?_
                refine md_getI (dd D141_ok 55 rfl) pl9_266 (by decide) rfl ?_
                refine md_iload_n (dd D141_ok 56 rfl) rfl ?_
                refine md_iast (f := 44) hD (dd D141_ok 57 rfl) rfl (((((((k.2 c1).2 M_1 e_M_1) s2 e_s2).2 s3 e_s3).2 c5).2 c6).2 c8).1 ?_
                refine md_nm (fun M9 e9 => ?_)
                refine md_aload0 (dd D141_ok 58 rfl) rfl ?_
                refine md_getA (dd D141_ok 59 rfl) pl9_118 (by decide) rfl ?_
                refine md_aload0 (dd D141_ok 60 rfl) rfl ?_
                refine md_getI (dd D141_ok 61 rfl) pl9_266 (by decide) rfl ?_
                refine md_iload (dd D141_ok 62 rfl) rfl ?_
                refine md_iast (f := 45) hD (dd D141_ok 63 rfl) rfl ((((((((k.2 c1).2 M_1 e_M_1) s2 e_s2).2 s3 e_s3).2 c5).2 c6).2 c8).2 M9 e9).1 ?_
                refine md_nm (fun M10 e10 => ?_)
                refine md_aload0 (dd D141_ok 64 rfl) rfl ?_
                refine md_dup (dd D141_ok 65 rfl) ?_
                refine md_getI (dd D141_ok 66 rfl) pl9_266 (by decide) rfl ?_
                refine md_iconst (v := 1) (dd D141_ok 67 rfl) (by decide) ?_
                refine md_iadd (dd D141_ok 68 rfl) ?_
                refine md_putI hD (dd D141_ok 69 rfl) pl9_266 (by decide) rfl rfl rfl ?_
                refine md_nm (fun M11 e11 => ?_)
                refine md_aload0 (dd D141_ok 70 rfl) rfl ?_
                refine md_iload (dd D141_ok 71 rfl) rfl ?_
                refine md_iload_n (dd D141_ok 72 rfl) rfl ?_
                refine md_iadd (dd D141_ok 73 rfl) ?_
                refine md_putI hD (dd D141_ok 74 rfl) pl9_260 (by decide) rfl rfl rfl ?_
                refine md_nm (fun M12 e12 => ?_)
                refine md_aload0 (dd D141_ok 75 rfl) rfl ?_
                refine md_aload0 (dd D141_ok 76 rfl) rfl ?_
                refine md_getI (dd D141_ok 77 rfl) pl9_269 (by decide) rfl ?_
                refine md_aload0 (dd D141_ok 78 rfl) rfl ?_
                refine md_iload_n (dd D141_ok 79 rfl) rfl ?_
                refine md_callI (as := [.int x1]) (rest := [.int (M12.1 42), .ref mo]) (dd D141_ok 80 rfl) pl9_272 rfl (Nat.le_of_ble_eq_true rfl) (ms142 xs) rfl (c_f_itemHigh hD (((((((((((k.2 c1).2 M_1 e_M_1) s2 e_s2).2 s3 e_s3).2 c5).2 c6).2 c8).2 M9 e9).2 M10 e10) M11 e11) M12 e12).1 (((((((((((k.2 c1).2 M_1 e_M_1) s2 e_s2).2 s3 e_s3).2 c5).2 c6).2 c8).2 M9 e9).2 M10 e10) M11 e11) M12 e12).2.1 (((((((((((k.2 c1).2 M_1 e_M_1) s2 e_s2).2 s3 e_s3).2 c5).2 c6).2 c8).2 M9 e9).2 M10 e10) M11 e11) M12 e12).2.2.1) rfl ?_
                refine md_callS (as := [.int (M12.1 42), .int (f_itemHigh M12 x1)]) (rest := [.ref mo]) (dd D141_ok 81 rfl) pl9_175 rfl (Nat.le_of_ble_eq_true rfl) (c_f_more ) rfl ?_
                refine md_putI hD (dd D141_ok 82 rfl) pl9_269 (by decide) rfl rfl rfl ?_
                refine md_nm (fun M13 e13 => ?_)
                refine md_iconst (v := 1) (dd D141_ok 83 rfl) (by decide) ?_
                refine md_istore (dd D141_ok 84 rfl) (Nat.le_of_ble_eq_true rfl) ?_
                refine md_goto (tgt := 185) (dd D141_ok 85 rfl) (by decide) ?_
                refine md_goto (tgt := 3) (dd D141_ok 95 rfl) (by decide) ?_
                exact ((((((((((((k.2 c1).2 M_1 e_M_1) s2 e_s2).2 s3 e_s3).2 c5).2 c6).2 c8).2 M9 e9).2 M10 e10) M11 e11) M12 e12).2.2.2 M13 e13)
        refine md_if_le (tgt := 70) (dd D141_ok 32 rfl) (by decide) (fun c10 => ?_) (fun c10 => ?_)
        · refine md_aload0 (dd D141_ok 35 rfl) rfl ?_
          refine md_aload0 (dd D141_ok 36 rfl) rfl ?_
          refine md_getI (dd D141_ok 37 rfl) pl9_251 (by decide) rfl ?_
          refine md_callI (as := [.int (M_1.1 37)]) (rest := []) (dd D141_ok 38 rfl) pl9_257 rfl (Nat.le_of_ble_eq_true rfl) (ms140 xs) rfl (c_f_leastEnd hD ((((k.2 c1).2 M_1 e_M_1) s2 e_s2).1.1 c10).1) rfl ?_
          exact J3 _ (by first | rfl | rw [if_pos c10] | simp only [if_pos c10])
        · refine md_iconst (v := (-1)) (dd D141_ok 33 rfl) (by decide) ?_
          refine md_goto (tgt := 78) (dd D141_ok 34 rfl) (by decide) ?_
          exact J3 _ (by first | rfl | rw [if_neg c10] | simp only [if_neg c10])
      refine md_if_le (tgt := 55) (dd D141_ok 19 rfl) (by decide) (fun c11 => ?_) (fun c11 => ?_)
      · refine md_iconst (v := 0) (dd D141_ok 27 rfl) (by decide) ?_
        exact J2 _ (by first | rfl | rw [if_pos c11] | simp only [if_pos c11])
      · refine md_aload0 (dd D141_ok 20 rfl) rfl ?_
        refine md_getI (dd D141_ok 21 rfl) pl9_275 (by decide) rfl ?_
        refine md_if_eq (tgt := 55) (dd D141_ok 22 rfl) (by decide) (fun c12 => ?_) (fun c12 => ?_)
        · refine md_iconst (v := 0) (dd D141_ok 27 rfl) (by decide) ?_
          exact J2 _ (by first | rfl | rw [if_neg c11, if_pos c12] | simp only [if_neg c11, if_pos c12])
        · refine md_iconst (v := 3) (dd D141_ok 23 rfl) (by decide) ?_
          refine md_iload_n (dd D141_ok 24 rfl) rfl ?_
          refine md_imul (dd D141_ok 25 rfl) ?_
          refine md_goto (tgt := 56) (dd D141_ok 26 rfl) (by decide) ?_
          exact J2 _ (by first | rfl | rw [if_neg c11, if_neg c12] | simp only [if_neg c11, if_neg c12])
    refine md_if_ne (tgt := 31) (dd D141_ok 6 rfl) (by decide) (fun c13 => ?_) (fun c13 => ?_)
    · exact J1 _ (by first | rfl | rw [if_pos c13] | simp only [if_pos c13])
    · refine md_aload0 (dd D141_ok 7 rfl) rfl ?_
      refine md_aload0 (dd D141_ok 8 rfl) rfl ?_
      refine md_getI (dd D141_ok 9 rfl) pl9_251 (by decide) rfl ?_
      refine md_callV (as := [.int (M.1 37)]) (rest := []) (dd D141_ok 10 rfl) pl9_254 rfl (Nat.le_of_ble_eq_true rfl) (ms138 xs) rfl (c_f_edgesAt hD ((k.2 c1).1.2 c13).1) rfl ?_
      refine md_aload0 (dd D141_ok 11 rfl) rfl ?_
      refine md_aload0 (dd D141_ok 12 rfl) rfl ?_
      refine md_getI (dd D141_ok 13 rfl) pl9_235 (by decide) rfl ?_
      refine md_putI hD (dd D141_ok 14 rfl) pl9_260 (by decide) rfl rfl rfl ?_
      exact J1 _ (by first | rfl | rw [if_neg c13] | simp only [if_neg c13])
set_option maxHeartbeats 1000000 in
theorem vc144_0 {xs : List Int32} {mo : Nat} {ad : Nat → Nat} (hD : md_D mo ad) {h0 : am_H} {d : Nat} {Q : Option Value → md_S → Prop} {M : md_S} {x1 : Int32}
    (k : (vp_in x1 60) ∧ (md_wp xs mo ad h0 (d + 8) Q I144 18 [some (.ref mo), some (.int x1), some (.int (M.2 28 x1.toNatClampNeg)), some (.int (f_of M x1 8)), some (.int 0)] [] M)) :
    md_wp xs mo ad h0 (d + 8) Q I144 0 [some (.ref mo), some (.int x1), none, none, none] [] M := by
  refine md_aload0 (dd D144_ok 0 rfl) rfl ?_
  refine md_getA (dd D144_ok 1 rfl) pl9_91 (by decide) rfl ?_
  refine md_iload_n (dd D144_ok 2 rfl) rfl ?_
  refine md_iald (f := 28) (dd D144_ok 3 rfl) rfl k.1 ?_
  refine md_istore_n (dd D144_ok 4 rfl) (Nat.le_of_ble_eq_true rfl) ?_
  refine md_aload0 (dd D144_ok 5 rfl) rfl ?_
  refine md_iload_n (dd D144_ok 6 rfl) rfl ?_
  refine md_bipush (v := 8) (dd D144_ok 7 rfl) (by decide) ?_
  refine md_callI (as := [.int x1, .int 8]) (rest := []) (dd D144_ok 8 rfl) pl9_168 rfl (Nat.le_of_ble_eq_true rfl) (ms118 xs) rfl (c_f_of hD k.1 (md_vl (by decide))) rfl ?_
  refine md_istore_n (dd D144_ok 9 rfl) (Nat.le_of_ble_eq_true rfl) ?_
  refine md_iconst (v := 0) (dd D144_ok 10 rfl) (by decide) ?_
  refine md_istore (dd D144_ok 11 rfl) (Nat.le_of_ble_eq_true rfl) ?_
  exact k.2
set_option maxHeartbeats 1000000 in
theorem vc144_18 {xs : List Int32} {mo : Nat} {ad : Nat → Nat} (hD : md_D mo ad) {h0 : am_H} {d : Nat} {Q : Option Value → md_S → Prop} {M : md_S} {x1 : Int32} {x2 : Int32} {x3 : Int32} {x4 : Int32}
    (k : (vp_in x1 60) ∧ ((((M.2 11 x1.toNatClampNeg) ≤ x4) → Q none M) ∧ (¬ ((M.2 11 x1.toNatClampNeg) ≤ x4) → (vp_in ((120 * x1) + x4) 7200) ∧ ((((f_blank (M.2 10 ((120 * x1) + x4).toNatClampNeg)) = 0) → (vp_in x2 3700) ∧ (md_C xs mo ad (d + 8) 141 [.int x2, .int (M.2 35 x2.toNatClampNeg), .int x3] M (fun v N1 => v = none ∧ ((vp_in x2 3700) ∧ (md_wp xs mo ad h0 (d + 8) Q I144 18 [some (.ref mo), some (.int x1), some (.int (x2 + 1)), some (.int x3), some (.int ((N1.2 31 x2.toNatClampNeg) + (N1.2 32 x2.toNatClampNeg)))] [] N1))))) ∧ (¬ ((f_blank (M.2 10 ((120 * x1) + x4).toNatClampNeg)) = 0) → ∀ M1 : md_S, M1 = md_up1 M 54 1 → (md_wp xs mo ad h0 (d + 8) Q I144 18 [some (.ref mo), some (.int x1), some (.int x2), some (.int x3), some (.int (x4 + 1))] [] M1)))))) :
    md_wp xs mo ad h0 (d + 8) Q I144 18 [some (.ref mo), some (.int x1), some (.int x2), some (.int x3), some (.int x4)] [] M := by
  refine md_iload (dd D144_ok 12 rfl) rfl ?_
  refine md_aload0 (dd D144_ok 13 rfl) rfl ?_
  refine md_getA (dd D144_ok 14 rfl) pl9_42 (by decide) rfl ?_
  refine md_iload_n (dd D144_ok 15 rfl) rfl ?_
  refine md_iald (f := 11) (dd D144_ok 16 rfl) rfl k.1 ?_
  refine md_icmp_ge (tgt := 91) (dd D144_ok 17 rfl) (by decide) (fun c1 => ?_) (fun c1 => ?_)
  · exact md_vret (dd D144_ok 53 rfl) rfl (k.2.1 c1)
  · refine md_aload0 (dd D144_ok 18 rfl) rfl ?_
    refine md_getA (dd D144_ok 19 rfl) pl9_39 (by decide) rfl ?_
    refine md_bipush (v := 120) (dd D144_ok 20 rfl) (by decide) ?_
    refine md_iload_n (dd D144_ok 21 rfl) rfl ?_
    refine md_imul (dd D144_ok 22 rfl) ?_
    refine md_iload (dd D144_ok 23 rfl) rfl ?_
    refine md_iadd (dd D144_ok 24 rfl) ?_
    refine md_bald (f := 10) (dd D144_ok 25 rfl) rfl (Or.inl rfl) (k.2.2 c1).1 ?_
    refine md_callS (as := [.int (M.2 10 ((120 * x1) + x4).toNatClampNeg)]) (rest := []) (dd D144_ok 26 rfl) pl9_199 rfl (Nat.le_of_ble_eq_true rfl) (c_f_blank ) rfl ?_
    refine md_if_eq (tgt := 58) (dd D144_ok 27 rfl) (by decide) (fun c2 => ?_) (fun c2 => ?_)
    · refine md_aload0 (dd D144_ok 33 rfl) rfl ?_
      refine md_iload_n (dd D144_ok 34 rfl) rfl ?_
      refine md_aload0 (dd D144_ok 35 rfl) rfl ?_
      refine md_getA (dd D144_ok 36 rfl) pl9_109 (by decide) rfl ?_
      refine md_iload_n (dd D144_ok 37 rfl) rfl ?_
      refine md_iald (f := 35) (dd D144_ok 38 rfl) rfl ((k.2.2 c1).2.1 c2).1 ?_
      refine md_iload_n (dd D144_ok 39 rfl) rfl ?_
      refine md_call (as := [.int x2, .int (M.2 35 x2.toNatClampNeg), .int x3]) (rest := []) (dd D144_ok 40 rfl) pl9_288 rfl (Nat.le_of_ble_eq_true rfl) (ms141 xs) rfl ((((k.2.2 c1).2.1 c2).2).mono ?_) rfl
      rintro v N1 ⟨rfl, w1⟩
      refine md_aload0 (dd D144_ok 41 rfl) rfl ?_
      refine md_getA (dd D144_ok 42 rfl) pl9_97 (by decide) rfl ?_
      refine md_iload_n (dd D144_ok 43 rfl) rfl ?_
      refine md_iald (f := 31) (dd D144_ok 44 rfl) rfl w1.1 ?_
      refine md_aload0 (dd D144_ok 45 rfl) rfl ?_
      refine md_getA (dd D144_ok 46 rfl) pl9_100 (by decide) rfl ?_
      refine md_iload_n (dd D144_ok 47 rfl) rfl ?_
      refine md_iald (f := 32) (dd D144_ok 48 rfl) rfl w1.1 ?_
      refine md_iadd (dd D144_ok 49 rfl) ?_
      refine md_istore (dd D144_ok 50 rfl) (Nat.le_of_ble_eq_true rfl) ?_
      refine md_iinc (v := x2 + 1) (dd D144_ok 51 rfl) rfl rfl ?_
      refine md_goto (tgt := 18) (dd D144_ok 52 rfl) (by decide) ?_
      exact w1.2
    · refine md_aload0 (dd D144_ok 28 rfl) rfl ?_
      refine md_iconst (v := 1) (dd D144_ok 29 rfl) (by decide) ?_
      refine md_putI hD (dd D144_ok 30 rfl) pl9_275 (by decide) rfl rfl rfl ?_
      refine md_nm (fun M1 e1 => ?_)
      refine md_iinc (v := x4 + 1) (dd D144_ok 31 rfl) rfl rfl ?_
      refine md_goto (tgt := 18) (dd D144_ok 32 rfl) (by decide) ?_
      exact (((k.2.2 c1).2.2 c2) M1 e1)
set_option maxHeartbeats 1000000 in
theorem vc136_0 {xs : List Int32} {mo : Nat} {ad : Nat → Nat} (hD : md_D mo ad) {h0 : am_H} {d : Nat} {Q : Option Value → md_S → Prop} {M : md_S} {x1 : Int32}
    (k : md_wp xs mo ad h0 (d + 9) Q I136 2 [some (.ref mo), some (.int x1), some (.int x1), none] [] M) :
    md_wp xs mo ad h0 (d + 9) Q I136 0 [some (.ref mo), some (.int x1), none, none] [] M := by
  refine md_iload_n (dd D136_ok 0 rfl) rfl ?_
  refine md_istore_n (dd D136_ok 1 rfl) (Nat.le_of_ble_eq_true rfl) ?_
  exact k
set_option maxHeartbeats 1000000 in
theorem vc136_2 {xs : List Int32} {mo : Nat} {ad : Nat → Nat} (hD : md_D mo ad) {h0 : am_H} {d : Nat} {Q : Option Value → md_S → Prop} {M : md_S} {x1 : Int32} {x2 : Int32} {o3 : Option Value}
    (k : ((x2 = (-1)) → Q none M) ∧ (¬ (x2 = (-1)) → (vp_in x2 60) ∧ ((((f_isBox M x2) = 0) → ((¬ (M.2 12 x2.toNatClampNeg) = 4) → ((¬ (M.2 12 x2.toNatClampNeg) = 5) → ((¬ (M.2 12 x2.toNatClampNeg) = 6) → ∀ s1 : Int32, s1 = (if ¬ (M.2 12 x2.toNatClampNeg) = 0 then 0 else 1) → (((s1 = 0) → md_C xs mo ad (d + 9) 120 [.int x2, .int x1] M (fun v N2 => ∃ y2, v = some (.int y2) ∧ (md_wp xs mo ad h0 (d + 9) Q I136 2 [some (.ref mo), some (.int x1), some (.int y2), some (.int s1)] [] N2))) ∧ (¬ (s1 = 0) → md_C xs mo ad (d + 9) 121 [.int x2, .int x1] M (fun v N3 => ∃ y3, v = some (.int y3) ∧ (md_wp xs mo ad h0 (d + 9) Q I136 2 [some (.ref mo), some (.int x1), some (.int y3), some (.int s1)] [] N3))))) ∧ (¬ (¬ (M.2 12 x2.toNatClampNeg) = 6) → md_C xs mo ad (d + 9) 144 [.int x2] M (fun v N4 => v = none ∧ (md_C xs mo ad (d + 9) 121 [.int x2, .int x1] N4 (fun v N5 => ∃ y5, v = some (.int y5) ∧ (md_wp xs mo ad h0 (d + 9) Q I136 2 [some (.ref mo), some (.int x1), some (.int y5), some (.int 1)] [] N5)))))) ∧ (¬ (¬ (M.2 12 x2.toNatClampNeg) = 5) → (((M.1 41) ≤ 0) → ∀ M1 : md_S, M1 = md_up1 M 37 ((M.1 37) + (7 * (f_of M x2 8))) → (∀ M2 : md_S, M2 = md_up1 M1 54 0 → (md_C xs mo ad (d + 9) 121 [.int x2, .int x1] M2 (fun v N6 => ∃ y6, v = some (.int y6) ∧ (md_wp xs mo ad h0 (d + 9) Q I136 2 [some (.ref mo), some (.int x1), some (.int y6), some (.int 1)] [] N6))))) ∧ (¬ ((M.1 41) ≤ 0) → md_C xs mo ad (d + 9) 143 [] M (fun v N7 => v = none ∧ (∀ M3 : md_S, M3 = md_up1 N7 54 0 → (md_C xs mo ad (d + 9) 121 [.int x2, .int x1] M3 (fun v N8 => ∃ y8, v = some (.int y8) ∧ (md_wp xs mo ad h0 (d + 9) Q I136 2 [some (.ref mo), some (.int x1), some (.int y8), some (.int 1)] [] N8)))))))) ∧ (¬ (¬ (M.2 12 x2.toNatClampNeg) = 4) → md_C xs mo ad (d + 9) 141 [.int ((-1) - x2), .int (M.2 17 x2.toNatClampNeg), .int (f_of M x2 8)] M (fun v N9 => v = none ∧ (md_C xs mo ad (d + 9) 121 [.int x2, .int x1] N9 (fun v N10 => ∃ y10, v = some (.int y10) ∧ (md_wp xs mo ad h0 (d + 9) Q I136 2 [some (.ref mo), some (.int x1), some (.int y10), some (.int 1)] [] N10)))))) ∧ (¬ ((f_isBox M x2) = 0) → (((M.1 41) ≤ 0) → md_C xs mo ad (d + 9) 137 [.int x2] M (fun v N11 => v = none ∧ (md_C xs mo ad (d + 9) 121 [.int x2, .int x1] N11 (fun v N12 => ∃ y12, v = some (.int y12) ∧ (md_wp xs mo ad h0 (d + 9) Q I136 2 [some (.ref mo), some (.int x1), some (.int y12), some (.int 1)] [] N12))))) ∧ (¬ ((M.1 41) ≤ 0) → (vp_in (M.1 53) 60) ∧ (∀ M4 : md_S, M4 = md_up2 M 52 (M.1 53).toNatClampNeg x2 → (∀ M5 : md_S, M5 = md_up1 M4 53 ((M4.1 53) + 1) → (md_C xs mo ad (d + 9) 121 [.int x2, .int x1] M5 (fun v N13 => ∃ y13, v = some (.int y13) ∧ (md_wp xs mo ad h0 (d + 9) Q I136 2 [some (.ref mo), some (.int x1), some (.int y13), some (.int 1)] [] N13)))))))))) :
    md_wp xs mo ad h0 (d + 9) Q I136 2 [some (.ref mo), some (.int x1), some (.int x2), o3] [] M := by
  refine md_iload_n (dd D136_ok 2 rfl) rfl ?_
  refine md_iconst (v := (-1)) (dd D136_ok 3 rfl) (by decide) ?_
  refine md_icmp_eq (tgt := 196) (dd D136_ok 4 rfl) (by decide) (fun c1 => ?_) (fun c1 => ?_)
  · exact md_vret (dd D136_ok 110 rfl) rfl (k.1 c1)
  · refine md_iconst (v := 1) (dd D136_ok 5 rfl) (by decide) ?_
    refine md_istore_n (dd D136_ok 6 rfl) (Nat.le_of_ble_eq_true rfl) ?_
    refine md_aload0 (dd D136_ok 7 rfl) rfl ?_
    refine md_iload_n (dd D136_ok 8 rfl) rfl ?_
    refine md_callI (as := [.int x2]) (rest := []) (dd D136_ok 9 rfl) pl9_181 rfl (Nat.le_of_ble_eq_true rfl) (ms117 xs) rfl (c_f_isBox hD (k.2 c1).1) rfl ?_
    refine md_if_eq (tgt := 55) (dd D136_ok 10 rfl) (by decide) (fun c2 => ?_) (fun c2 => ?_)
    · refine md_aload0 (dd D136_ok 31 rfl) rfl ?_
      refine md_getA (dd D136_ok 32 rfl) pl9_45 (by decide) rfl ?_
      refine md_iload_n (dd D136_ok 33 rfl) rfl ?_
      refine md_iald (f := 12) (dd D136_ok 34 rfl) rfl (k.2 c1).1 ?_
      refine md_iconst (v := 4) (dd D136_ok 35 rfl) (by decide) ?_
      refine md_icmp_ne (tgt := 88) (dd D136_ok 36 rfl) (by decide) (fun c3 => ?_) (fun c3 => ?_)
      · refine md_aload0 (dd D136_ok 51 rfl) rfl ?_
        refine md_getA (dd D136_ok 52 rfl) pl9_45 (by decide) rfl ?_
        refine md_iload_n (dd D136_ok 53 rfl) rfl ?_
        refine md_iald (f := 12) (dd D136_ok 54 rfl) rfl (k.2 c1).1 ?_
        refine md_iconst (v := 5) (dd D136_ok 55 rfl) (by decide) ?_
        refine md_icmp_ne (tgt := 139) (dd D136_ok 56 rfl) (by decide) (fun c4 => ?_) (fun c4 => ?_)
        · refine md_aload0 (dd D136_ok 78 rfl) rfl ?_
          refine md_getA (dd D136_ok 79 rfl) pl9_45 (by decide) rfl ?_
          refine md_iload_n (dd D136_ok 80 rfl) rfl ?_
          refine md_iald (f := 12) (dd D136_ok 81 rfl) rfl (k.2 c1).1 ?_
          refine md_bipush (v := 6) (dd D136_ok 82 rfl) (by decide) ?_
          refine md_icmp_ne (tgt := 158) (dd D136_ok 83 rfl) (by decide) (fun c5 => ?_) (fun c5 => ?_)
          · refine md_aload0 (dd D136_ok 88 rfl) rfl ?_
            refine md_getA (dd D136_ok 89 rfl) pl9_45 (by decide) rfl ?_
            refine md_iload_n (dd D136_ok 90 rfl) rfl ?_
            refine md_iald (f := 12) (dd D136_ok 91 rfl) rfl (k.2 c1).1 ?_
            have J1 : ∀ s1 : Int32, s1 = (if ¬ (M.2 12 x2.toNatClampNeg) = 0 then 0 else 1) → md_wp xs mo ad h0 (d + 9) Q I136 172 [some (.ref mo), some (.int x1), some (.int x2), some (.int 1)] [.int s1] M := by
              intro s1 e_s1
              refine md_istore_n (dd D136_ok 96 rfl) (Nat.le_of_ble_eq_true rfl) ?_
              refine md_iload_n (dd D136_ok 97 rfl) rfl ?_
              refine md_if_eq (tgt := 186) (dd D136_ok 98 rfl) (by decide) (fun c7 => ?_) (fun c7 => ?_)
              · refine md_aload0 (dd D136_ok 104 rfl) rfl ?_
                refine md_iload_n (dd D136_ok 105 rfl) rfl ?_
                refine md_iload_n (dd D136_ok 106 rfl) rfl ?_
                refine md_call (as := [.int x2, .int x1]) (rest := []) (dd D136_ok 107 rfl) pl9_187 rfl (Nat.le_of_ble_eq_true rfl) (ms120 xs) rfl (((((((((k.2 c1).2.1 c2).1 c3).1 c4).1 c5) s1 e_s1).1 c7)).mono ?_) rfl
                rintro v N2 ⟨y2, rfl, w2⟩
                refine md_istore_n (dd D136_ok 108 rfl) (Nat.le_of_ble_eq_true rfl) ?_
                refine md_goto (tgt := 2) (dd D136_ok 109 rfl) (by decide) ?_
                exact w2
              · refine md_aload0 (dd D136_ok 99 rfl) rfl ?_
                refine md_iload_n (dd D136_ok 100 rfl) rfl ?_
                refine md_iload_n (dd D136_ok 101 rfl) rfl ?_
                refine md_call (as := [.int x2, .int x1]) (rest := []) (dd D136_ok 102 rfl) pl9_164 rfl (Nat.le_of_ble_eq_true rfl) (ms121 xs) rfl (((((((((k.2 c1).2.1 c2).1 c3).1 c4).1 c5) s1 e_s1).2 c7)).mono ?_) rfl
                rintro v N3 ⟨y3, rfl, w3⟩
                refine md_goto (tgt := 192) (dd D136_ok 103 rfl) (by decide) ?_
                refine md_istore_n (dd D136_ok 108 rfl) (Nat.le_of_ble_eq_true rfl) ?_
                refine md_goto (tgt := 2) (dd D136_ok 109 rfl) (by decide) ?_
                exact w3
            refine md_if_ne (tgt := 171) (dd D136_ok 92 rfl) (by decide) (fun c8 => ?_) (fun c8 => ?_)
            · refine md_iconst (v := 0) (dd D136_ok 95 rfl) (by decide) ?_
              exact J1 _ (by first | rfl | rw [if_pos c8] | simp only [if_pos c8])
            · refine md_iconst (v := 1) (dd D136_ok 93 rfl) (by decide) ?_
              refine md_goto (tgt := 172) (dd D136_ok 94 rfl) (by decide) ?_
              exact J1 _ (by first | rfl | rw [if_neg c8] | simp only [if_neg c8])
          · refine md_aload0 (dd D136_ok 84 rfl) rfl ?_
            refine md_iload_n (dd D136_ok 85 rfl) rfl ?_
            refine md_call (as := [.int x2]) (rest := []) (dd D136_ok 86 rfl) pl9_291 rfl (Nat.le_of_ble_eq_true rfl) (ms144 xs) rfl (((((((k.2 c1).2.1 c2).1 c3).1 c4).2 c5)).mono ?_) rfl
            rintro v N4 ⟨rfl, w4⟩
            refine md_goto (tgt := 173) (dd D136_ok 87 rfl) (by decide) ?_
            refine md_iload_n (dd D136_ok 97 rfl) rfl ?_
            refine md_if_eq (tgt := 186) (dd D136_ok 98 rfl) (by decide) (fun c9 => absurd c9 (by decide)) (fun _ => ?_)
            refine md_aload0 (dd D136_ok 99 rfl) rfl ?_
            refine md_iload_n (dd D136_ok 100 rfl) rfl ?_
            refine md_iload_n (dd D136_ok 101 rfl) rfl ?_
            refine md_call (as := [.int x2, .int x1]) (rest := []) (dd D136_ok 102 rfl) pl9_164 rfl (Nat.le_of_ble_eq_true rfl) (ms121 xs) rfl ((w4).mono ?_) rfl
            rintro v N5 ⟨y5, rfl, w5⟩
            refine md_goto (tgt := 192) (dd D136_ok 103 rfl) (by decide) ?_
            refine md_istore_n (dd D136_ok 108 rfl) (Nat.le_of_ble_eq_true rfl) ?_
            refine md_goto (tgt := 2) (dd D136_ok 109 rfl) (by decide) ?_
            exact w5
        · refine md_aload0 (dd D136_ok 57 rfl) rfl ?_
          refine md_getI (dd D136_ok 58 rfl) pl9_266 (by decide) rfl ?_
          refine md_if_le (tgt := 112) (dd D136_ok 59 rfl) (by decide) (fun c10 => ?_) (fun c10 => ?_)
          · refine md_aload0 (dd D136_ok 63 rfl) rfl ?_
            refine md_dup (dd D136_ok 64 rfl) ?_
            refine md_getI (dd D136_ok 65 rfl) pl9_251 (by decide) rfl ?_
            refine md_bipush (v := 7) (dd D136_ok 66 rfl) (by decide) ?_
            refine md_aload0 (dd D136_ok 67 rfl) rfl ?_
            refine md_iload_n (dd D136_ok 68 rfl) rfl ?_
            refine md_bipush (v := 8) (dd D136_ok 69 rfl) (by decide) ?_
            refine md_callI (as := [.int x2, .int 8]) (rest := [.int 7, .int (M.1 37), .ref mo]) (dd D136_ok 70 rfl) pl9_168 rfl (Nat.le_of_ble_eq_true rfl) (ms118 xs) rfl (c_f_of hD (k.2 c1).1 (md_vl (by decide))) rfl ?_
            refine md_imul (dd D136_ok 71 rfl) ?_
            refine md_iadd (dd D136_ok 72 rfl) ?_
            refine md_putI hD (dd D136_ok 73 rfl) pl9_251 (by decide) rfl rfl rfl ?_
            refine md_nm (fun M1 e1 => ?_)
            refine md_aload0 (dd D136_ok 74 rfl) rfl ?_
            refine md_iconst (v := 0) (dd D136_ok 75 rfl) (by decide) ?_
            refine md_putI hD (dd D136_ok 76 rfl) pl9_275 (by decide) rfl rfl rfl ?_
            refine md_nm (fun M2 e2 => ?_)
            refine md_goto (tgt := 173) (dd D136_ok 77 rfl) (by decide) ?_
            refine md_iload_n (dd D136_ok 97 rfl) rfl ?_
            refine md_if_eq (tgt := 186) (dd D136_ok 98 rfl) (by decide) (fun c11 => absurd c11 (by decide)) (fun _ => ?_)
            refine md_aload0 (dd D136_ok 99 rfl) rfl ?_
            refine md_iload_n (dd D136_ok 100 rfl) rfl ?_
            refine md_iload_n (dd D136_ok 101 rfl) rfl ?_
            refine md_call (as := [.int x2, .int x1]) (rest := []) (dd D136_ok 102 rfl) pl9_164 rfl (Nat.le_of_ble_eq_true rfl) (ms121 xs) rfl (((((((((k.2 c1).2.1 c2).1 c3).2 c4).1 c10) M1 e1) M2 e2)).mono ?_) rfl
            rintro v N6 ⟨y6, rfl, w6⟩
            refine md_goto (tgt := 192) (dd D136_ok 103 rfl) (by decide) ?_
            refine md_istore_n (dd D136_ok 108 rfl) (Nat.le_of_ble_eq_true rfl) ?_
            refine md_goto (tgt := 2) (dd D136_ok 109 rfl) (by decide) ?_
            exact w6
          · refine md_aload0 (dd D136_ok 60 rfl) rfl ?_
            refine md_call (as := []) (rest := []) (dd D136_ok 61 rfl) pl9_285 rfl (Nat.le_of_ble_eq_true rfl) (ms143 xs) rfl (((((((k.2 c1).2.1 c2).1 c3).2 c4).2 c10)).mono ?_) rfl
            rintro v N7 ⟨rfl, w7⟩
            refine md_goto (tgt := 131) (dd D136_ok 62 rfl) (by decide) ?_
            refine md_aload0 (dd D136_ok 74 rfl) rfl ?_
            refine md_iconst (v := 0) (dd D136_ok 75 rfl) (by decide) ?_
            refine md_putI hD (dd D136_ok 76 rfl) pl9_275 (by decide) rfl rfl rfl ?_
            refine md_nm (fun M3 e3 => ?_)
            refine md_goto (tgt := 173) (dd D136_ok 77 rfl) (by decide) ?_
            refine md_iload_n (dd D136_ok 97 rfl) rfl ?_
            refine md_if_eq (tgt := 186) (dd D136_ok 98 rfl) (by decide) (fun c12 => absurd c12 (by decide)) (fun _ => ?_)
            refine md_aload0 (dd D136_ok 99 rfl) rfl ?_
            refine md_iload_n (dd D136_ok 100 rfl) rfl ?_
            refine md_iload_n (dd D136_ok 101 rfl) rfl ?_
            refine md_call (as := [.int x2, .int x1]) (rest := []) (dd D136_ok 102 rfl) pl9_164 rfl (Nat.le_of_ble_eq_true rfl) (ms121 xs) rfl (((w7 M3 e3)).mono ?_) rfl
            rintro v N8 ⟨y8, rfl, w8⟩
            refine md_goto (tgt := 192) (dd D136_ok 103 rfl) (by decide) ?_
            refine md_istore_n (dd D136_ok 108 rfl) (Nat.le_of_ble_eq_true rfl) ?_
            refine md_goto (tgt := 2) (dd D136_ok 109 rfl) (by decide) ?_
            exact w8
      · refine md_aload0 (dd D136_ok 37 rfl) rfl ?_
        refine md_iconst (v := (-1)) (dd D136_ok 38 rfl) (by decide) ?_
        refine md_iload_n (dd D136_ok 39 rfl) rfl ?_
        refine md_isub (dd D136_ok 40 rfl) ?_
        refine md_aload0 (dd D136_ok 41 rfl) rfl ?_
        refine md_getA (dd D136_ok 42 rfl) pl9_61 (by decide) rfl ?_
        refine md_iload_n (dd D136_ok 43 rfl) rfl ?_
        refine md_iald (f := 17) (dd D136_ok 44 rfl) rfl (k.2 c1).1 ?_
        refine md_aload0 (dd D136_ok 45 rfl) rfl ?_
        refine md_iload_n (dd D136_ok 46 rfl) rfl ?_
        refine md_bipush (v := 8) (dd D136_ok 47 rfl) (by decide) ?_
        refine md_callI (as := [.int x2, .int 8]) (rest := [.int (M.2 17 x2.toNatClampNeg), .int ((-1) - x2), .ref mo]) (dd D136_ok 48 rfl) pl9_168 rfl (Nat.le_of_ble_eq_true rfl) (ms118 xs) rfl (c_f_of hD (k.2 c1).1 (md_vl (by decide))) rfl ?_
        refine md_call (as := [.int ((-1) - x2), .int (M.2 17 x2.toNatClampNeg), .int (f_of M x2 8)]) (rest := []) (dd D136_ok 49 rfl) pl9_288 rfl (Nat.le_of_ble_eq_true rfl) (ms141 xs) rfl (((((k.2 c1).2.1 c2).2 c3)).mono ?_) rfl
        rintro v N9 ⟨rfl, w9⟩
        refine md_goto (tgt := 173) (dd D136_ok 50 rfl) (by decide) ?_
        refine md_iload_n (dd D136_ok 97 rfl) rfl ?_
        refine md_if_eq (tgt := 186) (dd D136_ok 98 rfl) (by decide) (fun c13 => absurd c13 (by decide)) (fun _ => ?_)
        refine md_aload0 (dd D136_ok 99 rfl) rfl ?_
        refine md_iload_n (dd D136_ok 100 rfl) rfl ?_
        refine md_iload_n (dd D136_ok 101 rfl) rfl ?_
        refine md_call (as := [.int x2, .int x1]) (rest := []) (dd D136_ok 102 rfl) pl9_164 rfl (Nat.le_of_ble_eq_true rfl) (ms121 xs) rfl ((w9).mono ?_) rfl
        rintro v N10 ⟨y10, rfl, w10⟩
        refine md_goto (tgt := 192) (dd D136_ok 103 rfl) (by decide) ?_
        refine md_istore_n (dd D136_ok 108 rfl) (Nat.le_of_ble_eq_true rfl) ?_
        refine md_goto (tgt := 2) (dd D136_ok 109 rfl) (by decide) ?_
        exact w10
    · refine md_aload0 (dd D136_ok 11 rfl) rfl ?_
      refine md_getI (dd D136_ok 12 rfl) pl9_266 (by decide) rfl ?_
      refine md_if_le (tgt := 47) (dd D136_ok 13 rfl) (by decide) (fun c14 => ?_) (fun c14 => ?_)
      · refine md_aload0 (dd D136_ok 27 rfl) rfl ?_
        refine md_iload_n (dd D136_ok 28 rfl) rfl ?_
        refine md_call (as := [.int x2]) (rest := []) (dd D136_ok 29 rfl) pl9_282 rfl (Nat.le_of_ble_eq_true rfl) (ms137 xs) rfl (((((k.2 c1).2.2 c2).1 c14)).mono ?_) rfl
        rintro v N11 ⟨rfl, w11⟩
        refine md_goto (tgt := 173) (dd D136_ok 30 rfl) (by decide) ?_
        refine md_iload_n (dd D136_ok 97 rfl) rfl ?_
        refine md_if_eq (tgt := 186) (dd D136_ok 98 rfl) (by decide) (fun c15 => absurd c15 (by decide)) (fun _ => ?_)
        refine md_aload0 (dd D136_ok 99 rfl) rfl ?_
        refine md_iload_n (dd D136_ok 100 rfl) rfl ?_
        refine md_iload_n (dd D136_ok 101 rfl) rfl ?_
        refine md_call (as := [.int x2, .int x1]) (rest := []) (dd D136_ok 102 rfl) pl9_164 rfl (Nat.le_of_ble_eq_true rfl) (ms121 xs) rfl ((w11).mono ?_) rfl
        rintro v N12 ⟨y12, rfl, w12⟩
        refine md_goto (tgt := 192) (dd D136_ok 103 rfl) (by decide) ?_
        refine md_istore_n (dd D136_ok 108 rfl) (Nat.le_of_ble_eq_true rfl) ?_
        refine md_goto (tgt := 2) (dd D136_ok 109 rfl) (by decide) ?_
        exact w12
      · refine md_aload0 (dd D136_ok 14 rfl) rfl ?_
        refine md_getA (dd D136_ok 15 rfl) pl9_136 (by decide) rfl ?_
        refine md_aload0 (dd D136_ok 16 rfl) rfl ?_
        refine md_getI (dd D136_ok 17 rfl) pl9_279 (by decide) rfl ?_
        refine md_iload_n (dd D136_ok 18 rfl) rfl ?_
        refine md_iast (f := 52) hD (dd D136_ok 19 rfl) rfl (((k.2 c1).2.2 c2).2 c14).1 ?_
        refine md_nm (fun M4 e4 => ?_)
        refine md_aload0 (dd D136_ok 20 rfl) rfl ?_
        refine md_dup (dd D136_ok 21 rfl) ?_
        refine md_getI (dd D136_ok 22 rfl) pl9_279 (by decide) rfl ?_
        refine md_iconst (v := 1) (dd D136_ok 23 rfl) (by decide) ?_
        refine md_iadd (dd D136_ok 24 rfl) ?_
        refine md_putI hD (dd D136_ok 25 rfl) pl9_279 (by decide) rfl rfl rfl ?_
        refine md_nm (fun M5 e5 => ?_)
        refine md_goto (tgt := 173) (dd D136_ok 26 rfl) (by decide) ?_
        refine md_iload_n (dd D136_ok 97 rfl) rfl ?_
        refine md_if_eq (tgt := 186) (dd D136_ok 98 rfl) (by decide) (fun c16 => absurd c16 (by decide)) (fun _ => ?_)
        refine md_aload0 (dd D136_ok 99 rfl) rfl ?_
        refine md_iload_n (dd D136_ok 100 rfl) rfl ?_
        refine md_iload_n (dd D136_ok 101 rfl) rfl ?_
        refine md_call (as := [.int x2, .int x1]) (rest := []) (dd D136_ok 102 rfl) pl9_164 rfl (Nat.le_of_ble_eq_true rfl) (ms121 xs) rfl (((((((k.2 c1).2.2 c2).2 c14).2 M4 e4) M5 e5)).mono ?_) rfl
        rintro v N13 ⟨y13, rfl, w13⟩
        refine md_goto (tgt := 192) (dd D136_ok 103 rfl) (by decide) ?_
        refine md_istore_n (dd D136_ok 108 rfl) (Nat.le_of_ble_eq_true rfl) ?_
        refine md_goto (tgt := 2) (dd D136_ok 109 rfl) (by decide) ?_
        exact w13
set_option maxHeartbeats 1000000 in
theorem vc135_0 {xs : List Int32} {mo : Nat} {ad : Nat → Nat} (hD : md_D mo ad) {h0 : am_H} {d : Nat} {Q : Option Value → md_S → Prop} {M : md_S} {x1 : Int32}
    (k : (vp_in x1 60) ∧ (∀ M1 : md_S, M1 = md_up1 M 55 (f_inner M x1) → (∀ M2 : md_S, M2 = md_up1 M1 43 (f_of M1 x1 7) → (∀ M3 : md_S, M3 = md_up1 M2 46 0 → (md_wp xs mo ad h0 (d + 10) Q I135 49 [some (.ref mo), some (.int x1), some (.int 0), some (.int (-1)), some (.int 0), some (.int (-1)), some (.int 1), some (.int 0), some (.int (M3.2 5 x1.toNatClampNeg)), none, none, none, none] [] M3))))) :
    md_wp xs mo ad h0 (d + 10) Q I135 0 [some (.ref mo), some (.int x1), none, none, none, none, none, none, none, none, none, none, none] [] M := by
  refine md_aload0 (dd D135_ok 0 rfl) rfl ?_
  refine md_aload0 (dd D135_ok 1 rfl) rfl ?_
  refine md_iload_n (dd D135_ok 2 rfl) rfl ?_
  refine md_callI (as := [.int x1]) (rest := [.ref mo]) (dd D135_ok 3 rfl) pl9_205 rfl (Nat.le_of_ble_eq_true rfl) (ms128 xs) rfl (c_f_inner hD k.1) rfl ?_
  refine md_putI hD (dd D135_ok 4 rfl) pl9_238 (by decide) rfl rfl rfl ?_
  refine md_nm (fun M1 e1 => ?_)
  refine md_aload0 (dd D135_ok 5 rfl) rfl ?_
  refine md_aload0 (dd D135_ok 6 rfl) rfl ?_
  refine md_iload_n (dd D135_ok 7 rfl) rfl ?_
  refine md_bipush (v := 7) (dd D135_ok 8 rfl) (by decide) ?_
  refine md_callI (as := [.int x1, .int 7]) (rest := [.ref mo]) (dd D135_ok 9 rfl) pl9_168 rfl (Nat.le_of_ble_eq_true rfl) (ms118 xs) rfl (c_f_of hD k.1 (md_vl (by decide))) rfl ?_
  refine md_putI hD (dd D135_ok 10 rfl) pl9_263 (by decide) rfl rfl rfl ?_
  refine md_nm (fun M2 e2 => ?_)
  refine md_aload0 (dd D135_ok 11 rfl) rfl ?_
  refine md_iconst (v := 0) (dd D135_ok 12 rfl) (by decide) ?_
  refine md_putI hD (dd D135_ok 13 rfl) pl9_244 (by decide) rfl rfl rfl ?_
  refine md_nm (fun M3 e3 => ?_)
  refine md_iconst (v := 0) (dd D135_ok 14 rfl) (by decide) ?_
  refine md_istore_n (dd D135_ok 15 rfl) (Nat.le_of_ble_eq_true rfl) ?_
  refine md_iconst (v := (-1)) (dd D135_ok 16 rfl) (by decide) ?_
  refine md_istore_n (dd D135_ok 17 rfl) (Nat.le_of_ble_eq_true rfl) ?_
  refine md_iconst (v := 0) (dd D135_ok 18 rfl) (by decide) ?_
  refine md_istore (dd D135_ok 19 rfl) (Nat.le_of_ble_eq_true rfl) ?_
  refine md_iconst (v := (-1)) (dd D135_ok 20 rfl) (by decide) ?_
  refine md_istore (dd D135_ok 21 rfl) (Nat.le_of_ble_eq_true rfl) ?_
  refine md_iconst (v := 1) (dd D135_ok 22 rfl) (by decide) ?_
  refine md_istore (dd D135_ok 23 rfl) (Nat.le_of_ble_eq_true rfl) ?_
  refine md_iconst (v := 0) (dd D135_ok 24 rfl) (by decide) ?_
  refine md_istore (dd D135_ok 25 rfl) (Nat.le_of_ble_eq_true rfl) ?_
  refine md_aload0 (dd D135_ok 26 rfl) rfl ?_
  refine md_getA (dd D135_ok 27 rfl) pl9_24 (by decide) rfl ?_
  refine md_iload_n (dd D135_ok 28 rfl) rfl ?_
  refine md_iald (f := 5) (dd D135_ok 29 rfl) rfl k.1 ?_
  refine md_istore (dd D135_ok 30 rfl) (Nat.le_of_ble_eq_true rfl) ?_
  exact (((k.2 M1 e1) M2 e2) M3 e3)
set_option maxHeartbeats 1000000 in
theorem vc135_49 {xs : List Int32} {mo : Nat} {ad : Nat → Nat} (hD : md_D mo ad) {h0 : am_H} {d : Nat} {Q : Option Value → md_S → Prop} {M : md_S} {x1 : Int32} {x2 : Int32} {x3 : Int32} {x4 : Int32} {x5 : Int32} {x6 : Int32} {x7 : Int32} {x8 : Int32} {o9 : Option Value} {o10 : Option Value} {o11 : Option Value} {o12 : Option Value}
    (k : ((x8 = (-1)) → (vp_in x1 60) ∧ (md_wp xs mo ad h0 (d + 10) Q I135 89 [some (.ref mo), some (.int x1), some (.int x2), some (.int x3), some (.int x4), some (.int x5), some (.int x6), some (.int x7), some (.int (M.2 5 x1.toNatClampNeg)), o9, o10, o11, o12] [] M)) ∧ (¬ (x8 = (-1)) → (vp_in x8 60) ∧ (∀ s1 : Int32, s1 = (if (M.2 12 x8.toNatClampNeg) = 0 then x5 else x8) → (md_wp xs mo ad h0 (d + 10) Q I135 49 [some (.ref mo), some (.int x1), some (.int x2), some (.int x3), some (.int x4), some (.int s1), some (.int x6), some (.int x7), some (.int (M.2 7 x8.toNatClampNeg)), o9, o10, o11, o12] [] M)))) :
    md_wp xs mo ad h0 (d + 10) Q I135 49 [some (.ref mo), some (.int x1), some (.int x2), some (.int x3), some (.int x4), some (.int x5), some (.int x6), some (.int x7), some (.int x8), o9, o10, o11, o12] [] M := by
  refine md_iload (dd D135_ok 31 rfl) rfl ?_
  refine md_iconst (v := (-1)) (dd D135_ok 32 rfl) (by decide) ?_
  refine md_icmp_eq (tgt := 81) (dd D135_ok 33 rfl) (by decide) (fun c1 => ?_) (fun c1 => ?_)
  · refine md_aload0 (dd D135_ok 47 rfl) rfl ?_
    refine md_getA (dd D135_ok 48 rfl) pl9_24 (by decide) rfl ?_
    refine md_iload_n (dd D135_ok 49 rfl) rfl ?_
    refine md_iald (f := 5) (dd D135_ok 50 rfl) rfl (k.1 c1).1 ?_
    refine md_istore (dd D135_ok 51 rfl) (Nat.le_of_ble_eq_true rfl) ?_
    exact (k.1 c1).2
  · refine md_aload0 (dd D135_ok 34 rfl) rfl ?_
    refine md_getA (dd D135_ok 35 rfl) pl9_45 (by decide) rfl ?_
    refine md_iload (dd D135_ok 36 rfl) rfl ?_
    refine md_iald (f := 12) (dd D135_ok 37 rfl) rfl (k.2 c1).1 ?_
    have J1 : ∀ s1 : Int32, s1 = (if (M.2 12 x8.toNatClampNeg) = 0 then x5 else x8) → md_wp xs mo ad h0 (d + 10) Q I135 69 [some (.ref mo), some (.int x1), some (.int x2), some (.int x3), some (.int x4), some (.int s1), some (.int x6), some (.int x7), some (.int x8), o9, o10, o11, o12] [] M := by
      intro s1 e_s1
      refine md_aload0 (dd D135_ok 41 rfl) rfl ?_
      refine md_getA (dd D135_ok 42 rfl) pl9_30 (by decide) rfl ?_
      refine md_iload (dd D135_ok 43 rfl) rfl ?_
      refine md_iald (f := 7) (dd D135_ok 44 rfl) rfl (k.2 c1).1 ?_
      refine md_istore (dd D135_ok 45 rfl) (Nat.le_of_ble_eq_true rfl) ?_
      refine md_goto (tgt := 49) (dd D135_ok 46 rfl) (by decide) ?_
      exact ((k.2 c1).2 s1 e_s1)
    refine md_if_eq (tgt := 69) (dd D135_ok 38 rfl) (by decide) (fun c3 => ?_) (fun c3 => ?_)
    · exact J1 _ (by first | rfl | rw [if_pos c3] | simp only [if_pos c3])
    · refine md_iload (dd D135_ok 39 rfl) rfl ?_
      refine md_istore (dd D135_ok 40 rfl) (Nat.le_of_ble_eq_true rfl) ?_
      exact J1 _ (by first | rfl | rw [if_neg c3] | simp only [if_neg c3])
set_option maxHeartbeats 1000000 in
theorem vc135_89 {xs : List Int32} {mo : Nat} {ad : Nat → Nat} (hD : md_D mo ad) {h0 : am_H} {d : Nat} {Q : Option Value → md_S → Prop} {M : md_S} {x1 : Int32} {x2 : Int32} {x3 : Int32} {x4 : Int32} {x5 : Int32} {x6 : Int32} {x7 : Int32} {x8 : Int32} {o9 : Option Value} {o10 : Option Value} {o11 : Option Value} {o12 : Option Value}
    (k : ((x8 = (-1)) → md_wp xs mo ad h0 (d + 10) Q I135 461 [some (.ref mo), some (.int x1), some (.int x2), some (.int x3), some (.int x4), some (.int x5), some (.int x6), some (.int (f_more x7 x2)), some (.int x8), some (.int 0), o10, o11, o12] [] M) ∧ (¬ (x8 = (-1)) → (vp_in x8 60) ∧ (((¬ (M.2 12 x8.toNatClampNeg) = 0) → (((f_isBox M x8) = 0) → (((¬ x3 = (-1)) → (vp_in x3 60) ∧ (True)) ∧ (¬ (¬ x3 = (-1)) → True)) ∧ (∀ s1 : Int32, s1 = (if ¬ x3 = (-1) then (x4 + (M.2 20 x3.toNatClampNeg)) else x2) → (∀ M1 : md_S, M1 = md_up1 M 37 s1 → (∀ M2 : md_S, M2 = md_up1 M1 41 0 → (∀ M3 : md_S, M3 = md_up1 M2 42 0 → (∀ M4 : md_S, M4 = md_up1 M3 53 0 → (∀ M5 : md_S, M5 = md_up1 M4 54 0 → (md_wp xs mo ad h0 (d + 10) Q I135 373 [some (.ref mo), some (.int x1), some (.int x2), some (.int x3), some (.int x4), some (.int x5), some (.int x6), some (.int x7), some (.int x8), o9, o10, o11, o12] [] M5)))))))) ∧ (¬ ((f_isBox M x8) = 0) → ((¬ (M.2 13 x8.toNatClampNeg) = 0) → (((¬ x3 = (-1)) → (vp_in x3 60) ∧ (True)) ∧ (¬ (¬ x3 = (-1)) → True)) ∧ (∀ s2 : Int32, s2 = (if ¬ x3 = (-1) then (x4 + (M.2 20 x3.toNatClampNeg)) else x2) → (∀ M6 : md_S, M6 = md_up1 M 37 s2 → (∀ M7 : md_S, M7 = md_up1 M6 41 0 → (∀ M8 : md_S, M8 = md_up1 M7 42 0 → (∀ M9 : md_S, M9 = md_up1 M8 53 0 → (∀ M10 : md_S, M10 = md_up1 M9 54 0 → (md_wp xs mo ad h0 (d + 10) Q I135 373 [some (.ref mo), some (.int x1), some (.int x2), some (.int x3), some (.int x4), some (.int x5), some (.int x6), some (.int x7), some (.int x8), o9, o10, o11, o12] [] M10)))))))) ∧ (¬ (¬ (M.2 13 x8.toNatClampNeg) = 0) → (((x6 = 0) → True) ∧ (¬ (x6 = 0) → (vp_in x1 60) ∧ ((¬ (x1 ≤ 0) → vp_in (M.2 4 x1.toNatClampNeg) 60) ∧ ((((f_joins M x1) = 0) → True) ∧ (¬ ((f_joins M x1) = 0) → True))))) ∧ (∀ s3 : Int32, s3 = (if x6 = 0 then 0 else (if (f_joins M x1) = 0 then 0 else 1)) → (∀ s4 : Int32, s4 = (if s3 = 0 then (M.2 19 x8.toNatClampNeg) else 0) → ((((¬ x3 = (-1)) → (vp_in x3 60) ∧ (True)) ∧ (¬ (¬ x3 = (-1)) → True)) ∧ (∀ s5 : Int32, s5 = (if ¬ x3 = (-1) then (x4 + (f_more (M.2 20 x3.toNatClampNeg) s4)) else (x2 + s4)) → (md_wp xs mo ad h0 (d + 10) Q I135 205 [some (.ref mo), some (.int x1), some (.int x2), some (.int x3), some (.int x4), some (.int x5), some (.int x6), some (.int x7), some (.int x8), some (.int s3), some (.int s4), some (.int s5), some (.int 0)] [] M)))))))) ∧ (¬ (¬ (M.2 12 x8.toNatClampNeg) = 0) → md_wp xs mo ad h0 (d + 10) Q I135 89 [some (.ref mo), some (.int x1), some (.int x2), some (.int x3), some (.int x4), some (.int x5), some (.int x6), some (.int x7), some (.int (M.2 7 x8.toNatClampNeg)), o9, o10, o11, o12] [] M)))) :
    md_wp xs mo ad h0 (d + 10) Q I135 89 [some (.ref mo), some (.int x1), some (.int x2), some (.int x3), some (.int x4), some (.int x5), some (.int x6), some (.int x7), some (.int x8), o9, o10, o11, o12] [] M := by
  refine md_iload (dd D135_ok 52 rfl) rfl ?_
  refine md_iconst (v := (-1)) (dd D135_ok 53 rfl) (by decide) ?_
  refine md_icmp_eq (tgt := 450) (dd D135_ok 54 rfl) (by decide) (fun c1 => ?_) (fun c1 => ?_)
  · refine md_iload (dd D135_ok 243 rfl) rfl ?_
    refine md_iload_n (dd D135_ok 244 rfl) rfl ?_
    refine md_callS (as := [.int x7, .int x2]) (rest := []) (dd D135_ok 245 rfl) pl9_175 rfl (Nat.le_of_ble_eq_true rfl) (c_f_more ) rfl ?_
    refine md_istore (dd D135_ok 246 rfl) (Nat.le_of_ble_eq_true rfl) ?_
    refine md_iconst (v := 0) (dd D135_ok 247 rfl) (by decide) ?_
    refine md_istore (dd D135_ok 248 rfl) (Nat.le_of_ble_eq_true rfl) ?_
    exact (k.1 c1)
  · refine md_aload0 (dd D135_ok 55 rfl) rfl ?_
    refine md_getA (dd D135_ok 56 rfl) pl9_45 (by decide) rfl ?_
    refine md_iload (dd D135_ok 57 rfl) rfl ?_
    refine md_iald (f := 12) (dd D135_ok 58 rfl) rfl (k.2 c1).1 ?_
    refine md_if_ne (tgt := 117) (dd D135_ok 59 rfl) (by decide) (fun c2 => ?_) (fun c2 => ?_)
    · refine md_aload0 (dd D135_ok 66 rfl) rfl ?_
      refine md_iload (dd D135_ok 67 rfl) rfl ?_
      refine md_callI (as := [.int x8]) (rest := []) (dd D135_ok 68 rfl) pl9_181 rfl (Nat.le_of_ble_eq_true rfl) (ms117 xs) rfl (c_f_isBox hD (k.2 c1).1) rfl ?_
      refine md_if_eq (tgt := 331) (dd D135_ok 69 rfl) (by decide) (fun c3 => ?_) (fun c3 => ?_)
      · refine md_aload0 (dd D135_ok 179 rfl) rfl ?_
        refine md_iload_n (dd D135_ok 180 rfl) rfl ?_
        refine md_iconst (v := (-1)) (dd D135_ok 181 rfl) (by decide) ?_
        have J1 : ∀ s1 : Int32, s1 = (if ¬ x3 = (-1) then (x4 + (M.2 20 x3.toNatClampNeg)) else x2) → md_wp xs mo ad h0 (d + 10) Q I135 350 [some (.ref mo), some (.int x1), some (.int x2), some (.int x3), some (.int x4), some (.int x5), some (.int x6), some (.int x7), some (.int x8), o9, o10, o11, o12] [.int s1, .ref mo] M := by
          intro s1 e_s1
          refine md_putI hD (dd D135_ok 191 rfl) pl9_251 (by decide) rfl rfl rfl ?_
          refine md_nm (fun M1 e1 => ?_)
          refine md_aload0 (dd D135_ok 192 rfl) rfl ?_
          refine md_iconst (v := 0) (dd D135_ok 193 rfl) (by decide) ?_
          refine md_putI hD (dd D135_ok 194 rfl) pl9_266 (by decide) rfl rfl rfl ?_
          refine md_nm (fun M2 e2 => ?_)
          refine md_aload0 (dd D135_ok 195 rfl) rfl ?_
          refine md_iconst (v := 0) (dd D135_ok 196 rfl) (by decide) ?_
          refine md_putI hD (dd D135_ok 197 rfl) pl9_269 (by decide) rfl rfl rfl ?_
          refine md_nm (fun M3 e3 => ?_)
          refine md_aload0 (dd D135_ok 198 rfl) rfl ?_
          refine md_iconst (v := 0) (dd D135_ok 199 rfl) (by decide) ?_
          refine md_putI hD (dd D135_ok 200 rfl) pl9_279 (by decide) rfl rfl rfl ?_
          refine md_nm (fun M4 e4 => ?_)
          refine md_aload0 (dd D135_ok 201 rfl) rfl ?_
          refine md_iconst (v := 0) (dd D135_ok 202 rfl) (by decide) ?_
          refine md_putI hD (dd D135_ok 203 rfl) pl9_275 (by decide) rfl rfl rfl ?_
          refine md_nm (fun M5 e5 => ?_)
          exact (((((((((k.2 c1).2.1 c2).1 c3).2 s1 e_s1) M1 e1) M2 e2) M3 e3) M4 e4) M5 e5)
        refine md_icmp_ne (tgt := 341) (dd D135_ok 182 rfl) (by decide) (fun c5 => ?_) (fun c5 => ?_)
        · refine md_iload (dd D135_ok 185 rfl) rfl ?_
          refine md_aload0 (dd D135_ok 186 rfl) rfl ?_
          refine md_getA (dd D135_ok 187 rfl) pl9_70 (by decide) rfl ?_
          refine md_iload_n (dd D135_ok 188 rfl) rfl ?_
          refine md_iald (f := 20) (dd D135_ok 189 rfl) rfl ((((k.2 c1).2.1 c2).1 c3).1.1 c5).1 ?_
          refine md_iadd (dd D135_ok 190 rfl) ?_
          exact J1 _ (by first | rfl | rw [if_pos c5] | simp only [if_pos c5])
        · refine md_iload_n (dd D135_ok 183 rfl) rfl ?_
          refine md_goto (tgt := 350) (dd D135_ok 184 rfl) (by decide) ?_
          exact J1 _ (by first | rfl | rw [if_neg c5] | simp only [if_neg c5])
      · refine md_aload0 (dd D135_ok 70 rfl) rfl ?_
        refine md_getA (dd D135_ok 71 rfl) pl9_48 (by decide) rfl ?_
        refine md_iload (dd D135_ok 72 rfl) rfl ?_
        refine md_bald (f := 13) (dd D135_ok 73 rfl) rfl (Or.inr rfl) (k.2 c1).1 ?_
        refine md_if_ne (tgt := 331) (dd D135_ok 74 rfl) (by decide) (fun c6 => ?_) (fun c6 => ?_)
        · refine md_aload0 (dd D135_ok 179 rfl) rfl ?_
          refine md_iload_n (dd D135_ok 180 rfl) rfl ?_
          refine md_iconst (v := (-1)) (dd D135_ok 181 rfl) (by decide) ?_
          have J2 : ∀ s2 : Int32, s2 = (if ¬ x3 = (-1) then (x4 + (M.2 20 x3.toNatClampNeg)) else x2) → md_wp xs mo ad h0 (d + 10) Q I135 350 [some (.ref mo), some (.int x1), some (.int x2), some (.int x3), some (.int x4), some (.int x5), some (.int x6), some (.int x7), some (.int x8), o9, o10, o11, o12] [.int s2, .ref mo] M := by
            intro s2 e_s2
            refine md_putI hD (dd D135_ok 191 rfl) pl9_251 (by decide) rfl rfl rfl ?_
            refine md_nm (fun M6 e6 => ?_)
            refine md_aload0 (dd D135_ok 192 rfl) rfl ?_
            refine md_iconst (v := 0) (dd D135_ok 193 rfl) (by decide) ?_
            refine md_putI hD (dd D135_ok 194 rfl) pl9_266 (by decide) rfl rfl rfl ?_
            refine md_nm (fun M7 e7 => ?_)
            refine md_aload0 (dd D135_ok 195 rfl) rfl ?_
            refine md_iconst (v := 0) (dd D135_ok 196 rfl) (by decide) ?_
            refine md_putI hD (dd D135_ok 197 rfl) pl9_269 (by decide) rfl rfl rfl ?_
            refine md_nm (fun M8 e8 => ?_)
            refine md_aload0 (dd D135_ok 198 rfl) rfl ?_
            refine md_iconst (v := 0) (dd D135_ok 199 rfl) (by decide) ?_
            refine md_putI hD (dd D135_ok 200 rfl) pl9_279 (by decide) rfl rfl rfl ?_
            refine md_nm (fun M9 e9 => ?_)
            refine md_aload0 (dd D135_ok 201 rfl) rfl ?_
            refine md_iconst (v := 0) (dd D135_ok 202 rfl) (by decide) ?_
            refine md_putI hD (dd D135_ok 203 rfl) pl9_275 (by decide) rfl rfl rfl ?_
            refine md_nm (fun M10 e10 => ?_)
            exact ((((((((((k.2 c1).2.1 c2).2 c3).1 c6).2 s2 e_s2) M6 e6) M7 e7) M8 e8) M9 e9) M10 e10)
          refine md_icmp_ne (tgt := 341) (dd D135_ok 182 rfl) (by decide) (fun c8 => ?_) (fun c8 => ?_)
          · refine md_iload (dd D135_ok 185 rfl) rfl ?_
            refine md_aload0 (dd D135_ok 186 rfl) rfl ?_
            refine md_getA (dd D135_ok 187 rfl) pl9_70 (by decide) rfl ?_
            refine md_iload_n (dd D135_ok 188 rfl) rfl ?_
            refine md_iald (f := 20) (dd D135_ok 189 rfl) rfl (((((k.2 c1).2.1 c2).2 c3).1 c6).1.1 c8).1 ?_
            refine md_iadd (dd D135_ok 190 rfl) ?_
            exact J2 _ (by first | rfl | rw [if_pos c8] | simp only [if_pos c8])
          · refine md_iload_n (dd D135_ok 183 rfl) rfl ?_
            refine md_goto (tgt := 350) (dd D135_ok 184 rfl) (by decide) ?_
            exact J2 _ (by first | rfl | rw [if_neg c8] | simp only [if_neg c8])
        · refine md_iload (dd D135_ok 75 rfl) rfl ?_
          have J3 : ∀ s3 : Int32, s3 = (if x6 = 0 then 0 else (if (f_joins M x1) = 0 then 0 else 1)) → md_wp xs mo ad h0 (d + 10) Q I135 154 [some (.ref mo), some (.int x1), some (.int x2), some (.int x3), some (.int x4), some (.int x5), some (.int x6), some (.int x7), some (.int x8), o9, o10, o11, o12] [.int s3] M := by
            intro s3 e_s3
            refine md_istore (dd D135_ok 84 rfl) (Nat.le_of_ble_eq_true rfl) ?_
            refine md_iload (dd D135_ok 85 rfl) rfl ?_
            have J4 : ∀ s4 : Int32, s4 = (if s3 = 0 then (M.2 19 x8.toNatClampNeg) else 0) → md_wp xs mo ad h0 (d + 10) Q I135 172 [some (.ref mo), some (.int x1), some (.int x2), some (.int x3), some (.int x4), some (.int x5), some (.int x6), some (.int x7), some (.int x8), some (.int s3), o10, o11, o12] [.int s4] M := by
              intro s4 e_s4
              refine md_istore (dd D135_ok 93 rfl) (Nat.le_of_ble_eq_true rfl) ?_
              refine md_iload_n (dd D135_ok 94 rfl) rfl ?_
              refine md_iconst (v := (-1)) (dd D135_ok 95 rfl) (by decide) ?_
              have J5 : ∀ s5 : Int32, s5 = (if ¬ x3 = (-1) then (x4 + (f_more (M.2 20 x3.toNatClampNeg) s4)) else (x2 + s4)) → md_wp xs mo ad h0 (d + 10) Q I135 200 [some (.ref mo), some (.int x1), some (.int x2), some (.int x3), some (.int x4), some (.int x5), some (.int x6), some (.int x7), some (.int x8), some (.int s3), some (.int s4), o11, o12] [.int s5] M := by
                intro s5 e_s5
                refine md_istore (dd D135_ok 109 rfl) (Nat.le_of_ble_eq_true rfl) ?_
                refine md_iconst (v := 0) (dd D135_ok 110 rfl) (by decide) ?_
                refine md_istore (dd D135_ok 111 rfl) (Nat.le_of_ble_eq_true rfl) ?_
                exact (((((((k.2 c1).2.1 c2).2 c3).2 c6).2 s3 e_s3) s4 e_s4).2 s5 e_s5)
              refine md_icmp_ne (tgt := 186) (dd D135_ok 96 rfl) (by decide) (fun c12 => ?_) (fun c12 => ?_)
              · refine md_iload (dd D135_ok 101 rfl) rfl ?_
                refine md_aload0 (dd D135_ok 102 rfl) rfl ?_
                refine md_getA (dd D135_ok 103 rfl) pl9_70 (by decide) rfl ?_
                refine md_iload_n (dd D135_ok 104 rfl) rfl ?_
                refine md_iald (f := 20) (dd D135_ok 105 rfl) rfl (((((((k.2 c1).2.1 c2).2 c3).2 c6).2 s3 e_s3) s4 e_s4).1.1 c12).1 ?_
                refine md_iload (dd D135_ok 106 rfl) rfl ?_
                refine md_callS (as := [.int (M.2 20 x3.toNatClampNeg), .int s4]) (rest := [.int x4]) (dd D135_ok 107 rfl) pl9_175 rfl (Nat.le_of_ble_eq_true rfl) (c_f_more ) rfl ?_
                refine md_iadd (dd D135_ok 108 rfl) ?_
                exact J5 _ (by first | rfl | rw [if_pos c12] | simp only [if_pos c12])
              · refine md_iload_n (dd D135_ok 97 rfl) rfl ?_
                refine md_iload (dd D135_ok 98 rfl) rfl ?_
                refine md_iadd (dd D135_ok 99 rfl) ?_
                refine md_goto (tgt := 200) (dd D135_ok 100 rfl) (by decide) ?_
                exact J5 _ (by first | rfl | rw [if_neg c12] | simp only [if_neg c12])
            refine md_if_eq (tgt := 165) (dd D135_ok 86 rfl) (by decide) (fun c13 => ?_) (fun c13 => ?_)
            · refine md_aload0 (dd D135_ok 89 rfl) rfl ?_
              refine md_getA (dd D135_ok 90 rfl) pl9_67 (by decide) rfl ?_
              refine md_iload (dd D135_ok 91 rfl) rfl ?_
              refine md_iald (f := 19) (dd D135_ok 92 rfl) rfl (k.2 c1).1 ?_
              exact J4 _ (by first | rfl | rw [if_pos c13] | simp only [if_pos c13])
            · refine md_iconst (v := 0) (dd D135_ok 87 rfl) (by decide) ?_
              refine md_goto (tgt := 172) (dd D135_ok 88 rfl) (by decide) ?_
              exact J4 _ (by first | rfl | rw [if_neg c13] | simp only [if_neg c13])
          refine md_if_eq (tgt := 153) (dd D135_ok 76 rfl) (by decide) (fun c14 => ?_) (fun c14 => ?_)
          · refine md_iconst (v := 0) (dd D135_ok 83 rfl) (by decide) ?_
            exact J3 _ (by first | rfl | rw [if_pos c14] | simp only [if_pos c14])
          · refine md_aload0 (dd D135_ok 77 rfl) rfl ?_
            refine md_iload_n (dd D135_ok 78 rfl) rfl ?_
            refine md_callI (as := [.int x1]) (rest := []) (dd D135_ok 79 rfl) pl9_193 rfl (Nat.le_of_ble_eq_true rfl) (ms123 xs) rfl (c_f_joins hD (((((k.2 c1).2.1 c2).2 c3).2 c6).1.2 c14).1 (((((k.2 c1).2.1 c2).2 c3).2 c6).1.2 c14).2.1) rfl ?_
            refine md_if_eq (tgt := 153) (dd D135_ok 80 rfl) (by decide) (fun c15 => ?_) (fun c15 => ?_)
            · refine md_iconst (v := 0) (dd D135_ok 83 rfl) (by decide) ?_
              exact J3 _ (by first | rfl | rw [if_neg c14, if_pos c15] | simp only [if_neg c14, if_pos c15])
            · refine md_iconst (v := 1) (dd D135_ok 81 rfl) (by decide) ?_
              refine md_goto (tgt := 154) (dd D135_ok 82 rfl) (by decide) ?_
              exact J3 _ (by first | rfl | rw [if_neg c14, if_neg c15] | simp only [if_neg c14, if_neg c15])
    · refine md_aload0 (dd D135_ok 60 rfl) rfl ?_
      refine md_getA (dd D135_ok 61 rfl) pl9_30 (by decide) rfl ?_
      refine md_iload (dd D135_ok 62 rfl) rfl ?_
      refine md_iald (f := 7) (dd D135_ok 63 rfl) rfl (k.2 c1).1 ?_
      refine md_istore (dd D135_ok 64 rfl) (Nat.le_of_ble_eq_true rfl) ?_
      refine md_goto (tgt := 89) (dd D135_ok 65 rfl) (by decide) ?_
      exact ((k.2 c1).2.2 c2)
set_option maxHeartbeats 1000000 in
theorem vc135_205 {xs : List Int32} {mo : Nat} {ad : Nat → Nat} (hD : md_D mo ad) {h0 : am_H} {d : Nat} {Q : Option Value → md_S → Prop} {M : md_S} {x1 : Int32} {x2 : Int32} {x3 : Int32} {x4 : Int32} {x5 : Int32} {x6 : Int32} {x7 : Int32} {x8 : Int32} {x9 : Int32} {x10 : Int32} {x11 : Int32} {x12 : Int32}
    (k : (((M.1 46) ≤ x12) → (vp_in x8 60) ∧ (∀ M1 : md_S, M1 = md_up2 M 15 x8.toNatClampNeg (f_of M x8 4) → (∀ M2 : md_S, M2 = md_up2 M1 16 x8.toNatClampNeg x11 → ((((¬ x8 = x5) → True) ∧ (¬ (¬ x8 = x5) → (vp_in x1 60) ∧ ((¬ (x1 ≤ 0) → vp_in (M2.2 4 x1.toNatClampNeg) 60) ∧ ((((f_joins M2 x1) = 0) → True) ∧ (¬ ((f_joins M2 x1) = 0) → ((¬ (f_of M2 x1 3) = (-1)) → True) ∧ (¬ (¬ (f_of M2 x1 3) = (-1)) → True)))))) ∧ (∀ s1 : Int32, s1 = (if ¬ x8 = x5 then (M2.2 20 x8.toNatClampNeg) else (if (f_joins M2 x1) = 0 then (M2.2 20 x8.toNatClampNeg) else (if ¬ (f_of M2 x1 3) = (-1) then (M2.2 20 x8.toNatClampNeg) else 0))) → (md_wp xs mo ad h0 (d + 10) Q I135 89 [some (.ref mo), some (.int x1), some (.int (x11 + (M2.2 18 x8.toNatClampNeg))), some (.int x8), some (.int (x11 + (M2.2 18 x8.toNatClampNeg))), some (.int x5), some (.int 0), some (.int (f_more x7 ((x11 + (M2.2 18 x8.toNatClampNeg)) + s1))), some (.int (M2.2 7 x8.toNatClampNeg)), some (.int x9), some (.int x10), some (.int x11), some (.int x12)] [] M2)))))) ∧ (¬ ((M.1 46) ≤ x12) → (vp_in x12 60) ∧ (md_wp xs mo ad h0 (d + 10) Q I135 205 [some (.ref mo), some (.int x1), some (.int x2), some (.int x3), some (.int x4), some (.int x5), some (.int x6), some (.int x7), some (.int x8), some (.int x9), some (.int x10), some (.int (f_more x11 (M.2 50 x12.toNatClampNeg))), some (.int (x12 + 1))] [] M))) :
    md_wp xs mo ad h0 (d + 10) Q I135 205 [some (.ref mo), some (.int x1), some (.int x2), some (.int x3), some (.int x4), some (.int x5), some (.int x6), some (.int x7), some (.int x8), some (.int x9), some (.int x10), some (.int x11), some (.int x12)] [] M := by
  refine md_iload (dd D135_ok 112 rfl) rfl ?_
  refine md_aload0 (dd D135_ok 113 rfl) rfl ?_
  refine md_getI (dd D135_ok 114 rfl) pl9_244 (by decide) rfl ?_
  refine md_icmp_ge (tgt := 234) (dd D135_ok 115 rfl) (by decide) (fun c1 => ?_) (fun c1 => ?_)
  · refine md_aload0 (dd D135_ok 125 rfl) rfl ?_
    refine md_getA (dd D135_ok 126 rfl) pl9_55 (by decide) rfl ?_
    refine md_iload (dd D135_ok 127 rfl) rfl ?_
    refine md_aload0 (dd D135_ok 128 rfl) rfl ?_
    refine md_iload (dd D135_ok 129 rfl) rfl ?_
    refine md_iconst (v := 4) (dd D135_ok 130 rfl) (by decide) ?_
    refine md_callI (as := [.int x8, .int 4]) (rest := [.int x8, .ref (ad 15)]) (dd D135_ok 131 rfl) pl9_168 rfl (Nat.le_of_ble_eq_true rfl) (ms118 xs) rfl (c_f_of hD (k.1 c1).1 (md_vl (by decide))) rfl ?_
    refine md_iast (f := 15) hD (dd D135_ok 132 rfl) rfl (k.1 c1).1 ?_
    refine md_nm (fun M1 e1 => ?_)
    refine md_aload0 (dd D135_ok 133 rfl) rfl ?_
    refine md_getA (dd D135_ok 134 rfl) pl9_58 (by decide) rfl ?_
    refine md_iload (dd D135_ok 135 rfl) rfl ?_
    refine md_iload (dd D135_ok 136 rfl) rfl ?_
    refine md_iast (f := 16) hD (dd D135_ok 137 rfl) rfl (k.1 c1).1 ?_
    refine md_nm (fun M2 e2 => ?_)
    refine md_iload (dd D135_ok 138 rfl) rfl ?_
    refine md_aload0 (dd D135_ok 139 rfl) rfl ?_
    refine md_getA (dd D135_ok 140 rfl) pl9_64 (by decide) rfl ?_
    refine md_iload (dd D135_ok 141 rfl) rfl ?_
    refine md_iald (f := 18) (dd D135_ok 142 rfl) rfl (k.1 c1).1 ?_
    refine md_iadd (dd D135_ok 143 rfl) ?_
    refine md_istore_n (dd D135_ok 144 rfl) (Nat.le_of_ble_eq_true rfl) ?_
    refine md_iload (dd D135_ok 145 rfl) rfl ?_
    refine md_istore_n (dd D135_ok 146 rfl) (Nat.le_of_ble_eq_true rfl) ?_
    refine md_iload_n (dd D135_ok 147 rfl) rfl ?_
    refine md_istore (dd D135_ok 148 rfl) (Nat.le_of_ble_eq_true rfl) ?_
    refine md_iload (dd D135_ok 149 rfl) rfl ?_
    refine md_iload_n (dd D135_ok 150 rfl) rfl ?_
    refine md_iload (dd D135_ok 151 rfl) rfl ?_
    refine md_iload (dd D135_ok 152 rfl) rfl ?_
    have J1 : ∀ s1 : Int32, s1 = (if ¬ x8 = x5 then (M2.2 20 x8.toNatClampNeg) else (if (f_joins M2 x1) = 0 then (M2.2 20 x8.toNatClampNeg) else (if ¬ (f_of M2 x1 3) = (-1) then (M2.2 20 x8.toNatClampNeg) else 0))) → md_wp xs mo ad h0 (d + 10) Q I135 313 [some (.ref mo), some (.int x1), some (.int (x11 + (M2.2 18 x8.toNatClampNeg))), some (.int x8), some (.int (x11 + (M2.2 18 x8.toNatClampNeg))), some (.int x5), some (.int x6), some (.int x7), some (.int x8), some (.int x9), some (.int x10), some (.int x11), some (.int x12)] [.int s1, .int (x11 + (M2.2 18 x8.toNatClampNeg)), .int x7] M2 := by
      intro s1 e_s1
      refine md_iadd (dd D135_ok 170 rfl) ?_
      refine md_callS (as := [.int x7, .int ((x11 + (M2.2 18 x8.toNatClampNeg)) + s1)]) (rest := []) (dd D135_ok 171 rfl) pl9_175 rfl (Nat.le_of_ble_eq_true rfl) (c_f_more ) rfl ?_
      refine md_istore (dd D135_ok 172 rfl) (Nat.le_of_ble_eq_true rfl) ?_
      refine md_aload0 (dd D135_ok 173 rfl) rfl ?_
      refine md_getA (dd D135_ok 174 rfl) pl9_30 (by decide) rfl ?_
      refine md_iload (dd D135_ok 175 rfl) rfl ?_
      refine md_iald (f := 7) (dd D135_ok 176 rfl) rfl (k.1 c1).1 ?_
      refine md_istore (dd D135_ok 177 rfl) (Nat.le_of_ble_eq_true rfl) ?_
      refine md_goto (tgt := 444) (dd D135_ok 178 rfl) (by decide) ?_
      refine md_iconst (v := 0) (dd D135_ok 240 rfl) (by decide) ?_
      refine md_istore (dd D135_ok 241 rfl) (Nat.le_of_ble_eq_true rfl) ?_
      refine md_goto (tgt := 89) (dd D135_ok 242 rfl) (by decide) ?_
      exact ((((k.1 c1).2 M1 e1) M2 e2).2 s1 e_s1)
    refine md_icmp_ne (tgt := 306) (dd D135_ok 153 rfl) (by decide) (fun c3 => ?_) (fun c3 => ?_)
    · refine md_aload0 (dd D135_ok 166 rfl) rfl ?_
      refine md_getA (dd D135_ok 167 rfl) pl9_70 (by decide) rfl ?_
      refine md_iload (dd D135_ok 168 rfl) rfl ?_
      refine md_iald (f := 20) (dd D135_ok 169 rfl) rfl (k.1 c1).1 ?_
      exact J1 _ (by first | rfl | rw [if_pos c3] | simp only [if_pos c3])
    · refine md_aload0 (dd D135_ok 154 rfl) rfl ?_
      refine md_iload_n (dd D135_ok 155 rfl) rfl ?_
      refine md_callI (as := [.int x1]) (rest := [.int (x11 + (M2.2 18 x8.toNatClampNeg)), .int x7]) (dd D135_ok 156 rfl) pl9_193 rfl (Nat.le_of_ble_eq_true rfl) (ms123 xs) rfl (c_f_joins hD ((((k.1 c1).2 M1 e1) M2 e2).1.2 c3).1 ((((k.1 c1).2 M1 e1) M2 e2).1.2 c3).2.1) rfl ?_
      refine md_if_eq (tgt := 306) (dd D135_ok 157 rfl) (by decide) (fun c4 => ?_) (fun c4 => ?_)
      · refine md_aload0 (dd D135_ok 166 rfl) rfl ?_
        refine md_getA (dd D135_ok 167 rfl) pl9_70 (by decide) rfl ?_
        refine md_iload (dd D135_ok 168 rfl) rfl ?_
        refine md_iald (f := 20) (dd D135_ok 169 rfl) rfl (k.1 c1).1 ?_
        exact J1 _ (by first | rfl | rw [if_neg c3, if_pos c4] | simp only [if_neg c3, if_pos c4])
      · refine md_aload0 (dd D135_ok 158 rfl) rfl ?_
        refine md_iload_n (dd D135_ok 159 rfl) rfl ?_
        refine md_iconst (v := 3) (dd D135_ok 160 rfl) (by decide) ?_
        refine md_callI (as := [.int x1, .int 3]) (rest := [.int (x11 + (M2.2 18 x8.toNatClampNeg)), .int x7]) (dd D135_ok 161 rfl) pl9_168 rfl (Nat.le_of_ble_eq_true rfl) (ms118 xs) rfl (c_f_of hD ((((k.1 c1).2 M1 e1) M2 e2).1.2 c3).1 (md_vl (by decide))) rfl ?_
        refine md_iconst (v := (-1)) (dd D135_ok 162 rfl) (by decide) ?_
        refine md_icmp_ne (tgt := 306) (dd D135_ok 163 rfl) (by decide) (fun c5 => ?_) (fun c5 => ?_)
        · refine md_aload0 (dd D135_ok 166 rfl) rfl ?_
          refine md_getA (dd D135_ok 167 rfl) pl9_70 (by decide) rfl ?_
          refine md_iload (dd D135_ok 168 rfl) rfl ?_
          refine md_iald (f := 20) (dd D135_ok 169 rfl) rfl (k.1 c1).1 ?_
          exact J1 _ (by first | rfl | rw [if_neg c3, if_neg c4, if_pos c5] | simp only [if_neg c3, if_neg c4, if_pos c5])
        · refine md_iconst (v := 0) (dd D135_ok 164 rfl) (by decide) ?_
          refine md_goto (tgt := 313) (dd D135_ok 165 rfl) (by decide) ?_
          exact J1 _ (by first | rfl | rw [if_neg c3, if_neg c4, if_neg c5] | simp only [if_neg c3, if_neg c4, if_neg c5])
  · refine md_iload (dd D135_ok 116 rfl) rfl ?_
    refine md_aload0 (dd D135_ok 117 rfl) rfl ?_
    refine md_getA (dd D135_ok 118 rfl) pl9_130 (by decide) rfl ?_
    refine md_iload (dd D135_ok 119 rfl) rfl ?_
    refine md_iald (f := 50) (dd D135_ok 120 rfl) rfl (k.2 c1).1 ?_
    refine md_callS (as := [.int x11, .int (M.2 50 x12.toNatClampNeg)]) (rest := []) (dd D135_ok 121 rfl) pl9_175 rfl (Nat.le_of_ble_eq_true rfl) (c_f_more ) rfl ?_
    refine md_istore (dd D135_ok 122 rfl) (Nat.le_of_ble_eq_true rfl) ?_
    refine md_iinc (v := x12 + 1) (dd D135_ok 123 rfl) rfl rfl ?_
    refine md_goto (tgt := 205) (dd D135_ok 124 rfl) (by decide) ?_
    exact (k.2 c1).2
set_option maxHeartbeats 1000000 in
theorem vc135_373 {xs : List Int32} {mo : Nat} {ad : Nat → Nat} (hD : md_D mo ad) {h0 : am_H} {d : Nat} {Q : Option Value → md_S → Prop} {M : md_S} {x1 : Int32} {x2 : Int32} {x3 : Int32} {x4 : Int32} {x5 : Int32} {x6 : Int32} {x7 : Int32} {x8 : Int32} {o9 : Option Value} {o10 : Option Value} {o11 : Option Value} {o12 : Option Value}
    (k : ((x8 = (-1)) → (((M.1 41) ≤ 0) → md_wp xs mo ad h0 (d + 10) Q I135 89 [some (.ref mo), some (.int x1), some (.int (M.1 37)), some (.int (-1)), some (.int x4), some (.int x5), some (.int 0), some (.int x7), some (.int x8), o9, o10, o11, o12] [] M) ∧ (¬ ((M.1 41) ≤ 0) → md_C xs mo ad (d + 10) 143 [] M (fun v N1 => v = none ∧ (md_wp xs mo ad h0 (d + 10) Q I135 89 [some (.ref mo), some (.int x1), some (.int (N1.1 37)), some (.int (-1)), some (.int x4), some (.int x5), some (.int 0), some (.int x7), some (.int x8), o9, o10, o11, o12] [] N1)))) ∧ (¬ (x8 = (-1)) → (vp_in x8 60) ∧ ((((f_isBox M x8) = 0) → (((M.2 12 x8.toNatClampNeg) = 0) → md_wp xs mo ad h0 (d + 10) Q I135 373 [some (.ref mo), some (.int x1), some (.int x2), some (.int x3), some (.int x4), some (.int x5), some (.int x6), some (.int x7), some (.int (M.2 7 x8.toNatClampNeg)), o9, o10, o11, o12] [] M) ∧ (¬ ((M.2 12 x8.toNatClampNeg) = 0) → md_C xs mo ad (d + 10) 136 [.int x8] M (fun v N2 => v = none ∧ ((vp_in x8 60) ∧ (md_wp xs mo ad h0 (d + 10) Q I135 373 [some (.ref mo), some (.int x1), some (.int x2), some (.int x3), some (.int x4), some (.int x5), some (.int x6), some (.int x7), some (.int (N2.2 7 x8.toNatClampNeg)), o9, o10, o11, o12] [] N2))))) ∧ (¬ ((f_isBox M x8) = 0) → (((M.2 13 x8.toNatClampNeg) = 0) → (((M.1 41) ≤ 0) → md_wp xs mo ad h0 (d + 10) Q I135 89 [some (.ref mo), some (.int x1), some (.int (M.1 37)), some (.int (-1)), some (.int x4), some (.int x5), some (.int 0), some (.int x7), some (.int x8), o9, o10, o11, o12] [] M) ∧ (¬ ((M.1 41) ≤ 0) → md_C xs mo ad (d + 10) 143 [] M (fun v N3 => v = none ∧ (md_wp xs mo ad h0 (d + 10) Q I135 89 [some (.ref mo), some (.int x1), some (.int (N3.1 37)), some (.int (-1)), some (.int x4), some (.int x5), some (.int 0), some (.int x7), some (.int x8), o9, o10, o11, o12] [] N3)))) ∧ (¬ ((M.2 13 x8.toNatClampNeg) = 0) → (((M.2 12 x8.toNatClampNeg) = 0) → md_wp xs mo ad h0 (d + 10) Q I135 373 [some (.ref mo), some (.int x1), some (.int x2), some (.int x3), some (.int x4), some (.int x5), some (.int x6), some (.int x7), some (.int (M.2 7 x8.toNatClampNeg)), o9, o10, o11, o12] [] M) ∧ (¬ ((M.2 12 x8.toNatClampNeg) = 0) → md_C xs mo ad (d + 10) 136 [.int x8] M (fun v N4 => v = none ∧ ((vp_in x8 60) ∧ (md_wp xs mo ad h0 (d + 10) Q I135 373 [some (.ref mo), some (.int x1), some (.int x2), some (.int x3), some (.int x4), some (.int x5), some (.int x6), some (.int x7), some (.int (N4.2 7 x8.toNatClampNeg)), o9, o10, o11, o12] [] N4))))))))) :
    md_wp xs mo ad h0 (d + 10) Q I135 373 [some (.ref mo), some (.int x1), some (.int x2), some (.int x3), some (.int x4), some (.int x5), some (.int x6), some (.int x7), some (.int x8), o9, o10, o11, o12] [] M := by
  refine md_iload (dd D135_ok 204 rfl) rfl ?_
  refine md_iconst (v := (-1)) (dd D135_ok 205 rfl) (by decide) ?_
  refine md_icmp_eq (tgt := 426) (dd D135_ok 206 rfl) (by decide) (fun c1 => ?_) (fun c1 => ?_)
  · refine md_aload0 (dd D135_ok 230 rfl) rfl ?_
    refine md_getI (dd D135_ok 231 rfl) pl9_266 (by decide) rfl ?_
    refine md_if_le (tgt := 437) (dd D135_ok 232 rfl) (by decide) (fun c2 => ?_) (fun c2 => ?_)
    · refine md_aload0 (dd D135_ok 235 rfl) rfl ?_
      refine md_getI (dd D135_ok 236 rfl) pl9_251 (by decide) rfl ?_
      refine md_istore_n (dd D135_ok 237 rfl) (Nat.le_of_ble_eq_true rfl) ?_
      refine md_iconst (v := (-1)) (dd D135_ok 238 rfl) (by decide) ?_
      refine md_istore_n (dd D135_ok 239 rfl) (Nat.le_of_ble_eq_true rfl) ?_
      refine md_iconst (v := 0) (dd D135_ok 240 rfl) (by decide) ?_
      refine md_istore (dd D135_ok 241 rfl) (Nat.le_of_ble_eq_true rfl) ?_
      refine md_goto (tgt := 89) (dd D135_ok 242 rfl) (by decide) ?_
      exact ((k.1 c1).1 c2)
    · refine md_aload0 (dd D135_ok 233 rfl) rfl ?_
      refine md_call (as := []) (rest := []) (dd D135_ok 234 rfl) pl9_285 rfl (Nat.le_of_ble_eq_true rfl) (ms143 xs) rfl ((((k.1 c1).2 c2)).mono ?_) rfl
      rintro v N1 ⟨rfl, w1⟩
      refine md_aload0 (dd D135_ok 235 rfl) rfl ?_
      refine md_getI (dd D135_ok 236 rfl) pl9_251 (by decide) rfl ?_
      refine md_istore_n (dd D135_ok 237 rfl) (Nat.le_of_ble_eq_true rfl) ?_
      refine md_iconst (v := (-1)) (dd D135_ok 238 rfl) (by decide) ?_
      refine md_istore_n (dd D135_ok 239 rfl) (Nat.le_of_ble_eq_true rfl) ?_
      refine md_iconst (v := 0) (dd D135_ok 240 rfl) (by decide) ?_
      refine md_istore (dd D135_ok 241 rfl) (Nat.le_of_ble_eq_true rfl) ?_
      refine md_goto (tgt := 89) (dd D135_ok 242 rfl) (by decide) ?_
      exact w1
  · refine md_aload0 (dd D135_ok 207 rfl) rfl ?_
    refine md_iload (dd D135_ok 208 rfl) rfl ?_
    refine md_callI (as := [.int x8]) (rest := []) (dd D135_ok 209 rfl) pl9_181 rfl (Nat.le_of_ble_eq_true rfl) (ms117 xs) rfl (c_f_isBox hD (k.2 c1).1) rfl ?_
    refine md_if_eq (tgt := 398) (dd D135_ok 210 rfl) (by decide) (fun c3 => ?_) (fun c3 => ?_)
    · refine md_aload0 (dd D135_ok 216 rfl) rfl ?_
      refine md_getA (dd D135_ok 217 rfl) pl9_45 (by decide) rfl ?_
      refine md_iload (dd D135_ok 218 rfl) rfl ?_
      refine md_iald (f := 12) (dd D135_ok 219 rfl) rfl (k.2 c1).1 ?_
      refine md_if_eq (tgt := 414) (dd D135_ok 220 rfl) (by decide) (fun c4 => ?_) (fun c4 => ?_)
      · refine md_aload0 (dd D135_ok 224 rfl) rfl ?_
        refine md_getA (dd D135_ok 225 rfl) pl9_30 (by decide) rfl ?_
        refine md_iload (dd D135_ok 226 rfl) rfl ?_
        refine md_iald (f := 7) (dd D135_ok 227 rfl) rfl (k.2 c1).1 ?_
        refine md_istore (dd D135_ok 228 rfl) (Nat.le_of_ble_eq_true rfl) ?_
        refine md_goto (tgt := 373) (dd D135_ok 229 rfl) (by decide) ?_
        exact (((k.2 c1).2.1 c3).1 c4)
      · refine md_aload0 (dd D135_ok 221 rfl) rfl ?_
        refine md_iload (dd D135_ok 222 rfl) rfl ?_
        refine md_call (as := [.int x8]) (rest := []) (dd D135_ok 223 rfl) pl9_294 rfl (Nat.le_of_ble_eq_true rfl) (ms136 xs) rfl (((((k.2 c1).2.1 c3).2 c4)).mono ?_) rfl
        rintro v N2 ⟨rfl, w2⟩
        refine md_aload0 (dd D135_ok 224 rfl) rfl ?_
        refine md_getA (dd D135_ok 225 rfl) pl9_30 (by decide) rfl ?_
        refine md_iload (dd D135_ok 226 rfl) rfl ?_
        refine md_iald (f := 7) (dd D135_ok 227 rfl) rfl w2.1 ?_
        refine md_istore (dd D135_ok 228 rfl) (Nat.le_of_ble_eq_true rfl) ?_
        refine md_goto (tgt := 373) (dd D135_ok 229 rfl) (by decide) ?_
        exact w2.2
    · refine md_aload0 (dd D135_ok 211 rfl) rfl ?_
      refine md_getA (dd D135_ok 212 rfl) pl9_48 (by decide) rfl ?_
      refine md_iload (dd D135_ok 213 rfl) rfl ?_
      refine md_bald (f := 13) (dd D135_ok 214 rfl) rfl (Or.inr rfl) (k.2 c1).1 ?_
      refine md_if_eq (tgt := 426) (dd D135_ok 215 rfl) (by decide) (fun c5 => ?_) (fun c5 => ?_)
      · refine md_aload0 (dd D135_ok 230 rfl) rfl ?_
        refine md_getI (dd D135_ok 231 rfl) pl9_266 (by decide) rfl ?_
        refine md_if_le (tgt := 437) (dd D135_ok 232 rfl) (by decide) (fun c6 => ?_) (fun c6 => ?_)
        · refine md_aload0 (dd D135_ok 235 rfl) rfl ?_
          refine md_getI (dd D135_ok 236 rfl) pl9_251 (by decide) rfl ?_
          refine md_istore_n (dd D135_ok 237 rfl) (Nat.le_of_ble_eq_true rfl) ?_
          refine md_iconst (v := (-1)) (dd D135_ok 238 rfl) (by decide) ?_
          refine md_istore_n (dd D135_ok 239 rfl) (Nat.le_of_ble_eq_true rfl) ?_
          refine md_iconst (v := 0) (dd D135_ok 240 rfl) (by decide) ?_
          refine md_istore (dd D135_ok 241 rfl) (Nat.le_of_ble_eq_true rfl) ?_
          refine md_goto (tgt := 89) (dd D135_ok 242 rfl) (by decide) ?_
          exact ((((k.2 c1).2.2 c3).1 c5).1 c6)
        · refine md_aload0 (dd D135_ok 233 rfl) rfl ?_
          refine md_call (as := []) (rest := []) (dd D135_ok 234 rfl) pl9_285 rfl (Nat.le_of_ble_eq_true rfl) (ms143 xs) rfl ((((((k.2 c1).2.2 c3).1 c5).2 c6)).mono ?_) rfl
          rintro v N3 ⟨rfl, w3⟩
          refine md_aload0 (dd D135_ok 235 rfl) rfl ?_
          refine md_getI (dd D135_ok 236 rfl) pl9_251 (by decide) rfl ?_
          refine md_istore_n (dd D135_ok 237 rfl) (Nat.le_of_ble_eq_true rfl) ?_
          refine md_iconst (v := (-1)) (dd D135_ok 238 rfl) (by decide) ?_
          refine md_istore_n (dd D135_ok 239 rfl) (Nat.le_of_ble_eq_true rfl) ?_
          refine md_iconst (v := 0) (dd D135_ok 240 rfl) (by decide) ?_
          refine md_istore (dd D135_ok 241 rfl) (Nat.le_of_ble_eq_true rfl) ?_
          refine md_goto (tgt := 89) (dd D135_ok 242 rfl) (by decide) ?_
          exact w3
      · refine md_aload0 (dd D135_ok 216 rfl) rfl ?_
        refine md_getA (dd D135_ok 217 rfl) pl9_45 (by decide) rfl ?_
        refine md_iload (dd D135_ok 218 rfl) rfl ?_
        refine md_iald (f := 12) (dd D135_ok 219 rfl) rfl (k.2 c1).1 ?_
        refine md_if_eq (tgt := 414) (dd D135_ok 220 rfl) (by decide) (fun c7 => ?_) (fun c7 => ?_)
        · refine md_aload0 (dd D135_ok 224 rfl) rfl ?_
          refine md_getA (dd D135_ok 225 rfl) pl9_30 (by decide) rfl ?_
          refine md_iload (dd D135_ok 226 rfl) rfl ?_
          refine md_iald (f := 7) (dd D135_ok 227 rfl) rfl (k.2 c1).1 ?_
          refine md_istore (dd D135_ok 228 rfl) (Nat.le_of_ble_eq_true rfl) ?_
          refine md_goto (tgt := 373) (dd D135_ok 229 rfl) (by decide) ?_
          exact ((((k.2 c1).2.2 c3).2 c5).1 c7)
        · refine md_aload0 (dd D135_ok 221 rfl) rfl ?_
          refine md_iload (dd D135_ok 222 rfl) rfl ?_
          refine md_call (as := [.int x8]) (rest := []) (dd D135_ok 223 rfl) pl9_294 rfl (Nat.le_of_ble_eq_true rfl) (ms136 xs) rfl ((((((k.2 c1).2.2 c3).2 c5).2 c7)).mono ?_) rfl
          rintro v N4 ⟨rfl, w4⟩
          refine md_aload0 (dd D135_ok 224 rfl) rfl ?_
          refine md_getA (dd D135_ok 225 rfl) pl9_30 (by decide) rfl ?_
          refine md_iload (dd D135_ok 226 rfl) rfl ?_
          refine md_iald (f := 7) (dd D135_ok 227 rfl) rfl w4.1 ?_
          refine md_istore (dd D135_ok 228 rfl) (Nat.le_of_ble_eq_true rfl) ?_
          refine md_goto (tgt := 373) (dd D135_ok 229 rfl) (by decide) ?_
          exact w4.2
set_option maxHeartbeats 1000000 in
theorem vc135_461 {xs : List Int32} {mo : Nat} {ad : Nat → Nat} (hD : md_D mo ad) {h0 : am_H} {d : Nat} {Q : Option Value → md_S → Prop} {M : md_S} {x1 : Int32} {x2 : Int32} {x3 : Int32} {x4 : Int32} {x5 : Int32} {x6 : Int32} {x7 : Int32} {x8 : Int32} {x9 : Int32} {o10 : Option Value} {o11 : Option Value} {o12 : Option Value}
    (k : (((M.1 46) ≤ x9) → (vp_in x1 60) ∧ (∀ M1 : md_S, M1 = md_up2 M 18 x1.toNatClampNeg (f_heightOf M x1 x7) → (Q none M1))) ∧ (¬ ((M.1 46) ≤ x9) → (vp_in x9 60) ∧ (md_wp xs mo ad h0 (d + 10) Q I135 461 [some (.ref mo), some (.int x1), some (.int x2), some (.int x3), some (.int x4), some (.int x5), some (.int x6), some (.int (f_more x7 (M.2 50 x9.toNatClampNeg))), some (.int x8), some (.int (x9 + 1)), o10, o11, o12] [] M))) :
    md_wp xs mo ad h0 (d + 10) Q I135 461 [some (.ref mo), some (.int x1), some (.int x2), some (.int x3), some (.int x4), some (.int x5), some (.int x6), some (.int x7), some (.int x8), some (.int x9), o10, o11, o12] [] M := by
  refine md_iload (dd D135_ok 249 rfl) rfl ?_
  refine md_aload0 (dd D135_ok 250 rfl) rfl ?_
  refine md_getI (dd D135_ok 251 rfl) pl9_244 (by decide) rfl ?_
  refine md_icmp_ge (tgt := 490) (dd D135_ok 252 rfl) (by decide) (fun c1 => ?_) (fun c1 => ?_)
  · refine md_aload0 (dd D135_ok 262 rfl) rfl ?_
    refine md_getA (dd D135_ok 263 rfl) pl9_64 (by decide) rfl ?_
    refine md_iload_n (dd D135_ok 264 rfl) rfl ?_
    refine md_aload0 (dd D135_ok 265 rfl) rfl ?_
    refine md_iload_n (dd D135_ok 266 rfl) rfl ?_
    refine md_iload (dd D135_ok 267 rfl) rfl ?_
    refine md_callI (as := [.int x1, .int x7]) (rest := [.int x1, .ref (ad 18)]) (dd D135_ok 268 rfl) pl9_232 rfl (Nat.le_of_ble_eq_true rfl) (ms145 xs) rfl (c_f_heightOf hD (k.1 c1).1) rfl ?_
    refine md_iast (f := 18) hD (dd D135_ok 269 rfl) rfl (k.1 c1).1 ?_
    refine md_nm (fun M1 e1 => ?_)
    exact md_vret (dd D135_ok 270 rfl) rfl ((k.1 c1).2 M1 e1)
  · refine md_iload (dd D135_ok 253 rfl) rfl ?_
    refine md_aload0 (dd D135_ok 254 rfl) rfl ?_
    refine md_getA (dd D135_ok 255 rfl) pl9_130 (by decide) rfl ?_
    refine md_iload (dd D135_ok 256 rfl) rfl ?_
    refine md_iald (f := 50) (dd D135_ok 257 rfl) rfl (k.2 c1).1 ?_
    refine md_callS (as := [.int x7, .int (M.2 50 x9.toNatClampNeg)]) (rest := []) (dd D135_ok 258 rfl) pl9_175 rfl (Nat.le_of_ble_eq_true rfl) (c_f_more ) rfl ?_
    refine md_istore (dd D135_ok 259 rfl) (Nat.le_of_ble_eq_true rfl) ?_
    refine md_iinc (v := x9 + 1) (dd D135_ok 260 rfl) rfl rfl ?_
    refine md_goto (tgt := 461) (dd D135_ok 261 rfl) (by decide) ?_
    exact (k.2 c1).2
set_option maxHeartbeats 1000000 in
theorem vc115_0 {xs : List Int32} {mo : Nat} {ad : Nat → Nat} (hD : md_D mo ad) {h0 : am_H} {d : Nat} {Q : Option Value → md_S → Prop} {M : md_S} {x1 : Int32}
    (k : ((x1 < 20) → Q (some (.int (-1))) M) ∧ (¬ (x1 < 20) → ((x1 ≤ 400) → md_C xs mo ad (d + 11) 116 [] M (fun v N1 => v = none ∧ (∀ M1 : md_S, M1 = md_up1 N1 29 0 → (md_wp xs mo ad h0 (d + 11) Q I115 26 [some (.ref mo), some (.int x1), some (.int 0), none] [] M1)))) ∧ (¬ (x1 ≤ 400) → Q (some (.int (-1))) M))) :
    md_wp xs mo ad h0 (d + 11) Q I115 0 [some (.ref mo), some (.int x1), none, none] [] M := by
  refine md_iload_n (dd D115_ok 0 rfl) rfl ?_
  refine md_bipush (v := 20) (dd D115_ok 1 rfl) (by decide) ?_
  refine md_icmp_lt (tgt := 13) (dd D115_ok 2 rfl) (by decide) (fun c1 => ?_) (fun c1 => ?_)
  · refine md_iconst (v := (-1)) (dd D115_ok 6 rfl) (by decide) ?_
    exact md_iret (dd D115_ok 7 rfl) rfl (k.1 c1)
  · refine md_iload_n (dd D115_ok 3 rfl) rfl ?_
    refine md_sipush (v := 400) (dd D115_ok 4 rfl) (by decide) ?_
    refine md_icmp_le (tgt := 15) (dd D115_ok 5 rfl) (by decide) (fun c2 => ?_) (fun c2 => ?_)
    · refine md_aload0 (dd D115_ok 8 rfl) rfl ?_
      refine md_call (as := []) (rest := []) (dd D115_ok 9 rfl) pl9_217 rfl (Nat.le_of_ble_eq_true rfl) (ms116 xs) rfl ((((k.2 c1).1 c2)).mono ?_) rfl
      rintro v N1 ⟨rfl, w1⟩
      refine md_aload0 (dd D115_ok 10 rfl) rfl ?_
      refine md_iconst (v := 0) (dd D115_ok 11 rfl) (by decide) ?_
      refine md_putI hD (dd D115_ok 12 rfl) pl9_153 (by decide) rfl rfl rfl ?_
      refine md_nm (fun M1 e1 => ?_)
      refine md_iconst (v := 0) (dd D115_ok 13 rfl) (by decide) ?_
      refine md_istore_n (dd D115_ok 14 rfl) (Nat.le_of_ble_eq_true rfl) ?_
      exact (w1 M1 e1)
    · refine md_iconst (v := (-1)) (dd D115_ok 6 rfl) (by decide) ?_
      exact md_iret (dd D115_ok 7 rfl) rfl ((k.2 c1).2 c2)
set_option maxHeartbeats 1000000 in
theorem vc115_26 {xs : List Int32} {mo : Nat} {ad : Nat → Nat} (hD : md_D mo ad) {h0 : am_H} {d : Nat} {Q : Option Value → md_S → Prop} {M : md_S} {x1 : Int32} {x2 : Int32} {o3 : Option Value}
    (k : (((M.1 22) ≤ x2) → md_wp xs mo ad h0 (d + 11) Q I115 120 [some (.ref mo), some (.int x1), some (.int ((M.1 22) - 1)), o3] [] M) ∧ (¬ ((M.1 22) ≤ x2) → (vp_in x2 60) ∧ ((vp_in (M.2 21 x2.toNatClampNeg) 60) ∧ (∀ M1 : md_S, M1 = md_up2 M 28 (M.2 21 x2.toNatClampNeg).toNatClampNeg (M.1 29) → (((¬ (M.2 21 x2.toNatClampNeg) = 0) → ((¬ (f_isBox M1 (M.2 21 x2.toNatClampNeg)) = 0) → md_C xs mo ad (d + 11) 127 [.int (M.2 21 x2.toNatClampNeg)] M1 (fun v N1 => v = none ∧ (md_wp xs mo ad h0 (d + 11) Q I115 26 [some (.ref mo), some (.int x1), some (.int (x2 + 1)), some (.int (M.2 21 x2.toNatClampNeg))] [] N1))) ∧ (¬ (¬ (f_isBox M1 (M.2 21 x2.toNatClampNeg)) = 0) → ((¬ (M1.2 12 (M.2 21 x2.toNatClampNeg).toNatClampNeg) = 4) → ((¬ (M1.2 12 (M.2 21 x2.toNatClampNeg).toNatClampNeg) = 6) → md_wp xs mo ad h0 (d + 11) Q I115 26 [some (.ref mo), some (.int x1), some (.int (x2 + 1)), some (.int (M.2 21 x2.toNatClampNeg))] [] M1) ∧ (¬ (¬ (M1.2 12 (M.2 21 x2.toNatClampNeg).toNatClampNeg) = 6) → md_C xs mo ad (d + 11) 134 [.int (M.2 21 x2.toNatClampNeg)] M1 (fun v N2 => v = none ∧ (md_wp xs mo ad h0 (d + 11) Q I115 26 [some (.ref mo), some (.int x1), some (.int (x2 + 1)), some (.int (M.2 21 x2.toNatClampNeg))] [] N2)))) ∧ (¬ (¬ (M1.2 12 (M.2 21 x2.toNatClampNeg).toNatClampNeg) = 4) → md_C xs mo ad (d + 11) 127 [.int (M.2 21 x2.toNatClampNeg)] M1 (fun v N3 => v = none ∧ (md_wp xs mo ad h0 (d + 11) Q I115 26 [some (.ref mo), some (.int x1), some (.int (x2 + 1)), some (.int (M.2 21 x2.toNatClampNeg))] [] N3))))) ∧ (¬ (¬ (M.2 21 x2.toNatClampNeg) = 0) → ∀ M2 : md_S, M2 = md_up2 M1 17 (Int32.toNatClampNeg 0) x1 → (md_wp xs mo ad h0 (d + 11) Q I115 26 [some (.ref mo), some (.int x1), some (.int (x2 + 1)), some (.int (M.2 21 x2.toNatClampNeg))] [] M2))))))) :
    md_wp xs mo ad h0 (d + 11) Q I115 26 [some (.ref mo), some (.int x1), some (.int x2), o3] [] M := by
  refine md_iload_n (dd D115_ok 15 rfl) rfl ?_
  refine md_aload0 (dd D115_ok 16 rfl) rfl ?_
  refine md_getI (dd D115_ok 17 rfl) pl9_178 (by decide) rfl ?_
  refine md_icmp_ge (tgt := 113) (dd D115_ok 18 rfl) (by decide) (fun c1 => ?_) (fun c1 => ?_)
  · refine md_aload0 (dd D115_ok 63 rfl) rfl ?_
    refine md_getI (dd D115_ok 64 rfl) pl9_178 (by decide) rfl ?_
    refine md_iconst (v := 1) (dd D115_ok 65 rfl) (by decide) ?_
    refine md_isub (dd D115_ok 66 rfl) ?_
    refine md_istore_n (dd D115_ok 67 rfl) (Nat.le_of_ble_eq_true rfl) ?_
    exact (k.1 c1)
  · refine md_aload0 (dd D115_ok 19 rfl) rfl ?_
    refine md_getA (dd D115_ok 20 rfl) pl9_73 (by decide) rfl ?_
    refine md_iload_n (dd D115_ok 21 rfl) rfl ?_
    refine md_iald (f := 21) (dd D115_ok 22 rfl) rfl (k.2 c1).1 ?_
    refine md_istore_n (dd D115_ok 23 rfl) (Nat.le_of_ble_eq_true rfl) ?_
    refine md_aload0 (dd D115_ok 24 rfl) rfl ?_
    refine md_getA (dd D115_ok 25 rfl) pl9_91 (by decide) rfl ?_
    refine md_iload_n (dd D115_ok 26 rfl) rfl ?_
    refine md_aload0 (dd D115_ok 27 rfl) rfl ?_
    refine md_getI (dd D115_ok 28 rfl) pl9_153 (by decide) rfl ?_
    refine md_iast (f := 28) hD (dd D115_ok 29 rfl) rfl (k.2 c1).2.1 ?_
    refine md_nm (fun M1 e1 => ?_)
    refine md_iload_n (dd D115_ok 30 rfl) rfl ?_
    refine md_if_ne (tgt := 65) (dd D115_ok 31 rfl) (by decide) (fun c2 => ?_) (fun c2 => ?_)
    · refine md_aload0 (dd D115_ok 38 rfl) rfl ?_
      refine md_iload_n (dd D115_ok 39 rfl) rfl ?_
      refine md_callI (as := [.int (M.2 21 x2.toNatClampNeg)]) (rest := []) (dd D115_ok 40 rfl) pl9_181 rfl (Nat.le_of_ble_eq_true rfl) (ms117 xs) rfl (c_f_isBox hD (k.2 c1).2.1) rfl ?_
      refine md_if_ne (tgt := 83) (dd D115_ok 41 rfl) (by decide) (fun c3 => ?_) (fun c3 => ?_)
      · refine md_aload0 (dd D115_ok 48 rfl) rfl ?_
        refine md_iload_n (dd D115_ok 49 rfl) rfl ?_
        refine md_call (as := [.int (M.2 21 x2.toNatClampNeg)]) (rest := []) (dd D115_ok 50 rfl) pl9_220 rfl (Nat.le_of_ble_eq_true rfl) (ms127 xs) rfl ((((((k.2 c1).2.2 M1 e1).1 c2).1 c3)).mono ?_) rfl
        rintro v N1 ⟨rfl, w1⟩
        refine md_goto (tgt := 107) (dd D115_ok 51 rfl) (by decide) ?_
        refine md_iinc (v := x2 + 1) (dd D115_ok 61 rfl) rfl rfl ?_
        refine md_goto (tgt := 26) (dd D115_ok 62 rfl) (by decide) ?_
        exact w1
      · refine md_aload0 (dd D115_ok 42 rfl) rfl ?_
        refine md_getA (dd D115_ok 43 rfl) pl9_45 (by decide) rfl ?_
        refine md_iload_n (dd D115_ok 44 rfl) rfl ?_
        refine md_iald (f := 12) (dd D115_ok 45 rfl) rfl (k.2 c1).2.1 ?_
        refine md_iconst (v := 4) (dd D115_ok 46 rfl) (by decide) ?_
        refine md_icmp_ne (tgt := 91) (dd D115_ok 47 rfl) (by decide) (fun c4 => ?_) (fun c4 => ?_)
        · refine md_aload0 (dd D115_ok 52 rfl) rfl ?_
          refine md_getA (dd D115_ok 53 rfl) pl9_45 (by decide) rfl ?_
          refine md_iload_n (dd D115_ok 54 rfl) rfl ?_
          refine md_iald (f := 12) (dd D115_ok 55 rfl) rfl (k.2 c1).2.1 ?_
          refine md_bipush (v := 6) (dd D115_ok 56 rfl) (by decide) ?_
          refine md_icmp_ne (tgt := 107) (dd D115_ok 57 rfl) (by decide) (fun c5 => ?_) (fun c5 => ?_)
          · refine md_iinc (v := x2 + 1) (dd D115_ok 61 rfl) rfl rfl ?_
            refine md_goto (tgt := 26) (dd D115_ok 62 rfl) (by decide) ?_
            exact ((((((k.2 c1).2.2 M1 e1).1 c2).2 c3).1 c4).1 c5)
          · refine md_aload0 (dd D115_ok 58 rfl) rfl ?_
            refine md_iload_n (dd D115_ok 59 rfl) rfl ?_
            refine md_call (as := [.int (M.2 21 x2.toNatClampNeg)]) (rest := []) (dd D115_ok 60 rfl) pl9_223 rfl (Nat.le_of_ble_eq_true rfl) (ms134 xs) rfl ((((((((k.2 c1).2.2 M1 e1).1 c2).2 c3).1 c4).2 c5)).mono ?_) rfl
            rintro v N2 ⟨rfl, w2⟩
            refine md_iinc (v := x2 + 1) (dd D115_ok 61 rfl) rfl rfl ?_
            refine md_goto (tgt := 26) (dd D115_ok 62 rfl) (by decide) ?_
            exact w2
        · refine md_aload0 (dd D115_ok 48 rfl) rfl ?_
          refine md_iload_n (dd D115_ok 49 rfl) rfl ?_
          refine md_call (as := [.int (M.2 21 x2.toNatClampNeg)]) (rest := []) (dd D115_ok 50 rfl) pl9_220 rfl (Nat.le_of_ble_eq_true rfl) (ms127 xs) rfl (((((((k.2 c1).2.2 M1 e1).1 c2).2 c3).2 c4)).mono ?_) rfl
          rintro v N3 ⟨rfl, w3⟩
          refine md_goto (tgt := 107) (dd D115_ok 51 rfl) (by decide) ?_
          refine md_iinc (v := x2 + 1) (dd D115_ok 61 rfl) rfl rfl ?_
          refine md_goto (tgt := 26) (dd D115_ok 62 rfl) (by decide) ?_
          exact w3
    · refine md_aload0 (dd D115_ok 32 rfl) rfl ?_
      refine md_getA (dd D115_ok 33 rfl) pl9_61 (by decide) rfl ?_
      refine md_iconst (v := 0) (dd D115_ok 34 rfl) (by decide) ?_
      refine md_iload_n (dd D115_ok 35 rfl) rfl ?_
      refine md_iast (f := 17) hD (dd D115_ok 36 rfl) rfl (md_vl (by decide)) ?_
      refine md_nm (fun M2 e2 => ?_)
      refine md_goto (tgt := 107) (dd D115_ok 37 rfl) (by decide) ?_
      refine md_iinc (v := x2 + 1) (dd D115_ok 61 rfl) rfl rfl ?_
      refine md_goto (tgt := 26) (dd D115_ok 62 rfl) (by decide) ?_
      exact ((((k.2 c1).2.2 M1 e1).2 c2) M2 e2)
set_option maxHeartbeats 1000000 in
theorem vc115_120 {xs : List Int32} {mo : Nat} {ad : Nat → Nat} (hD : md_D mo ad) {h0 : am_H} {d : Nat} {Q : Option Value → md_S → Prop} {M : md_S} {x1 : Int32} {x2 : Int32} {o3 : Option Value}
    (k : ((x2 < 0) → ∀ M1 : md_S, M1 = md_up2 M 15 (Int32.toNatClampNeg 0) 0 → (∀ M2 : md_S, M2 = md_up2 M1 16 (Int32.toNatClampNeg 0) 0 → (md_wp xs mo ad h0 (d + 11) Q I115 199 [some (.ref mo), some (.int x1), some (.int 0), o3] [] M2))) ∧ (¬ (x2 < 0) → (vp_in x2 60) ∧ ((vp_in (M.2 21 x2.toNatClampNeg) 60) ∧ (((¬ (M.2 12 (M.2 21 x2.toNatClampNeg).toNatClampNeg) = 1) → ((¬ (M.2 12 (M.2 21 x2.toNatClampNeg).toNatClampNeg) = 2) → md_wp xs mo ad h0 (d + 11) Q I115 120 [some (.ref mo), some (.int x1), some (.int (x2 + (-1))), o3] [] M) ∧ (¬ (¬ (M.2 12 (M.2 21 x2.toNatClampNeg).toNatClampNeg) = 2) → md_C xs mo ad (d + 11) 146 [.int (M.2 21 x2.toNatClampNeg)] M (fun v N1 => v = none ∧ (md_wp xs mo ad h0 (d + 11) Q I115 120 [some (.ref mo), some (.int x1), some (.int (x2 + (-1))), o3] [] N1)))) ∧ (¬ (¬ (M.2 12 (M.2 21 x2.toNatClampNeg).toNatClampNeg) = 1) → md_C xs mo ad (d + 11) 135 [.int (M.2 21 x2.toNatClampNeg)] M (fun v N2 => v = none ∧ (md_wp xs mo ad h0 (d + 11) Q I115 120 [some (.ref mo), some (.int x1), some (.int (x2 + (-1))), o3] [] N2))))))) :
    md_wp xs mo ad h0 (d + 11) Q I115 120 [some (.ref mo), some (.int x1), some (.int x2), o3] [] M := by
  refine md_iload_n (dd D115_ok 68 rfl) rfl ?_
  refine md_if_lt (tgt := 183) (dd D115_ok 69 rfl) (by decide) (fun c1 => ?_) (fun c1 => ?_)
  · refine md_aload0 (dd D115_ok 103 rfl) rfl ?_
    refine md_getA (dd D115_ok 104 rfl) pl9_55 (by decide) rfl ?_
    refine md_iconst (v := 0) (dd D115_ok 105 rfl) (by decide) ?_
    refine md_iconst (v := 0) (dd D115_ok 106 rfl) (by decide) ?_
    refine md_iast (f := 15) hD (dd D115_ok 107 rfl) rfl (md_vl (by decide)) ?_
    refine md_nm (fun M1 e1 => ?_)
    refine md_aload0 (dd D115_ok 108 rfl) rfl ?_
    refine md_getA (dd D115_ok 109 rfl) pl9_58 (by decide) rfl ?_
    refine md_iconst (v := 0) (dd D115_ok 110 rfl) (by decide) ?_
    refine md_iconst (v := 0) (dd D115_ok 111 rfl) (by decide) ?_
    refine md_iast (f := 16) hD (dd D115_ok 112 rfl) rfl (md_vl (by decide)) ?_
    refine md_nm (fun M2 e2 => ?_)
    refine md_iconst (v := 0) (dd D115_ok 113 rfl) (by decide) ?_
    refine md_istore_n (dd D115_ok 114 rfl) (Nat.le_of_ble_eq_true rfl) ?_
    exact (((k.1 c1) M1 e1) M2 e2)
  · refine md_aload0 (dd D115_ok 70 rfl) rfl ?_
    refine md_getA (dd D115_ok 71 rfl) pl9_45 (by decide) rfl ?_
    refine md_aload0 (dd D115_ok 72 rfl) rfl ?_
    refine md_getA (dd D115_ok 73 rfl) pl9_73 (by decide) rfl ?_
    refine md_iload_n (dd D115_ok 74 rfl) rfl ?_
    refine md_iald (f := 21) (dd D115_ok 75 rfl) rfl (k.2 c1).1 ?_
    refine md_iald (f := 12) (dd D115_ok 76 rfl) rfl (k.2 c1).2.1 ?_
    refine md_iconst (v := 1) (dd D115_ok 77 rfl) (by decide) ?_
    refine md_icmp_ne (tgt := 152) (dd D115_ok 78 rfl) (by decide) (fun c2 => ?_) (fun c2 => ?_)
    · refine md_aload0 (dd D115_ok 86 rfl) rfl ?_
      refine md_getA (dd D115_ok 87 rfl) pl9_45 (by decide) rfl ?_
      refine md_aload0 (dd D115_ok 88 rfl) rfl ?_
      refine md_getA (dd D115_ok 89 rfl) pl9_73 (by decide) rfl ?_
      refine md_iload_n (dd D115_ok 90 rfl) rfl ?_
      refine md_iald (f := 21) (dd D115_ok 91 rfl) rfl (k.2 c1).1 ?_
      refine md_iald (f := 12) (dd D115_ok 92 rfl) rfl (k.2 c1).2.1 ?_
      refine md_iconst (v := 2) (dd D115_ok 93 rfl) (by decide) ?_
      refine md_icmp_ne (tgt := 177) (dd D115_ok 94 rfl) (by decide) (fun c3 => ?_) (fun c3 => ?_)
      · refine md_iinc (v := x2 + (-1)) (dd D115_ok 101 rfl) rfl rfl ?_
        refine md_goto (tgt := 120) (dd D115_ok 102 rfl) (by decide) ?_
        exact (((k.2 c1).2.2.1 c2).1 c3)
      · refine md_aload0 (dd D115_ok 95 rfl) rfl ?_
        refine md_aload0 (dd D115_ok 96 rfl) rfl ?_
        refine md_getA (dd D115_ok 97 rfl) pl9_73 (by decide) rfl ?_
        refine md_iload_n (dd D115_ok 98 rfl) rfl ?_
        refine md_iald (f := 21) (dd D115_ok 99 rfl) rfl (k.2 c1).1 ?_
        refine md_call (as := [.int (M.2 21 x2.toNatClampNeg)]) (rest := []) (dd D115_ok 100 rfl) pl9_229 rfl (Nat.le_of_ble_eq_true rfl) (ms146 xs) rfl (((((k.2 c1).2.2.1 c2).2 c3)).mono ?_) rfl
        rintro v N1 ⟨rfl, w1⟩
        refine md_iinc (v := x2 + (-1)) (dd D115_ok 101 rfl) rfl rfl ?_
        refine md_goto (tgt := 120) (dd D115_ok 102 rfl) (by decide) ?_
        exact w1
    · refine md_aload0 (dd D115_ok 79 rfl) rfl ?_
      refine md_aload0 (dd D115_ok 80 rfl) rfl ?_
      refine md_getA (dd D115_ok 81 rfl) pl9_73 (by decide) rfl ?_
      refine md_iload_n (dd D115_ok 82 rfl) rfl ?_
      refine md_iald (f := 21) (dd D115_ok 83 rfl) rfl (k.2 c1).1 ?_
      refine md_call (as := [.int (M.2 21 x2.toNatClampNeg)]) (rest := []) (dd D115_ok 84 rfl) pl9_226 rfl (Nat.le_of_ble_eq_true rfl) (ms135 xs) rfl ((((k.2 c1).2.2.2 c2)).mono ?_) rfl
      rintro v N2 ⟨rfl, w2⟩
      refine md_goto (tgt := 177) (dd D115_ok 85 rfl) (by decide) ?_
      refine md_iinc (v := x2 + (-1)) (dd D115_ok 101 rfl) rfl rfl ?_
      refine md_goto (tgt := 120) (dd D115_ok 102 rfl) (by decide) ?_
      exact w2
set_option maxHeartbeats 1000000 in
theorem vc115_199 {xs : List Int32} {mo : Nat} {ad : Nat → Nat} (hD : md_D mo ad) {h0 : am_H} {d : Nat} {Q : Option Value → md_S → Prop} {M : md_S} {x1 : Int32} {x2 : Int32} {o3 : Option Value}
    (k : ((60 ≤ x2) → md_wp xs mo ad h0 (d + 11) Q I115 220 [some (.ref mo), some (.int x1), some (.int 0), o3] [] M) ∧ (¬ (60 ≤ x2) → (vp_in x2 60) ∧ (∀ M1 : md_S, M1 = md_up2 M 23 x2.toNatClampNeg (0 &&& 1) → (md_wp xs mo ad h0 (d + 11) Q I115 199 [some (.ref mo), some (.int x1), some (.int (x2 + 1)), o3] [] M1)))) :
    md_wp xs mo ad h0 (d + 11) Q I115 199 [some (.ref mo), some (.int x1), some (.int x2), o3] [] M := by
  refine md_iload_n (dd D115_ok 115 rfl) rfl ?_
  refine md_bipush (v := 60) (dd D115_ok 116 rfl) (by decide) ?_
  refine md_icmp_ge (tgt := 218) (dd D115_ok 117 rfl) (by decide) (fun c1 => ?_) (fun c1 => ?_)
  · refine md_iconst (v := 0) (dd D115_ok 125 rfl) (by decide) ?_
    refine md_istore_n (dd D115_ok 126 rfl) (Nat.le_of_ble_eq_true rfl) ?_
    exact (k.1 c1)
  · refine md_aload0 (dd D115_ok 118 rfl) rfl ?_
    refine md_getA (dd D115_ok 119 rfl) pl9_76 (by decide) rfl ?_
    refine md_iload_n (dd D115_ok 120 rfl) rfl ?_
    refine md_iconst (v := 0) (dd D115_ok 121 rfl) (by decide) ?_
    refine md_zast (f := 23) hD (dd D115_ok 122 rfl) rfl (k.2 c1).1 ?_
    refine md_nm (fun M1 e1 => ?_)
    refine md_iinc (v := x2 + 1) (dd D115_ok 123 rfl) rfl rfl ?_
    refine md_goto (tgt := 199) (dd D115_ok 124 rfl) (by decide) ?_
    exact ((k.2 c1).2 M1 e1)
set_option maxHeartbeats 1000000 in
theorem vc115_220 {xs : List Int32} {mo : Nat} {ad : Nat → Nat} (hD : md_D mo ad) {h0 : am_H} {d : Nat} {Q : Option Value → md_S → Prop} {M : md_S} {x1 : Int32} {x2 : Int32} {o3 : Option Value}
    (k : (((M.1 22) ≤ x2) → md_wp xs mo ad h0 (d + 11) Q I115 385 [some (.ref mo), some (.int x1), some (.int 0), o3] [] M) ∧ (¬ ((M.1 22) ≤ x2) → (vp_in x2 60) ∧ ((vp_in (M.2 21 x2.toNatClampNeg) 60) ∧ (((¬ (f_isBox M (M.2 21 x2.toNatClampNeg)) = 0) → (((M.2 21 x2.toNatClampNeg) ≤ 0) → ∀ M1 : md_S, M1 = md_up2 M 23 (M.2 21 x2.toNatClampNeg).toNatClampNeg (1 &&& 1) → (∀ M2 : md_S, M2 = md_up2 M1 24 (M.2 21 x2.toNatClampNeg).toNatClampNeg (M1.2 15 (M.2 21 x2.toNatClampNeg).toNatClampNeg) → (∀ M3 : md_S, M3 = md_up2 M2 25 (M.2 21 x2.toNatClampNeg).toNatClampNeg (M2.2 16 (M.2 21 x2.toNatClampNeg).toNatClampNeg) → (∀ M4 : md_S, M4 = md_up2 M3 26 (M.2 21 x2.toNatClampNeg).toNatClampNeg (M3.2 17 (M.2 21 x2.toNatClampNeg).toNatClampNeg) → (∀ M5 : md_S, M5 = md_up2 M4 27 (M.2 21 x2.toNatClampNeg).toNatClampNeg (M4.2 18 (M.2 21 x2.toNatClampNeg).toNatClampNeg) → (md_wp xs mo ad h0 (d + 11) Q I115 220 [some (.ref mo), some (.int x1), some (.int (x2 + 1)), some (.int (M.2 21 x2.toNatClampNeg))] [] M5)))))) ∧ (¬ ((M.2 21 x2.toNatClampNeg) ≤ 0) → (vp_in (M.2 14 (M.2 21 x2.toNatClampNeg).toNatClampNeg) 60) ∧ (∀ M6 : md_S, M6 = md_up2 M 15 (M.2 21 x2.toNatClampNeg).toNatClampNeg ((M.2 15 (M.2 21 x2.toNatClampNeg).toNatClampNeg) + ((M.2 15 (M.2 14 (M.2 21 x2.toNatClampNeg).toNatClampNeg).toNatClampNeg) + (f_edges M (M.2 14 (M.2 21 x2.toNatClampNeg).toNatClampNeg)))) → ((vp_in (M6.2 14 (M.2 21 x2.toNatClampNeg).toNatClampNeg) 60) ∧ (∀ M7 : md_S, M7 = md_up2 M6 16 (M.2 21 x2.toNatClampNeg).toNatClampNeg ((M6.2 16 (M.2 21 x2.toNatClampNeg).toNatClampNeg) + ((M6.2 16 (M6.2 14 (M.2 21 x2.toNatClampNeg).toNatClampNeg).toNatClampNeg) + (f_edges M6 (M6.2 14 (M.2 21 x2.toNatClampNeg).toNatClampNeg)))) → (∀ M8 : md_S, M8 = md_up2 M7 23 (M.2 21 x2.toNatClampNeg).toNatClampNeg (1 &&& 1) → (∀ M9 : md_S, M9 = md_up2 M8 24 (M.2 21 x2.toNatClampNeg).toNatClampNeg (M8.2 15 (M.2 21 x2.toNatClampNeg).toNatClampNeg) → (∀ M10 : md_S, M10 = md_up2 M9 25 (M.2 21 x2.toNatClampNeg).toNatClampNeg (M9.2 16 (M.2 21 x2.toNatClampNeg).toNatClampNeg) → (∀ M11 : md_S, M11 = md_up2 M10 26 (M.2 21 x2.toNatClampNeg).toNatClampNeg (M10.2 17 (M.2 21 x2.toNatClampNeg).toNatClampNeg) → (∀ M12 : md_S, M12 = md_up2 M11 27 (M.2 21 x2.toNatClampNeg).toNatClampNeg (M11.2 18 (M.2 21 x2.toNatClampNeg).toNatClampNeg) → (md_wp xs mo ad h0 (d + 11) Q I115 220 [some (.ref mo), some (.int x1), some (.int (x2 + 1)), some (.int (M.2 21 x2.toNatClampNeg))] [] M12))))))))))) ∧ (¬ (¬ (f_isBox M (M.2 21 x2.toNatClampNeg)) = 0) → (((M.2 12 (M.2 21 x2.toNatClampNeg).toNatClampNeg) = 4) → (((M.2 21 x2.toNatClampNeg) ≤ 0) → ∀ M13 : md_S, M13 = md_up2 M 23 (M.2 21 x2.toNatClampNeg).toNatClampNeg (1 &&& 1) → (∀ M14 : md_S, M14 = md_up2 M13 24 (M.2 21 x2.toNatClampNeg).toNatClampNeg (M13.2 15 (M.2 21 x2.toNatClampNeg).toNatClampNeg) → (∀ M15 : md_S, M15 = md_up2 M14 25 (M.2 21 x2.toNatClampNeg).toNatClampNeg (M14.2 16 (M.2 21 x2.toNatClampNeg).toNatClampNeg) → (∀ M16 : md_S, M16 = md_up2 M15 26 (M.2 21 x2.toNatClampNeg).toNatClampNeg (M15.2 17 (M.2 21 x2.toNatClampNeg).toNatClampNeg) → (∀ M17 : md_S, M17 = md_up2 M16 27 (M.2 21 x2.toNatClampNeg).toNatClampNeg (M16.2 18 (M.2 21 x2.toNatClampNeg).toNatClampNeg) → (md_wp xs mo ad h0 (d + 11) Q I115 220 [some (.ref mo), some (.int x1), some (.int (x2 + 1)), some (.int (M.2 21 x2.toNatClampNeg))] [] M17)))))) ∧ (¬ ((M.2 21 x2.toNatClampNeg) ≤ 0) → (vp_in (M.2 14 (M.2 21 x2.toNatClampNeg).toNatClampNeg) 60) ∧ (∀ M18 : md_S, M18 = md_up2 M 15 (M.2 21 x2.toNatClampNeg).toNatClampNeg ((M.2 15 (M.2 21 x2.toNatClampNeg).toNatClampNeg) + ((M.2 15 (M.2 14 (M.2 21 x2.toNatClampNeg).toNatClampNeg).toNatClampNeg) + (f_edges M (M.2 14 (M.2 21 x2.toNatClampNeg).toNatClampNeg)))) → ((vp_in (M18.2 14 (M.2 21 x2.toNatClampNeg).toNatClampNeg) 60) ∧ (∀ M19 : md_S, M19 = md_up2 M18 16 (M.2 21 x2.toNatClampNeg).toNatClampNeg ((M18.2 16 (M.2 21 x2.toNatClampNeg).toNatClampNeg) + ((M18.2 16 (M18.2 14 (M.2 21 x2.toNatClampNeg).toNatClampNeg).toNatClampNeg) + (f_edges M18 (M18.2 14 (M.2 21 x2.toNatClampNeg).toNatClampNeg)))) → (∀ M20 : md_S, M20 = md_up2 M19 23 (M.2 21 x2.toNatClampNeg).toNatClampNeg (1 &&& 1) → (∀ M21 : md_S, M21 = md_up2 M20 24 (M.2 21 x2.toNatClampNeg).toNatClampNeg (M20.2 15 (M.2 21 x2.toNatClampNeg).toNatClampNeg) → (∀ M22 : md_S, M22 = md_up2 M21 25 (M.2 21 x2.toNatClampNeg).toNatClampNeg (M21.2 16 (M.2 21 x2.toNatClampNeg).toNatClampNeg) → (∀ M23 : md_S, M23 = md_up2 M22 26 (M.2 21 x2.toNatClampNeg).toNatClampNeg (M22.2 17 (M.2 21 x2.toNatClampNeg).toNatClampNeg) → (∀ M24 : md_S, M24 = md_up2 M23 27 (M.2 21 x2.toNatClampNeg).toNatClampNeg (M23.2 18 (M.2 21 x2.toNatClampNeg).toNatClampNeg) → (md_wp xs mo ad h0 (d + 11) Q I115 220 [some (.ref mo), some (.int x1), some (.int (x2 + 1)), some (.int (M.2 21 x2.toNatClampNeg))] [] M24))))))))))) ∧ (¬ ((M.2 12 (M.2 21 x2.toNatClampNeg).toNatClampNeg) = 4) → md_wp xs mo ad h0 (d + 11) Q I115 220 [some (.ref mo), some (.int x1), some (.int (x2 + 1)), some (.int (M.2 21 x2.toNatClampNeg))] [] M)))))) :
    md_wp xs mo ad h0 (d + 11) Q I115 220 [some (.ref mo), some (.int x1), some (.int x2), o3] [] M := by
  refine md_iload_n (dd D115_ok 127 rfl) rfl ?_
  refine md_aload0 (dd D115_ok 128 rfl) rfl ?_
  refine md_getI (dd D115_ok 129 rfl) pl9_178 (by decide) rfl ?_
  refine md_icmp_ge (tgt := 383) (dd D115_ok 130 rfl) (by decide) (fun c1 => ?_) (fun c1 => ?_)
  · refine md_iconst (v := 0) (dd D115_ok 230 rfl) (by decide) ?_
    refine md_istore_n (dd D115_ok 231 rfl) (Nat.le_of_ble_eq_true rfl) ?_
    exact (k.1 c1)
  · refine md_aload0 (dd D115_ok 131 rfl) rfl ?_
    refine md_getA (dd D115_ok 132 rfl) pl9_73 (by decide) rfl ?_
    refine md_iload_n (dd D115_ok 133 rfl) rfl ?_
    refine md_iald (f := 21) (dd D115_ok 134 rfl) rfl (k.2 c1).1 ?_
    refine md_istore_n (dd D115_ok 135 rfl) (Nat.le_of_ble_eq_true rfl) ?_
    refine md_aload0 (dd D115_ok 136 rfl) rfl ?_
    refine md_iload_n (dd D115_ok 137 rfl) rfl ?_
    refine md_callI (as := [.int (M.2 21 x2.toNatClampNeg)]) (rest := []) (dd D115_ok 138 rfl) pl9_181 rfl (Nat.le_of_ble_eq_true rfl) (ms117 xs) rfl (c_f_isBox hD (k.2 c1).2.1) rfl ?_
    refine md_if_ne (tgt := 256) (dd D115_ok 139 rfl) (by decide) (fun c2 => ?_) (fun c2 => ?_)
    · refine md_iload_n (dd D115_ok 147 rfl) rfl ?_
      refine md_if_le (tgt := 322) (dd D115_ok 148 rfl) (by decide) (fun c3 => ?_) (fun c3 => ?_)
      · refine md_aload0 (dd D115_ok 191 rfl) rfl ?_
        refine md_getA (dd D115_ok 192 rfl) pl9_76 (by decide) rfl ?_
        refine md_iload_n (dd D115_ok 193 rfl) rfl ?_
        refine md_iconst (v := 1) (dd D115_ok 194 rfl) (by decide) ?_
        refine md_zast (f := 23) hD (dd D115_ok 195 rfl) rfl (k.2 c1).2.1 ?_
        refine md_nm (fun M1 e1 => ?_)
        refine md_aload0 (dd D115_ok 196 rfl) rfl ?_
        refine md_getA (dd D115_ok 197 rfl) pl9_79 (by decide) rfl ?_
        refine md_iload_n (dd D115_ok 198 rfl) rfl ?_
        refine md_aload0 (dd D115_ok 199 rfl) rfl ?_
        refine md_getA (dd D115_ok 200 rfl) pl9_55 (by decide) rfl ?_
        refine md_iload_n (dd D115_ok 201 rfl) rfl ?_
        refine md_iald (f := 15) (dd D115_ok 202 rfl) rfl (k.2 c1).2.1 ?_
        refine md_iast (f := 24) hD (dd D115_ok 203 rfl) rfl (k.2 c1).2.1 ?_
        refine md_nm (fun M2 e2 => ?_)
        refine md_aload0 (dd D115_ok 204 rfl) rfl ?_
        refine md_getA (dd D115_ok 205 rfl) pl9_82 (by decide) rfl ?_
        refine md_iload_n (dd D115_ok 206 rfl) rfl ?_
        refine md_aload0 (dd D115_ok 207 rfl) rfl ?_
        refine md_getA (dd D115_ok 208 rfl) pl9_58 (by decide) rfl ?_
        refine md_iload_n (dd D115_ok 209 rfl) rfl ?_
        refine md_iald (f := 16) (dd D115_ok 210 rfl) rfl (k.2 c1).2.1 ?_
        refine md_iast (f := 25) hD (dd D115_ok 211 rfl) rfl (k.2 c1).2.1 ?_
        refine md_nm (fun M3 e3 => ?_)
        refine md_aload0 (dd D115_ok 212 rfl) rfl ?_
        refine md_getA (dd D115_ok 213 rfl) pl9_85 (by decide) rfl ?_
        refine md_iload_n (dd D115_ok 214 rfl) rfl ?_
        refine md_aload0 (dd D115_ok 215 rfl) rfl ?_
        refine md_getA (dd D115_ok 216 rfl) pl9_61 (by decide) rfl ?_
        refine md_iload_n (dd D115_ok 217 rfl) rfl ?_
        refine md_iald (f := 17) (dd D115_ok 218 rfl) rfl (k.2 c1).2.1 ?_
        refine md_iast (f := 26) hD (dd D115_ok 219 rfl) rfl (k.2 c1).2.1 ?_
        refine md_nm (fun M4 e4 => ?_)
        refine md_aload0 (dd D115_ok 220 rfl) rfl ?_
        refine md_getA (dd D115_ok 221 rfl) pl9_88 (by decide) rfl ?_
        refine md_iload_n (dd D115_ok 222 rfl) rfl ?_
        refine md_aload0 (dd D115_ok 223 rfl) rfl ?_
        refine md_getA (dd D115_ok 224 rfl) pl9_64 (by decide) rfl ?_
        refine md_iload_n (dd D115_ok 225 rfl) rfl ?_
        refine md_iald (f := 18) (dd D115_ok 226 rfl) rfl (k.2 c1).2.1 ?_
        refine md_iast (f := 27) hD (dd D115_ok 227 rfl) rfl (k.2 c1).2.1 ?_
        refine md_nm (fun M5 e5 => ?_)
        refine md_iinc (v := x2 + 1) (dd D115_ok 228 rfl) rfl rfl ?_
        refine md_goto (tgt := 220) (dd D115_ok 229 rfl) (by decide) ?_
        exact ((((((((k.2 c1).2.2.1 c2).1 c3) M1 e1) M2 e2) M3 e3) M4 e4) M5 e5)
      · refine md_aload0 (dd D115_ok 149 rfl) rfl ?_
        refine md_getA (dd D115_ok 150 rfl) pl9_55 (by decide) rfl ?_
        refine md_iload_n (dd D115_ok 151 rfl) rfl ?_
        refine md_dup2 (dd D115_ok 152 rfl) ?_
        refine md_iald (f := 15) (dd D115_ok 153 rfl) rfl (k.2 c1).2.1 ?_
        refine md_aload0 (dd D115_ok 154 rfl) rfl ?_
        refine md_getA (dd D115_ok 155 rfl) pl9_55 (by decide) rfl ?_
        refine md_aload0 (dd D115_ok 156 rfl) rfl ?_
        refine md_getA (dd D115_ok 157 rfl) pl9_52 (by decide) rfl ?_
        refine md_iload_n (dd D115_ok 158 rfl) rfl ?_
        refine md_iald (f := 14) (dd D115_ok 159 rfl) rfl (k.2 c1).2.1 ?_
        refine md_iald (f := 15) (dd D115_ok 160 rfl) rfl (((k.2 c1).2.2.1 c2).2 c3).1 ?_
        refine md_aload0 (dd D115_ok 161 rfl) rfl ?_
        refine md_aload0 (dd D115_ok 162 rfl) rfl ?_
        refine md_getA (dd D115_ok 163 rfl) pl9_52 (by decide) rfl ?_
        refine md_iload_n (dd D115_ok 164 rfl) rfl ?_
        refine md_iald (f := 14) (dd D115_ok 165 rfl) rfl (k.2 c1).2.1 ?_
        refine md_callI (as := [.int (M.2 14 (M.2 21 x2.toNatClampNeg).toNatClampNeg)]) (rest := [.int (M.2 15 (M.2 14 (M.2 21 x2.toNatClampNeg).toNatClampNeg).toNatClampNeg), .int (M.2 15 (M.2 21 x2.toNatClampNeg).toNatClampNeg), .int (M.2 21 x2.toNatClampNeg), .ref (ad 15)]) (dd D115_ok 166 rfl) pl9_171 rfl (Nat.le_of_ble_eq_true rfl) (ms125 xs) rfl (c_f_edges hD (((k.2 c1).2.2.1 c2).2 c3).1) rfl ?_
        refine md_iadd (dd D115_ok 167 rfl) ?_
        refine md_iadd (dd D115_ok 168 rfl) ?_
        refine md_iast (f := 15) hD (dd D115_ok 169 rfl) rfl (k.2 c1).2.1 ?_
        refine md_nm (fun M6 e6 => ?_)
        refine md_aload0 (dd D115_ok 170 rfl) rfl ?_
        refine md_getA (dd D115_ok 171 rfl) pl9_58 (by decide) rfl ?_
        refine md_iload_n (dd D115_ok 172 rfl) rfl ?_
        refine md_dup2 (dd D115_ok 173 rfl) ?_
        refine md_iald (f := 16) (dd D115_ok 174 rfl) rfl (k.2 c1).2.1 ?_
        refine md_aload0 (dd D115_ok 175 rfl) rfl ?_
        refine md_getA (dd D115_ok 176 rfl) pl9_58 (by decide) rfl ?_
        refine md_aload0 (dd D115_ok 177 rfl) rfl ?_
        refine md_getA (dd D115_ok 178 rfl) pl9_52 (by decide) rfl ?_
        refine md_iload_n (dd D115_ok 179 rfl) rfl ?_
        refine md_iald (f := 14) (dd D115_ok 180 rfl) rfl (k.2 c1).2.1 ?_
        refine md_iald (f := 16) (dd D115_ok 181 rfl) rfl ((((k.2 c1).2.2.1 c2).2 c3).2 M6 e6).1 ?_
        refine md_aload0 (dd D115_ok 182 rfl) rfl ?_
        refine md_aload0 (dd D115_ok 183 rfl) rfl ?_
        refine md_getA (dd D115_ok 184 rfl) pl9_52 (by decide) rfl ?_
        refine md_iload_n (dd D115_ok 185 rfl) rfl ?_
        refine md_iald (f := 14) (dd D115_ok 186 rfl) rfl (k.2 c1).2.1 ?_
        refine md_callI (as := [.int (M6.2 14 (M.2 21 x2.toNatClampNeg).toNatClampNeg)]) (rest := [.int (M6.2 16 (M6.2 14 (M.2 21 x2.toNatClampNeg).toNatClampNeg).toNatClampNeg), .int (M6.2 16 (M.2 21 x2.toNatClampNeg).toNatClampNeg), .int (M.2 21 x2.toNatClampNeg), .ref (ad 16)]) (dd D115_ok 187 rfl) pl9_171 rfl (Nat.le_of_ble_eq_true rfl) (ms125 xs) rfl (c_f_edges hD ((((k.2 c1).2.2.1 c2).2 c3).2 M6 e6).1) rfl ?_
        refine md_iadd (dd D115_ok 188 rfl) ?_
        refine md_iadd (dd D115_ok 189 rfl) ?_
        refine md_iast (f := 16) hD (dd D115_ok 190 rfl) rfl (k.2 c1).2.1 ?_
        refine md_nm (fun M7 e7 => ?_)
        refine md_aload0 (dd D115_ok 191 rfl) rfl ?_
        refine md_getA (dd D115_ok 192 rfl) pl9_76 (by decide) rfl ?_
        refine md_iload_n (dd D115_ok 193 rfl) rfl ?_
        refine md_iconst (v := 1) (dd D115_ok 194 rfl) (by decide) ?_
        refine md_zast (f := 23) hD (dd D115_ok 195 rfl) rfl (k.2 c1).2.1 ?_
        refine md_nm (fun M8 e8 => ?_)
        refine md_aload0 (dd D115_ok 196 rfl) rfl ?_
        refine md_getA (dd D115_ok 197 rfl) pl9_79 (by decide) rfl ?_
        refine md_iload_n (dd D115_ok 198 rfl) rfl ?_
        refine md_aload0 (dd D115_ok 199 rfl) rfl ?_
        refine md_getA (dd D115_ok 200 rfl) pl9_55 (by decide) rfl ?_
        refine md_iload_n (dd D115_ok 201 rfl) rfl ?_
        refine md_iald (f := 15) (dd D115_ok 202 rfl) rfl (k.2 c1).2.1 ?_
        refine md_iast (f := 24) hD (dd D115_ok 203 rfl) rfl (k.2 c1).2.1 ?_
        refine md_nm (fun M9 e9 => ?_)
        refine md_aload0 (dd D115_ok 204 rfl) rfl ?_
        refine md_getA (dd D115_ok 205 rfl) pl9_82 (by decide) rfl ?_
        refine md_iload_n (dd D115_ok 206 rfl) rfl ?_
        refine md_aload0 (dd D115_ok 207 rfl) rfl ?_
        refine md_getA (dd D115_ok 208 rfl) pl9_58 (by decide) rfl ?_
        refine md_iload_n (dd D115_ok 209 rfl) rfl ?_
        refine md_iald (f := 16) (dd D115_ok 210 rfl) rfl (k.2 c1).2.1 ?_
        refine md_iast (f := 25) hD (dd D115_ok 211 rfl) rfl (k.2 c1).2.1 ?_
        refine md_nm (fun M10 e10 => ?_)
        refine md_aload0 (dd D115_ok 212 rfl) rfl ?_
        refine md_getA (dd D115_ok 213 rfl) pl9_85 (by decide) rfl ?_
        refine md_iload_n (dd D115_ok 214 rfl) rfl ?_
        refine md_aload0 (dd D115_ok 215 rfl) rfl ?_
        refine md_getA (dd D115_ok 216 rfl) pl9_61 (by decide) rfl ?_
        refine md_iload_n (dd D115_ok 217 rfl) rfl ?_
        refine md_iald (f := 17) (dd D115_ok 218 rfl) rfl (k.2 c1).2.1 ?_
        refine md_iast (f := 26) hD (dd D115_ok 219 rfl) rfl (k.2 c1).2.1 ?_
        refine md_nm (fun M11 e11 => ?_)
        refine md_aload0 (dd D115_ok 220 rfl) rfl ?_
        refine md_getA (dd D115_ok 221 rfl) pl9_88 (by decide) rfl ?_
        refine md_iload_n (dd D115_ok 222 rfl) rfl ?_
        refine md_aload0 (dd D115_ok 223 rfl) rfl ?_
        refine md_getA (dd D115_ok 224 rfl) pl9_64 (by decide) rfl ?_
        refine md_iload_n (dd D115_ok 225 rfl) rfl ?_
        refine md_iald (f := 18) (dd D115_ok 226 rfl) rfl (k.2 c1).2.1 ?_
        refine md_iast (f := 27) hD (dd D115_ok 227 rfl) rfl (k.2 c1).2.1 ?_
        refine md_nm (fun M12 e12 => ?_)
        refine md_iinc (v := x2 + 1) (dd D115_ok 228 rfl) rfl rfl ?_
        refine md_goto (tgt := 220) (dd D115_ok 229 rfl) (by decide) ?_
        exact ((((((((((k.2 c1).2.2.1 c2).2 c3).2 M6 e6).2 M7 e7) M8 e8) M9 e9) M10 e10) M11 e11) M12 e12)
    · refine md_aload0 (dd D115_ok 140 rfl) rfl ?_
      refine md_getA (dd D115_ok 141 rfl) pl9_45 (by decide) rfl ?_
      refine md_iload_n (dd D115_ok 142 rfl) rfl ?_
      refine md_iald (f := 12) (dd D115_ok 143 rfl) rfl (k.2 c1).2.1 ?_
      refine md_iconst (v := 4) (dd D115_ok 144 rfl) (by decide) ?_
      refine md_icmp_eq (tgt := 256) (dd D115_ok 145 rfl) (by decide) (fun c4 => ?_) (fun c4 => ?_)
      · refine md_iload_n (dd D115_ok 147 rfl) rfl ?_
        refine md_if_le (tgt := 322) (dd D115_ok 148 rfl) (by decide) (fun c5 => ?_) (fun c5 => ?_)
        · refine md_aload0 (dd D115_ok 191 rfl) rfl ?_
          refine md_getA (dd D115_ok 192 rfl) pl9_76 (by decide) rfl ?_
          refine md_iload_n (dd D115_ok 193 rfl) rfl ?_
          refine md_iconst (v := 1) (dd D115_ok 194 rfl) (by decide) ?_
          refine md_zast (f := 23) hD (dd D115_ok 195 rfl) rfl (k.2 c1).2.1 ?_
          refine md_nm (fun M13 e13 => ?_)
          refine md_aload0 (dd D115_ok 196 rfl) rfl ?_
          refine md_getA (dd D115_ok 197 rfl) pl9_79 (by decide) rfl ?_
          refine md_iload_n (dd D115_ok 198 rfl) rfl ?_
          refine md_aload0 (dd D115_ok 199 rfl) rfl ?_
          refine md_getA (dd D115_ok 200 rfl) pl9_55 (by decide) rfl ?_
          refine md_iload_n (dd D115_ok 201 rfl) rfl ?_
          refine md_iald (f := 15) (dd D115_ok 202 rfl) rfl (k.2 c1).2.1 ?_
          refine md_iast (f := 24) hD (dd D115_ok 203 rfl) rfl (k.2 c1).2.1 ?_
          refine md_nm (fun M14 e14 => ?_)
          refine md_aload0 (dd D115_ok 204 rfl) rfl ?_
          refine md_getA (dd D115_ok 205 rfl) pl9_82 (by decide) rfl ?_
          refine md_iload_n (dd D115_ok 206 rfl) rfl ?_
          refine md_aload0 (dd D115_ok 207 rfl) rfl ?_
          refine md_getA (dd D115_ok 208 rfl) pl9_58 (by decide) rfl ?_
          refine md_iload_n (dd D115_ok 209 rfl) rfl ?_
          refine md_iald (f := 16) (dd D115_ok 210 rfl) rfl (k.2 c1).2.1 ?_
          refine md_iast (f := 25) hD (dd D115_ok 211 rfl) rfl (k.2 c1).2.1 ?_
          refine md_nm (fun M15 e15 => ?_)
          refine md_aload0 (dd D115_ok 212 rfl) rfl ?_
          refine md_getA (dd D115_ok 213 rfl) pl9_85 (by decide) rfl ?_
          refine md_iload_n (dd D115_ok 214 rfl) rfl ?_
          refine md_aload0 (dd D115_ok 215 rfl) rfl ?_
          refine md_getA (dd D115_ok 216 rfl) pl9_61 (by decide) rfl ?_
          refine md_iload_n (dd D115_ok 217 rfl) rfl ?_
          refine md_iald (f := 17) (dd D115_ok 218 rfl) rfl (k.2 c1).2.1 ?_
          refine md_iast (f := 26) hD (dd D115_ok 219 rfl) rfl (k.2 c1).2.1 ?_
          refine md_nm (fun M16 e16 => ?_)
          refine md_aload0 (dd D115_ok 220 rfl) rfl ?_
          refine md_getA (dd D115_ok 221 rfl) pl9_88 (by decide) rfl ?_
          refine md_iload_n (dd D115_ok 222 rfl) rfl ?_
          refine md_aload0 (dd D115_ok 223 rfl) rfl ?_
          refine md_getA (dd D115_ok 224 rfl) pl9_64 (by decide) rfl ?_
          refine md_iload_n (dd D115_ok 225 rfl) rfl ?_
          refine md_iald (f := 18) (dd D115_ok 226 rfl) rfl (k.2 c1).2.1 ?_
          refine md_iast (f := 27) hD (dd D115_ok 227 rfl) rfl (k.2 c1).2.1 ?_
          refine md_nm (fun M17 e17 => ?_)
          refine md_iinc (v := x2 + 1) (dd D115_ok 228 rfl) rfl rfl ?_
          refine md_goto (tgt := 220) (dd D115_ok 229 rfl) (by decide) ?_
          exact (((((((((k.2 c1).2.2.2 c2).1 c4).1 c5) M13 e13) M14 e14) M15 e15) M16 e16) M17 e17)
        · refine md_aload0 (dd D115_ok 149 rfl) rfl ?_
          refine md_getA (dd D115_ok 150 rfl) pl9_55 (by decide) rfl ?_
          refine md_iload_n (dd D115_ok 151 rfl) rfl ?_
          refine md_dup2 (dd D115_ok 152 rfl) ?_
          refine md_iald (f := 15) (dd D115_ok 153 rfl) rfl (k.2 c1).2.1 ?_
          refine md_aload0 (dd D115_ok 154 rfl) rfl ?_
          refine md_getA (dd D115_ok 155 rfl) pl9_55 (by decide) rfl ?_
          refine md_aload0 (dd D115_ok 156 rfl) rfl ?_
          refine md_getA (dd D115_ok 157 rfl) pl9_52 (by decide) rfl ?_
          refine md_iload_n (dd D115_ok 158 rfl) rfl ?_
          refine md_iald (f := 14) (dd D115_ok 159 rfl) rfl (k.2 c1).2.1 ?_
          refine md_iald (f := 15) (dd D115_ok 160 rfl) rfl ((((k.2 c1).2.2.2 c2).1 c4).2 c5).1 ?_
          refine md_aload0 (dd D115_ok 161 rfl) rfl ?_
          refine md_aload0 (dd D115_ok 162 rfl) rfl ?_
          refine md_getA (dd D115_ok 163 rfl) pl9_52 (by decide) rfl ?_
          refine md_iload_n (dd D115_ok 164 rfl) rfl ?_
          refine md_iald (f := 14) (dd D115_ok 165 rfl) rfl (k.2 c1).2.1 ?_
          refine md_callI (as := [.int (M.2 14 (M.2 21 x2.toNatClampNeg).toNatClampNeg)]) (rest := [.int (M.2 15 (M.2 14 (M.2 21 x2.toNatClampNeg).toNatClampNeg).toNatClampNeg), .int (M.2 15 (M.2 21 x2.toNatClampNeg).toNatClampNeg), .int (M.2 21 x2.toNatClampNeg), .ref (ad 15)]) (dd D115_ok 166 rfl) pl9_171 rfl (Nat.le_of_ble_eq_true rfl) (ms125 xs) rfl (c_f_edges hD ((((k.2 c1).2.2.2 c2).1 c4).2 c5).1) rfl ?_
          refine md_iadd (dd D115_ok 167 rfl) ?_
          refine md_iadd (dd D115_ok 168 rfl) ?_
          refine md_iast (f := 15) hD (dd D115_ok 169 rfl) rfl (k.2 c1).2.1 ?_
          refine md_nm (fun M18 e18 => ?_)
          refine md_aload0 (dd D115_ok 170 rfl) rfl ?_
          refine md_getA (dd D115_ok 171 rfl) pl9_58 (by decide) rfl ?_
          refine md_iload_n (dd D115_ok 172 rfl) rfl ?_
          refine md_dup2 (dd D115_ok 173 rfl) ?_
          refine md_iald (f := 16) (dd D115_ok 174 rfl) rfl (k.2 c1).2.1 ?_
          refine md_aload0 (dd D115_ok 175 rfl) rfl ?_
          refine md_getA (dd D115_ok 176 rfl) pl9_58 (by decide) rfl ?_
          refine md_aload0 (dd D115_ok 177 rfl) rfl ?_
          refine md_getA (dd D115_ok 178 rfl) pl9_52 (by decide) rfl ?_
          refine md_iload_n (dd D115_ok 179 rfl) rfl ?_
          refine md_iald (f := 14) (dd D115_ok 180 rfl) rfl (k.2 c1).2.1 ?_
          refine md_iald (f := 16) (dd D115_ok 181 rfl) rfl (((((k.2 c1).2.2.2 c2).1 c4).2 c5).2 M18 e18).1 ?_
          refine md_aload0 (dd D115_ok 182 rfl) rfl ?_
          refine md_aload0 (dd D115_ok 183 rfl) rfl ?_
          refine md_getA (dd D115_ok 184 rfl) pl9_52 (by decide) rfl ?_
          refine md_iload_n (dd D115_ok 185 rfl) rfl ?_
          refine md_iald (f := 14) (dd D115_ok 186 rfl) rfl (k.2 c1).2.1 ?_
          refine md_callI (as := [.int (M18.2 14 (M.2 21 x2.toNatClampNeg).toNatClampNeg)]) (rest := [.int (M18.2 16 (M18.2 14 (M.2 21 x2.toNatClampNeg).toNatClampNeg).toNatClampNeg), .int (M18.2 16 (M.2 21 x2.toNatClampNeg).toNatClampNeg), .int (M.2 21 x2.toNatClampNeg), .ref (ad 16)]) (dd D115_ok 187 rfl) pl9_171 rfl (Nat.le_of_ble_eq_true rfl) (ms125 xs) rfl (c_f_edges hD (((((k.2 c1).2.2.2 c2).1 c4).2 c5).2 M18 e18).1) rfl ?_
          refine md_iadd (dd D115_ok 188 rfl) ?_
          refine md_iadd (dd D115_ok 189 rfl) ?_
          refine md_iast (f := 16) hD (dd D115_ok 190 rfl) rfl (k.2 c1).2.1 ?_
          refine md_nm (fun M19 e19 => ?_)
          refine md_aload0 (dd D115_ok 191 rfl) rfl ?_
          refine md_getA (dd D115_ok 192 rfl) pl9_76 (by decide) rfl ?_
          refine md_iload_n (dd D115_ok 193 rfl) rfl ?_
          refine md_iconst (v := 1) (dd D115_ok 194 rfl) (by decide) ?_
          refine md_zast (f := 23) hD (dd D115_ok 195 rfl) rfl (k.2 c1).2.1 ?_
          refine md_nm (fun M20 e20 => ?_)
          refine md_aload0 (dd D115_ok 196 rfl) rfl ?_
          refine md_getA (dd D115_ok 197 rfl) pl9_79 (by decide) rfl ?_
          refine md_iload_n (dd D115_ok 198 rfl) rfl ?_
          refine md_aload0 (dd D115_ok 199 rfl) rfl ?_
          refine md_getA (dd D115_ok 200 rfl) pl9_55 (by decide) rfl ?_
          refine md_iload_n (dd D115_ok 201 rfl) rfl ?_
          refine md_iald (f := 15) (dd D115_ok 202 rfl) rfl (k.2 c1).2.1 ?_
          refine md_iast (f := 24) hD (dd D115_ok 203 rfl) rfl (k.2 c1).2.1 ?_
          refine md_nm (fun M21 e21 => ?_)
          refine md_aload0 (dd D115_ok 204 rfl) rfl ?_
          refine md_getA (dd D115_ok 205 rfl) pl9_82 (by decide) rfl ?_
          refine md_iload_n (dd D115_ok 206 rfl) rfl ?_
          refine md_aload0 (dd D115_ok 207 rfl) rfl ?_
          refine md_getA (dd D115_ok 208 rfl) pl9_58 (by decide) rfl ?_
          refine md_iload_n (dd D115_ok 209 rfl) rfl ?_
          refine md_iald (f := 16) (dd D115_ok 210 rfl) rfl (k.2 c1).2.1 ?_
          refine md_iast (f := 25) hD (dd D115_ok 211 rfl) rfl (k.2 c1).2.1 ?_
          refine md_nm (fun M22 e22 => ?_)
          refine md_aload0 (dd D115_ok 212 rfl) rfl ?_
          refine md_getA (dd D115_ok 213 rfl) pl9_85 (by decide) rfl ?_
          refine md_iload_n (dd D115_ok 214 rfl) rfl ?_
          refine md_aload0 (dd D115_ok 215 rfl) rfl ?_
          refine md_getA (dd D115_ok 216 rfl) pl9_61 (by decide) rfl ?_
          refine md_iload_n (dd D115_ok 217 rfl) rfl ?_
          refine md_iald (f := 17) (dd D115_ok 218 rfl) rfl (k.2 c1).2.1 ?_
          refine md_iast (f := 26) hD (dd D115_ok 219 rfl) rfl (k.2 c1).2.1 ?_
          refine md_nm (fun M23 e23 => ?_)
          refine md_aload0 (dd D115_ok 220 rfl) rfl ?_
          refine md_getA (dd D115_ok 221 rfl) pl9_88 (by decide) rfl ?_
          refine md_iload_n (dd D115_ok 222 rfl) rfl ?_
          refine md_aload0 (dd D115_ok 223 rfl) rfl ?_
          refine md_getA (dd D115_ok 224 rfl) pl9_64 (by decide) rfl ?_
          refine md_iload_n (dd D115_ok 225 rfl) rfl ?_
          refine md_iald (f := 18) (dd D115_ok 226 rfl) rfl (k.2 c1).2.1 ?_
          refine md_iast (f := 27) hD (dd D115_ok 227 rfl) rfl (k.2 c1).2.1 ?_
          refine md_nm (fun M24 e24 => ?_)
          refine md_iinc (v := x2 + 1) (dd D115_ok 228 rfl) rfl rfl ?_
          refine md_goto (tgt := 220) (dd D115_ok 229 rfl) (by decide) ?_
          exact (((((((((((k.2 c1).2.2.2 c2).1 c4).2 c5).2 M18 e18).2 M19 e19) M20 e20) M21 e21) M22 e22) M23 e23) M24 e24)
      · refine md_goto (tgt := 377) (dd D115_ok 146 rfl) (by decide) ?_
        refine md_iinc (v := x2 + 1) (dd D115_ok 228 rfl) rfl rfl ?_
        refine md_goto (tgt := 220) (dd D115_ok 229 rfl) (by decide) ?_
        exact (((k.2 c1).2.2.2 c2).2 c4)
set_option maxHeartbeats 1000000 in
theorem vc115_385 {xs : List Int32} {mo : Nat} {ad : Nat → Nat} (hD : md_D mo ad) {h0 : am_H} {d : Nat} {Q : Option Value → md_S → Prop} {M : md_S} {x1 : Int32} {x2 : Int32} {o3 : Option Value}
    (k : (((M.1 29) ≤ x2) → Q (some (.int (M.2 18 (Int32.toNatClampNeg 0)))) M) ∧ (¬ ((M.1 29) ≤ x2) → (vp_in x2 3700) ∧ ((vp_in (M.2 30 x2.toNatClampNeg) 60) ∧ ((vp_in (M.2 14 (M.2 30 x2.toNatClampNeg).toNatClampNeg) 60) ∧ (∀ M1 : md_S, M1 = md_up2 M 33 x2.toNatClampNeg ((M.2 33 x2.toNatClampNeg) + ((M.2 15 (M.2 14 (M.2 30 x2.toNatClampNeg).toNatClampNeg).toNatClampNeg) + (f_edges M (M.2 14 (M.2 30 x2.toNatClampNeg).toNatClampNeg)))) → (∀ M2 : md_S, M2 = md_up2 M1 34 x2.toNatClampNeg ((M1.2 34 x2.toNatClampNeg) + ((M1.2 16 (M.2 14 (M.2 30 x2.toNatClampNeg).toNatClampNeg).toNatClampNeg) + (f_edges M1 (M.2 14 (M.2 30 x2.toNatClampNeg).toNatClampNeg)))) → (md_wp xs mo ad h0 (d + 11) Q I115 385 [some (.ref mo), some (.int x1), some (.int (x2 + 1)), some (.int (M.2 14 (M.2 30 x2.toNatClampNeg).toNatClampNeg))] [] M2))))))) :
    md_wp xs mo ad h0 (d + 11) Q I115 385 [some (.ref mo), some (.int x1), some (.int x2), o3] [] M := by
  refine md_iload_n (dd D115_ok 232 rfl) rfl ?_
  refine md_aload0 (dd D115_ok 233 rfl) rfl ?_
  refine md_getI (dd D115_ok 234 rfl) pl9_153 (by decide) rfl ?_
  refine md_icmp_ge (tgt := 453) (dd D115_ok 235 rfl) (by decide) (fun c1 => ?_) (fun c1 => ?_)
  · refine md_aload0 (dd D115_ok 276 rfl) rfl ?_
    refine md_getA (dd D115_ok 277 rfl) pl9_64 (by decide) rfl ?_
    refine md_iconst (v := 0) (dd D115_ok 278 rfl) (by decide) ?_
    refine md_iald (f := 18) (dd D115_ok 279 rfl) rfl (md_vl (by decide)) ?_
    exact md_iret (dd D115_ok 280 rfl) rfl (k.1 c1)
  · refine md_aload0 (dd D115_ok 236 rfl) rfl ?_
    refine md_getA (dd D115_ok 237 rfl) pl9_52 (by decide) rfl ?_
    refine md_aload0 (dd D115_ok 238 rfl) rfl ?_
    refine md_getA (dd D115_ok 239 rfl) pl9_94 (by decide) rfl ?_
    refine md_iload_n (dd D115_ok 240 rfl) rfl ?_
    refine md_iald (f := 30) (dd D115_ok 241 rfl) rfl (k.2 c1).1 ?_
    refine md_iald (f := 14) (dd D115_ok 242 rfl) rfl (k.2 c1).2.1 ?_
    refine md_istore_n (dd D115_ok 243 rfl) (Nat.le_of_ble_eq_true rfl) ?_
    refine md_aload0 (dd D115_ok 244 rfl) rfl ?_
    refine md_getA (dd D115_ok 245 rfl) pl9_103 (by decide) rfl ?_
    refine md_iload_n (dd D115_ok 246 rfl) rfl ?_
    refine md_dup2 (dd D115_ok 247 rfl) ?_
    refine md_iald (f := 33) (dd D115_ok 248 rfl) rfl (k.2 c1).1 ?_
    refine md_aload0 (dd D115_ok 249 rfl) rfl ?_
    refine md_getA (dd D115_ok 250 rfl) pl9_55 (by decide) rfl ?_
    refine md_iload_n (dd D115_ok 251 rfl) rfl ?_
    refine md_iald (f := 15) (dd D115_ok 252 rfl) rfl (k.2 c1).2.2.1 ?_
    refine md_aload0 (dd D115_ok 253 rfl) rfl ?_
    refine md_iload_n (dd D115_ok 254 rfl) rfl ?_
    refine md_callI (as := [.int (M.2 14 (M.2 30 x2.toNatClampNeg).toNatClampNeg)]) (rest := [.int (M.2 15 (M.2 14 (M.2 30 x2.toNatClampNeg).toNatClampNeg).toNatClampNeg), .int (M.2 33 x2.toNatClampNeg), .int x2, .ref (ad 33)]) (dd D115_ok 255 rfl) pl9_171 rfl (Nat.le_of_ble_eq_true rfl) (ms125 xs) rfl (c_f_edges hD (k.2 c1).2.2.1) rfl ?_
    refine md_iadd (dd D115_ok 256 rfl) ?_
    refine md_iadd (dd D115_ok 257 rfl) ?_
    refine md_iast (f := 33) hD (dd D115_ok 258 rfl) rfl (k.2 c1).1 ?_
    refine md_nm (fun M1 e1 => ?_)
    refine md_aload0 (dd D115_ok 259 rfl) rfl ?_
    refine md_getA (dd D115_ok 260 rfl) pl9_106 (by decide) rfl ?_
    refine md_iload_n (dd D115_ok 261 rfl) rfl ?_
    refine md_dup2 (dd D115_ok 262 rfl) ?_
    refine md_iald (f := 34) (dd D115_ok 263 rfl) rfl (k.2 c1).1 ?_
    refine md_aload0 (dd D115_ok 264 rfl) rfl ?_
    refine md_getA (dd D115_ok 265 rfl) pl9_58 (by decide) rfl ?_
    refine md_iload_n (dd D115_ok 266 rfl) rfl ?_
    refine md_iald (f := 16) (dd D115_ok 267 rfl) rfl (k.2 c1).2.2.1 ?_
    refine md_aload0 (dd D115_ok 268 rfl) rfl ?_
    refine md_iload_n (dd D115_ok 269 rfl) rfl ?_
    refine md_callI (as := [.int (M.2 14 (M.2 30 x2.toNatClampNeg).toNatClampNeg)]) (rest := [.int (M1.2 16 (M.2 14 (M.2 30 x2.toNatClampNeg).toNatClampNeg).toNatClampNeg), .int (M1.2 34 x2.toNatClampNeg), .int x2, .ref (ad 34)]) (dd D115_ok 270 rfl) pl9_171 rfl (Nat.le_of_ble_eq_true rfl) (ms125 xs) rfl (c_f_edges hD (k.2 c1).2.2.1) rfl ?_
    refine md_iadd (dd D115_ok 271 rfl) ?_
    refine md_iadd (dd D115_ok 272 rfl) ?_
    refine md_iast (f := 34) hD (dd D115_ok 273 rfl) rfl (k.2 c1).1 ?_
    refine md_nm (fun M2 e2 => ?_)
    refine md_iinc (v := x2 + 1) (dd D115_ok 274 rfl) rfl rfl ?_
    refine md_goto (tgt := 385) (dd D115_ok 275 rfl) (by decide) ?_
    exact (((k.2 c1).2.2.2 M1 e1) M2 e2)
