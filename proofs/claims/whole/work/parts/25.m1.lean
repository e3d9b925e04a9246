/-! the reference's small methods (by program: wip/whole/gen/m1.py) -/
theorem md_vl {j : Int32} {n : Nat} (h : ¬ (j < 0 ∨ n ≤ j.toNatClampNeg)) : vp_in j n := h
theorem md_has {n p : Int32} (hn : vp_in n 60) (hp : vp_in p 9) : vp_in (9 * n + p) 540 := by
  obtain ⟨a, ha, rfl⟩ := vp_in_of hn (by decide)
  obtain ⟨b, hb, rfl⟩ := vp_in_of hp (by decide)
  have e : (9 : Int32) * nI a + nI b = nI (9 * a + b) := by rw [show (9 : Int32) = nI 9 from rfl, pk_mul, nI_add]
  rw [e]
  exact vp_in_nI (by omega) (by decide)
/-- more -/
def f_more (a b : Int32) : Int32 := if a ≤ b then b else a
set_option maxHeartbeats 1000000 in
theorem vc126_0 {xs : List Int32} {d : Nat} {Q : Option Value → am_H → Prop} {h : am_H} {a : Int32} {b : Int32}
    (k1 : (a ≤ b) → Q (some (.int b)) h)
    (k2 : ¬ (a ≤ b) → Q (some (.int a)) h) :
    am_wp (am_Bx xs) am_nm (am_T (am_Bx xs) am_nm d) Q I126 (0, [some (.int a), some (.int b)], [], h) := by
  refine ax_iload_n (dd D126_ok 0 rfl) rfl ?_
  refine ax_iload_n (dd D126_ok 1 rfl) rfl ?_
  refine ax_icmp_le (tgt := 9) (dd D126_ok 2 rfl) (by decide) (fun c1 => ?_) (fun c1 => ?_)
  · refine ax_iload_n (dd D126_ok 5 rfl) rfl ?_
    exact ax_iret (dd D126_ok 6 rfl) rfl (k1 c1)
  · refine ax_iload_n (dd D126_ok 3 rfl) rfl ?_
    refine ax_goto (tgt := 10) (dd D126_ok 4 rfl) (by decide) ?_
    exact ax_iret (dd D126_ok 6 rfl) rfl (k2 c1)
theorem c_f_more {xs : List Int32} {d : Nat} {a b : Int32} : ∀ Q', Q' (some (.int (f_more a b))) → md_Cs xs (d + 1) 126 [.int a, .int b] Q' :=
  fun Q' hQ h => ax_intro (ms126 xs) (Nat.le_of_ble_eq_true rfl) (vc126_0 (fun q0 => ⟨rfl, by rw [f_more, if_pos q0] at hQ; exact hQ⟩) (fun q0 => ⟨rfl, by rw [f_more, if_neg q0] at hQ; exact hQ⟩))
/-- less -/
def f_less (a b : Int32) : Int32 := if b ≤ a then b else a
set_option maxHeartbeats 1000000 in
theorem vc133_0 {xs : List Int32} {d : Nat} {Q : Option Value → am_H → Prop} {h : am_H} {a : Int32} {b : Int32}
    (k1 : (b ≤ a) → Q (some (.int b)) h)
    (k2 : ¬ (b ≤ a) → Q (some (.int a)) h) :
    am_wp (am_Bx xs) am_nm (am_T (am_Bx xs) am_nm d) Q I133 (0, [some (.int a), some (.int b)], [], h) := by
  refine ax_iload_n (dd D133_ok 0 rfl) rfl ?_
  refine ax_iload_n (dd D133_ok 1 rfl) rfl ?_
  refine ax_icmp_ge (tgt := 9) (dd D133_ok 2 rfl) (by decide) (fun c1 => ?_) (fun c1 => ?_)
  · refine ax_iload_n (dd D133_ok 5 rfl) rfl ?_
    exact ax_iret (dd D133_ok 6 rfl) rfl (k1 c1)
  · refine ax_iload_n (dd D133_ok 3 rfl) rfl ?_
    refine ax_goto (tgt := 10) (dd D133_ok 4 rfl) (by decide) ?_
    exact ax_iret (dd D133_ok 6 rfl) rfl (k2 c1)
theorem c_f_less {xs : List Int32} {d : Nat} {a b : Int32} : ∀ Q', Q' (some (.int (f_less a b))) → md_Cs xs (d + 1) 133 [.int a, .int b] Q' :=
  fun Q' hQ h => ax_intro (ms133 xs) (Nat.le_of_ble_eq_true rfl) (vc133_0 (fun q0 => ⟨rfl, by rw [f_less, if_pos q0] at hQ; exact hQ⟩) (fun q0 => ⟨rfl, by rw [f_less, if_neg q0] at hQ; exact hQ⟩))
/-- isBlank -/
def f_blank (a : Int32) : Int32 := if a = 10 then 1 else (if ¬ a = 32 then 0 else 1)
set_option maxHeartbeats 1000000 in
theorem vc131_0 {xs : List Int32} {d : Nat} {Q : Option Value → am_H → Prop} {h : am_H} {a : Int32}
    (k1 : (a = 10) → Q (some (.int 1)) h)
    (k2 : ¬ (a = 10) → ¬ a = 32 → Q (some (.int 0)) h)
    (k3 : ¬ (a = 10) → ¬ (¬ a = 32) → Q (some (.int 1)) h) :
    am_wp (am_Bx xs) am_nm (am_T (am_Bx xs) am_nm d) Q I131 (0, [some (.int a)], [], h) := by
  refine ax_iload_n (dd D131_ok 0 rfl) rfl ?_
  refine ax_bipush (v := 10) (dd D131_ok 1 rfl) (by decide) ?_
  refine ax_icmp_eq (tgt := 12) (dd D131_ok 2 rfl) (by decide) (fun c1 => ?_) (fun c1 => ?_)
  · refine ax_iconst (v := 1) (dd D131_ok 6 rfl) (by decide) ?_
    refine ax_goto (tgt := 17) (dd D131_ok 7 rfl) (by decide) ?_
    exact ax_iret (dd D131_ok 9 rfl) rfl (k1 c1)
  · refine ax_iload_n (dd D131_ok 3 rfl) rfl ?_
    refine ax_bipush (v := 32) (dd D131_ok 4 rfl) (by decide) ?_
    refine ax_icmp_ne (tgt := 16) (dd D131_ok 5 rfl) (by decide) (fun c2 => ?_) (fun c2 => ?_)
    · refine ax_iconst (v := 0) (dd D131_ok 8 rfl) (by decide) ?_
      exact ax_iret (dd D131_ok 9 rfl) rfl (k2 c1 c2)
    · refine ax_iconst (v := 1) (dd D131_ok 6 rfl) (by decide) ?_
      refine ax_goto (tgt := 17) (dd D131_ok 7 rfl) (by decide) ?_
      exact ax_iret (dd D131_ok 9 rfl) rfl (k3 c1 c2)
theorem c_f_blank {xs : List Int32} {d : Nat} {a : Int32} : ∀ Q', Q' (some (.int (f_blank a))) → md_Cs xs (d + 1) 131 [.int a] Q' :=
  fun Q' hQ h => ax_intro (ms131 xs) (Nat.le_of_ble_eq_true rfl) (vc131_0 (fun q0 => ⟨rfl, by rw [f_blank, if_pos q0] at hQ; exact hQ⟩) (fun q0 q1 => ⟨rfl, by rw [f_blank, if_neg q0, if_pos q1] at hQ; exact hQ⟩) (fun q0 q1 => ⟨rfl, by rw [f_blank, if_neg q0, if_neg q1] at hQ; exact hQ⟩))
/-- glyph -/
def f_glyph (a : Int32) : Int32 := if a = 105 then 2 else (if a = 108 then 2 else (if a = 106 then 2 else (if a = 46 then 2 else (if a = 44 then 2 else (if a = 39 then 2 else (if a = 58 then 2 else (if a = 59 then 2 else (if a = 33 then 2 else (if ¬ a = 124 then (if a = 109 then 5 else (if a = 119 then 5 else (if a = 77 then 5 else (if a = 87 then 5 else (if ¬ a = 64 then 4 else 5))))) else 2)))))))))
set_option maxHeartbeats 1000000 in
theorem vc132_0 {xs : List Int32} {d : Nat} {Q : Option Value → am_H → Prop} {h : am_H} {a : Int32}
    (k1 : (a = 105) → Q (some (.int 2)) h)
    (k2 : ¬ (a = 105) → (a = 108) → Q (some (.int 2)) h)
    (k3 : ¬ (a = 105) → ¬ (a = 108) → (a = 106) → Q (some (.int 2)) h)
    (k4 : ¬ (a = 105) → ¬ (a = 108) → ¬ (a = 106) → (a = 46) → Q (some (.int 2)) h)
    (k5 : ¬ (a = 105) → ¬ (a = 108) → ¬ (a = 106) → ¬ (a = 46) → (a = 44) → Q (some (.int 2)) h)
    (k6 : ¬ (a = 105) → ¬ (a = 108) → ¬ (a = 106) → ¬ (a = 46) → ¬ (a = 44) → (a = 39) → Q (some (.int 2)) h)
    (k7 : ¬ (a = 105) → ¬ (a = 108) → ¬ (a = 106) → ¬ (a = 46) → ¬ (a = 44) → ¬ (a = 39) → (a = 58) → Q (some (.int 2)) h)
    (k8 : ¬ (a = 105) → ¬ (a = 108) → ¬ (a = 106) → ¬ (a = 46) → ¬ (a = 44) → ¬ (a = 39) → ¬ (a = 58) → (a = 59) → Q (some (.int 2)) h)
    (k9 : ¬ (a = 105) → ¬ (a = 108) → ¬ (a = 106) → ¬ (a = 46) → ¬ (a = 44) → ¬ (a = 39) → ¬ (a = 58) → ¬ (a = 59) → (a = 33) → Q (some (.int 2)) h)
    (k10 : ¬ (a = 105) → ¬ (a = 108) → ¬ (a = 106) → ¬ (a = 46) → ¬ (a = 44) → ¬ (a = 39) → ¬ (a = 58) → ¬ (a = 59) → ¬ (a = 33) → ¬ a = 124 → (a = 109) → Q (some (.int 5)) h)
    (k11 : ¬ (a = 105) → ¬ (a = 108) → ¬ (a = 106) → ¬ (a = 46) → ¬ (a = 44) → ¬ (a = 39) → ¬ (a = 58) → ¬ (a = 59) → ¬ (a = 33) → ¬ a = 124 → ¬ (a = 109) → (a = 119) → Q (some (.int 5)) h)
    (k12 : ¬ (a = 105) → ¬ (a = 108) → ¬ (a = 106) → ¬ (a = 46) → ¬ (a = 44) → ¬ (a = 39) → ¬ (a = 58) → ¬ (a = 59) → ¬ (a = 33) → ¬ a = 124 → ¬ (a = 109) → ¬ (a = 119) → (a = 77) → Q (some (.int 5)) h)
    (k13 : ¬ (a = 105) → ¬ (a = 108) → ¬ (a = 106) → ¬ (a = 46) → ¬ (a = 44) → ¬ (a = 39) → ¬ (a = 58) → ¬ (a = 59) → ¬ (a = 33) → ¬ a = 124 → ¬ (a = 109) → ¬ (a = 119) → ¬ (a = 77) → (a = 87) → Q (some (.int 5)) h)
    (k14 : ¬ (a = 105) → ¬ (a = 108) → ¬ (a = 106) → ¬ (a = 46) → ¬ (a = 44) → ¬ (a = 39) → ¬ (a = 58) → ¬ (a = 59) → ¬ (a = 33) → ¬ a = 124 → ¬ (a = 109) → ¬ (a = 119) → ¬ (a = 77) → ¬ (a = 87) → ¬ a = 64 → Q (some (.int 4)) h)
    (k15 : ¬ (a = 105) → ¬ (a = 108) → ¬ (a = 106) → ¬ (a = 46) → ¬ (a = 44) → ¬ (a = 39) → ¬ (a = 58) → ¬ (a = 59) → ¬ (a = 33) → ¬ a = 124 → ¬ (a = 109) → ¬ (a = 119) → ¬ (a = 77) → ¬ (a = 87) → ¬ (¬ a = 64) → Q (some (.int 5)) h)
    (k16 : ¬ (a = 105) → ¬ (a = 108) → ¬ (a = 106) → ¬ (a = 46) → ¬ (a = 44) → ¬ (a = 39) → ¬ (a = 58) → ¬ (a = 59) → ¬ (a = 33) → ¬ (¬ a = 124) → Q (some (.int 2)) h) :
    am_wp (am_Bx xs) am_nm (am_T (am_Bx xs) am_nm d) Q I132 (0, [some (.int a)], [], h) := by
  refine ax_iload_n (dd D132_ok 0 rfl) rfl ?_
  refine ax_bipush (v := 105) (dd D132_ok 1 rfl) (by decide) ?_
  refine ax_icmp_eq (tgt := 60) (dd D132_ok 2 rfl) (by decide) (fun c1 => ?_) (fun c1 => ?_)
  · refine ax_iconst (v := 2) (dd D132_ok 30 rfl) (by decide) ?_
    exact ax_iret (dd D132_ok 31 rfl) rfl (k1 c1)
  · refine ax_iload_n (dd D132_ok 3 rfl) rfl ?_
    refine ax_bipush (v := 108) (dd D132_ok 4 rfl) (by decide) ?_
    refine ax_icmp_eq (tgt := 60) (dd D132_ok 5 rfl) (by decide) (fun c2 => ?_) (fun c2 => ?_)
    · refine ax_iconst (v := 2) (dd D132_ok 30 rfl) (by decide) ?_
      exact ax_iret (dd D132_ok 31 rfl) rfl (k2 c1 c2)
    · refine ax_iload_n (dd D132_ok 6 rfl) rfl ?_
      refine ax_bipush (v := 106) (dd D132_ok 7 rfl) (by decide) ?_
      refine ax_icmp_eq (tgt := 60) (dd D132_ok 8 rfl) (by decide) (fun c3 => ?_) (fun c3 => ?_)
      · refine ax_iconst (v := 2) (dd D132_ok 30 rfl) (by decide) ?_
        exact ax_iret (dd D132_ok 31 rfl) rfl (k3 c1 c2 c3)
      · refine ax_iload_n (dd D132_ok 9 rfl) rfl ?_
        refine ax_bipush (v := 46) (dd D132_ok 10 rfl) (by decide) ?_
        refine ax_icmp_eq (tgt := 60) (dd D132_ok 11 rfl) (by decide) (fun c4 => ?_) (fun c4 => ?_)
        · refine ax_iconst (v := 2) (dd D132_ok 30 rfl) (by decide) ?_
          exact ax_iret (dd D132_ok 31 rfl) rfl (k4 c1 c2 c3 c4)
        · refine ax_iload_n (dd D132_ok 12 rfl) rfl ?_
          refine ax_bipush (v := 44) (dd D132_ok 13 rfl) (by decide) ?_
          refine ax_icmp_eq (tgt := 60) (dd D132_ok 14 rfl) (by decide) (fun c5 => ?_) (fun c5 => ?_)
          · refine ax_iconst (v := 2) (dd D132_ok 30 rfl) (by decide) ?_
            exact ax_iret (dd D132_ok 31 rfl) rfl (k5 c1 c2 c3 c4 c5)
          · refine ax_iload_n (dd D132_ok 15 rfl) rfl ?_
            refine ax_bipush (v := 39) (dd D132_ok 16 rfl) (by decide) ?_
            refine ax_icmp_eq (tgt := 60) (dd D132_ok 17 rfl) (by decide) (fun c6 => ?_) (fun c6 => ?_)
            · refine ax_iconst (v := 2) (dd D132_ok 30 rfl) (by decide) ?_
              exact ax_iret (dd D132_ok 31 rfl) rfl (k6 c1 c2 c3 c4 c5 c6)
            · refine ax_iload_n (dd D132_ok 18 rfl) rfl ?_
              refine ax_bipush (v := 58) (dd D132_ok 19 rfl) (by decide) ?_
              refine ax_icmp_eq (tgt := 60) (dd D132_ok 20 rfl) (by decide) (fun c7 => ?_) (fun c7 => ?_)
              · refine ax_iconst (v := 2) (dd D132_ok 30 rfl) (by decide) ?_
                exact ax_iret (dd D132_ok 31 rfl) rfl (k7 c1 c2 c3 c4 c5 c6 c7)
              · refine ax_iload_n (dd D132_ok 21 rfl) rfl ?_
                refine ax_bipush (v := 59) (dd D132_ok 22 rfl) (by decide) ?_
                refine ax_icmp_eq (tgt := 60) (dd D132_ok 23 rfl) (by decide) (fun c8 => ?_) (fun c8 => ?_)
                · refine ax_iconst (v := 2) (dd D132_ok 30 rfl) (by decide) ?_
                  exact ax_iret (dd D132_ok 31 rfl) rfl (k8 c1 c2 c3 c4 c5 c6 c7 c8)
                · refine ax_iload_n (dd D132_ok 24 rfl) rfl ?_
                  refine ax_bipush (v := 33) (dd D132_ok 25 rfl) (by decide) ?_
                  refine ax_icmp_eq (tgt := 60) (dd D132_ok 26 rfl) (by decide) (fun c9 => ?_) (fun c9 => ?_)
                  · refine ax_iconst (v := 2) (dd D132_ok 30 rfl) (by decide) ?_
                    exact ax_iret (dd D132_ok 31 rfl) rfl (k9 c1 c2 c3 c4 c5 c6 c7 c8 c9)
                  · refine ax_iload_n (dd D132_ok 27 rfl) rfl ?_
                    refine ax_bipush (v := 124) (dd D132_ok 28 rfl) (by decide) ?_
                    refine ax_icmp_ne (tgt := 62) (dd D132_ok 29 rfl) (by decide) (fun c10 => ?_) (fun c10 => ?_)
                    · refine ax_iload_n (dd D132_ok 32 rfl) rfl ?_
                      refine ax_bipush (v := 109) (dd D132_ok 33 rfl) (by decide) ?_
                      refine ax_icmp_eq (tgt := 92) (dd D132_ok 34 rfl) (by decide) (fun c11 => ?_) (fun c11 => ?_)
                      · refine ax_iconst (v := 5) (dd D132_ok 47 rfl) (by decide) ?_
                        refine ax_goto (tgt := 97) (dd D132_ok 48 rfl) (by decide) ?_
                        exact ax_iret (dd D132_ok 50 rfl) rfl (k10 c1 c2 c3 c4 c5 c6 c7 c8 c9 c10 c11)
                      · refine ax_iload_n (dd D132_ok 35 rfl) rfl ?_
                        refine ax_bipush (v := 119) (dd D132_ok 36 rfl) (by decide) ?_
                        refine ax_icmp_eq (tgt := 92) (dd D132_ok 37 rfl) (by decide) (fun c12 => ?_) (fun c12 => ?_)
                        · refine ax_iconst (v := 5) (dd D132_ok 47 rfl) (by decide) ?_
                          refine ax_goto (tgt := 97) (dd D132_ok 48 rfl) (by decide) ?_
                          exact ax_iret (dd D132_ok 50 rfl) rfl (k11 c1 c2 c3 c4 c5 c6 c7 c8 c9 c10 c11 c12)
                        · refine ax_iload_n (dd D132_ok 38 rfl) rfl ?_
                          refine ax_bipush (v := 77) (dd D132_ok 39 rfl) (by decide) ?_
                          refine ax_icmp_eq (tgt := 92) (dd D132_ok 40 rfl) (by decide) (fun c13 => ?_) (fun c13 => ?_)
                          · refine ax_iconst (v := 5) (dd D132_ok 47 rfl) (by decide) ?_
                            refine ax_goto (tgt := 97) (dd D132_ok 48 rfl) (by decide) ?_
                            exact ax_iret (dd D132_ok 50 rfl) rfl (k12 c1 c2 c3 c4 c5 c6 c7 c8 c9 c10 c11 c12 c13)
                          · refine ax_iload_n (dd D132_ok 41 rfl) rfl ?_
                            refine ax_bipush (v := 87) (dd D132_ok 42 rfl) (by decide) ?_
                            refine ax_icmp_eq (tgt := 92) (dd D132_ok 43 rfl) (by decide) (fun c14 => ?_) (fun c14 => ?_)
                            · refine ax_iconst (v := 5) (dd D132_ok 47 rfl) (by decide) ?_
                              refine ax_goto (tgt := 97) (dd D132_ok 48 rfl) (by decide) ?_
                              exact ax_iret (dd D132_ok 50 rfl) rfl (k13 c1 c2 c3 c4 c5 c6 c7 c8 c9 c10 c11 c12 c13 c14)
                            · refine ax_iload_n (dd D132_ok 44 rfl) rfl ?_
                              refine ax_bipush (v := 64) (dd D132_ok 45 rfl) (by decide) ?_
                              refine ax_icmp_ne (tgt := 96) (dd D132_ok 46 rfl) (by decide) (fun c15 => ?_) (fun c15 => ?_)
                              · refine ax_iconst (v := 4) (dd D132_ok 49 rfl) (by decide) ?_
                                exact ax_iret (dd D132_ok 50 rfl) rfl (k14 c1 c2 c3 c4 c5 c6 c7 c8 c9 c10 c11 c12 c13 c14 c15)
                              · refine ax_iconst (v := 5) (dd D132_ok 47 rfl) (by decide) ?_
                                refine ax_goto (tgt := 97) (dd D132_ok 48 rfl) (by decide) ?_
                                exact ax_iret (dd D132_ok 50 rfl) rfl (k15 c1 c2 c3 c4 c5 c6 c7 c8 c9 c10 c11 c12 c13 c14 c15)
                    · refine ax_iconst (v := 2) (dd D132_ok 30 rfl) (by decide) ?_
                      exact ax_iret (dd D132_ok 31 rfl) rfl (k16 c1 c2 c3 c4 c5 c6 c7 c8 c9 c10)
theorem c_f_glyph {xs : List Int32} {d : Nat} {a : Int32} : ∀ Q', Q' (some (.int (f_glyph a))) → md_Cs xs (d + 1) 132 [.int a] Q' :=
  fun Q' hQ h => ax_intro (ms132 xs) (Nat.le_of_ble_eq_true rfl) (vc132_0 (fun q0 => ⟨rfl, by rw [f_glyph, if_pos q0] at hQ; exact hQ⟩) (fun q0 q1 => ⟨rfl, by rw [f_glyph, if_neg q0, if_pos q1] at hQ; exact hQ⟩) (fun q0 q1 q2 => ⟨rfl, by rw [f_glyph, if_neg q0, if_neg q1, if_pos q2] at hQ; exact hQ⟩) (fun q0 q1 q2 q3 => ⟨rfl, by rw [f_glyph, if_neg q0, if_neg q1, if_neg q2, if_pos q3] at hQ; exact hQ⟩) (fun q0 q1 q2 q3 q4 => ⟨rfl, by rw [f_glyph, if_neg q0, if_neg q1, if_neg q2, if_neg q3, if_pos q4] at hQ; exact hQ⟩) (fun q0 q1 q2 q3 q4 q5 => ⟨rfl, by rw [f_glyph, if_neg q0, if_neg q1, if_neg q2, if_neg q3, if_neg q4, if_pos q5] at hQ; exact hQ⟩) (fun q0 q1 q2 q3 q4 q5 q6 => ⟨rfl, by rw [f_glyph, if_neg q0, if_neg q1, if_neg q2, if_neg q3, if_neg q4, if_neg q5, if_pos q6] at hQ; exact hQ⟩) (fun q0 q1 q2 q3 q4 q5 q6 q7 => ⟨rfl, by rw [f_glyph, if_neg q0, if_neg q1, if_neg q2, if_neg q3, if_neg q4, if_neg q5, if_neg q6, if_pos q7] at hQ; exact hQ⟩) (fun q0 q1 q2 q3 q4 q5 q6 q7 q8 => ⟨rfl, by rw [f_glyph, if_neg q0, if_neg q1, if_neg q2, if_neg q3, if_neg q4, if_neg q5, if_neg q6, if_neg q7, if_pos q8] at hQ; exact hQ⟩) (fun q0 q1 q2 q3 q4 q5 q6 q7 q8 q9 q10 => ⟨rfl, by rw [f_glyph, if_neg q0, if_neg q1, if_neg q2, if_neg q3, if_neg q4, if_neg q5, if_neg q6, if_neg q7, if_neg q8, if_pos q9, if_pos q10] at hQ; exact hQ⟩) (fun q0 q1 q2 q3 q4 q5 q6 q7 q8 q9 q10 q11 => ⟨rfl, by rw [f_glyph, if_neg q0, if_neg q1, if_neg q2, if_neg q3, if_neg q4, if_neg q5, if_neg q6, if_neg q7, if_neg q8, if_pos q9, if_neg q10, if_pos q11] at hQ; exact hQ⟩) (fun q0 q1 q2 q3 q4 q5 q6 q7 q8 q9 q10 q11 q12 => ⟨rfl, by rw [f_glyph, if_neg q0, if_neg q1, if_neg q2, if_neg q3, if_neg q4, if_neg q5, if_neg q6, if_neg q7, if_neg q8, if_pos q9, if_neg q10, if_neg q11, if_pos q12] at hQ; exact hQ⟩) (fun q0 q1 q2 q3 q4 q5 q6 q7 q8 q9 q10 q11 q12 q13 => ⟨rfl, by rw [f_glyph, if_neg q0, if_neg q1, if_neg q2, if_neg q3, if_neg q4, if_neg q5, if_neg q6, if_neg q7, if_neg q8, if_pos q9, if_neg q10, if_neg q11, if_neg q12, if_pos q13] at hQ; exact hQ⟩) (fun q0 q1 q2 q3 q4 q5 q6 q7 q8 q9 q10 q11 q12 q13 q14 => ⟨rfl, by rw [f_glyph, if_neg q0, if_neg q1, if_neg q2, if_neg q3, if_neg q4, if_neg q5, if_neg q6, if_neg q7, if_neg q8, if_pos q9, if_neg q10, if_neg q11, if_neg q12, if_neg q13, if_pos q14] at hQ; exact hQ⟩) (fun q0 q1 q2 q3 q4 q5 q6 q7 q8 q9 q10 q11 q12 q13 q14 => ⟨rfl, by rw [f_glyph, if_neg q0, if_neg q1, if_neg q2, if_neg q3, if_neg q4, if_neg q5, if_neg q6, if_neg q7, if_neg q8, if_pos q9, if_neg q10, if_neg q11, if_neg q12, if_neg q13, if_neg q14] at hQ; exact hQ⟩) (fun q0 q1 q2 q3 q4 q5 q6 q7 q8 q9 => ⟨rfl, by rw [f_glyph, if_neg q0, if_neg q1, if_neg q2, if_neg q3, if_neg q4, if_neg q5, if_neg q6, if_neg q7, if_neg q8, if_neg q9] at hQ; exact hQ⟩))
/-- there -/
def f_there (M : md_S) (a : Int32) : Int32 := if a < 0 then 0 else (if (M.1 2) ≤ a then 0 else 1)
set_option maxHeartbeats 1000000 in
theorem vc111_0 {xs : List Int32} {mo : Nat} {ad : Nat → Nat} (hD : md_D mo ad) {h0 : am_H} {d : Nat} {Q : Option Value → md_S → Prop} {M : md_S} {a : Int32}
    (k1 : (a < 0) → Q (some (.int 0)) M)
    (k2 : ¬ (a < 0) → ((M.1 2) ≤ a) → Q (some (.int 0)) M)
    (k3 : ¬ (a < 0) → ¬ ((M.1 2) ≤ a) → Q (some (.int 1)) M) :
    md_wp xs mo ad h0 d Q I111 0 [some (.ref mo), some (.int a)] [] M := by
  refine md_iload_n (dd D111_ok 0 rfl) rfl ?_
  refine md_if_lt (tgt := 16) (dd D111_ok 1 rfl) (by decide) (fun c1 => ?_) (fun c1 => ?_)
  · refine md_iconst (v := 0) (dd D111_ok 8 rfl) (by decide) ?_
    exact md_iret (dd D111_ok 9 rfl) rfl (k1 c1)
  · refine md_iload_n (dd D111_ok 2 rfl) rfl ?_
    refine md_aload0 (dd D111_ok 3 rfl) rfl ?_
    refine md_getI (dd D111_ok 4 rfl) pl9_13 (by decide) rfl ?_
    refine md_icmp_ge (tgt := 16) (dd D111_ok 5 rfl) (by decide) (fun c2 => ?_) (fun c2 => ?_)
    · refine md_iconst (v := 0) (dd D111_ok 8 rfl) (by decide) ?_
      exact md_iret (dd D111_ok 9 rfl) rfl (k2 c1 c2)
    · refine md_iconst (v := 1) (dd D111_ok 6 rfl) (by decide) ?_
      refine md_goto (tgt := 17) (dd D111_ok 7 rfl) (by decide) ?_
      exact md_iret (dd D111_ok 9 rfl) rfl (k3 c1 c2)
theorem c_f_there {xs : List Int32} {mo : Nat} {ad : Nat → Nat} {d : Nat} {M : md_S} {a : Int32} (hD : md_D mo ad)  : ∀ Q', Q' (some (.int (f_there M a))) M → md_C xs mo ad (d + 1) 111 [.int a] M Q' :=
  fun Q' hQ => md_intro (ms111 xs) (Nat.le_of_ble_eq_true rfl) (fun h0 => vc111_0 hD (fun q0 => by rw [f_there, if_pos q0] at hQ; exact hQ) (fun q0 q1 => by rw [f_there, if_neg q0, if_pos q1] at hQ; exact hQ) (fun q0 q1 => by rw [f_there, if_neg q0, if_neg q1] at hQ; exact hQ))
/-- of -/
def f_of (M : md_S) (a b : Int32) : Int32 := M.2 9 ((9 * a) + b).toNatClampNeg
set_option maxHeartbeats 1000000 in
theorem vc118_0 {xs : List Int32} {mo : Nat} {ad : Nat → Nat} (hD : md_D mo ad) {h0 : am_H} {d : Nat} {Q : Option Value → md_S → Prop} {M : md_S} {a : Int32} {b : Int32}
    (b1 : vp_in ((9 * a) + b) 540)
    (k2 : Q (some (.int (M.2 9 ((9 * a) + b).toNatClampNeg))) M) :
    md_wp xs mo ad h0 d Q I118 0 [some (.ref mo), some (.int a), some (.int b)] [] M := by
  refine md_aload0 (dd D118_ok 0 rfl) rfl ?_
  refine md_getA (dd D118_ok 1 rfl) pl9_36 (by decide) rfl ?_
  refine md_bipush (v := 9) (dd D118_ok 2 rfl) (by decide) ?_
  refine md_iload_n (dd D118_ok 3 rfl) rfl ?_
  refine md_imul (dd D118_ok 4 rfl) ?_
  refine md_iload_n (dd D118_ok 5 rfl) rfl ?_
  refine md_iadd (dd D118_ok 6 rfl) ?_
  refine md_iald (f := 9) (dd D118_ok 7 rfl) rfl b1 ?_
  exact md_iret (dd D118_ok 8 rfl) rfl k2
theorem c_f_of {xs : List Int32} {mo : Nat} {ad : Nat → Nat} {d : Nat} {M : md_S} {a b : Int32} (hD : md_D mo ad) (hn : vp_in a 60) (hp : vp_in b 9) : ∀ Q', Q' (some (.int (f_of M a b))) M → md_C xs mo ad (d + 1) 118 [.int a, .int b] M Q' :=
  fun Q' hQ => md_intro (ms118 xs) (Nat.le_of_ble_eq_true rfl) (fun h0 => vc118_0 hD (by intros; exact md_has hn hp) (hQ))
/-- isBox -/
def f_isBox (M : md_S) (a : Int32) : Int32 := if (M.2 12 a.toNatClampNeg) = 1 then 1 else (if ¬ (M.2 12 a.toNatClampNeg) = 2 then 0 else 1)
set_option maxHeartbeats 1000000 in
theorem vc117_0 {xs : List Int32} {mo : Nat} {ad : Nat → Nat} (hD : md_D mo ad) {h0 : am_H} {d : Nat} {Q : Option Value → md_S → Prop} {M : md_S} {a : Int32}
    (b1 : vp_in a 60)
    (k2 : ((M.2 12 a.toNatClampNeg) = 1) → Q (some (.int 1)) M)
    (k3 : ¬ ((M.2 12 a.toNatClampNeg) = 1) → ¬ (M.2 12 a.toNatClampNeg) = 2 → Q (some (.int 0)) M)
    (k4 : ¬ ((M.2 12 a.toNatClampNeg) = 1) → ¬ (¬ (M.2 12 a.toNatClampNeg) = 2) → Q (some (.int 1)) M) :
    md_wp xs mo ad h0 d Q I117 0 [some (.ref mo), some (.int a)] [] M := by
  refine md_aload0 (dd D117_ok 0 rfl) rfl ?_
  refine md_getA (dd D117_ok 1 rfl) pl9_45 (by decide) rfl ?_
  refine md_iload_n (dd D117_ok 2 rfl) rfl ?_
  refine md_iald (f := 12) (dd D117_ok 3 rfl) rfl b1 ?_
  refine md_iconst (v := 1) (dd D117_ok 4 rfl) (by decide) ?_
  refine md_icmp_eq (tgt := 20) (dd D117_ok 5 rfl) (by decide) (fun c1 => ?_) (fun c1 => ?_)
  · refine md_iconst (v := 1) (dd D117_ok 12 rfl) (by decide) ?_
    refine md_goto (tgt := 25) (dd D117_ok 13 rfl) (by decide) ?_
    exact md_iret (dd D117_ok 15 rfl) rfl (k2 c1)
  · refine md_aload0 (dd D117_ok 6 rfl) rfl ?_
    refine md_getA (dd D117_ok 7 rfl) pl9_45 (by decide) rfl ?_
    refine md_iload_n (dd D117_ok 8 rfl) rfl ?_
    refine md_iald (f := 12) (dd D117_ok 9 rfl) rfl b1 ?_
    refine md_iconst (v := 2) (dd D117_ok 10 rfl) (by decide) ?_
    refine md_icmp_ne (tgt := 24) (dd D117_ok 11 rfl) (by decide) (fun c2 => ?_) (fun c2 => ?_)
    · refine md_iconst (v := 0) (dd D117_ok 14 rfl) (by decide) ?_
      exact md_iret (dd D117_ok 15 rfl) rfl (k3 c1 c2)
    · refine md_iconst (v := 1) (dd D117_ok 12 rfl) (by decide) ?_
      refine md_goto (tgt := 25) (dd D117_ok 13 rfl) (by decide) ?_
      exact md_iret (dd D117_ok 15 rfl) rfl (k4 c1 c2)
theorem c_f_isBox {xs : List Int32} {mo : Nat} {ad : Nat → Nat} {d : Nat} {M : md_S} {a : Int32} (hD : md_D mo ad) (hn : vp_in a 60) : ∀ Q', Q' (some (.int (f_isBox M a))) M → md_C xs mo ad (d + 1) 117 [.int a] M Q' :=
  fun Q' hQ => md_intro (ms117 xs) (Nat.le_of_ble_eq_true rfl) (fun h0 => vc117_0 hD (by intros; assumption) (fun q0 => by rw [f_isBox, if_pos q0] at hQ; exact hQ) (fun q0 q1 => by rw [f_isBox, if_neg q0, if_pos q1] at hQ; exact hQ) (fun q0 q1 => by rw [f_isBox, if_neg q0, if_neg q1] at hQ; exact hQ))
/-- edges -/
def f_edges (M : md_S) (a : Int32) : Int32 := (f_of M a 5) + (f_of M a 6)
set_option maxHeartbeats 1000000 in
theorem vc125_0 {xs : List Int32} {mo : Nat} {ad : Nat → Nat} (hD : md_D mo ad) {h0 : am_H} {d : Nat} {Q : Option Value → md_S → Prop} {M : md_S} {a : Int32}
    (b1 : vp_in a 60)
    (k2 : Q (some (.int ((f_of M a 5) + (f_of M a 6)))) M) :
    md_wp xs mo ad h0 (d + 1) Q I125 0 [some (.ref mo), some (.int a)] [] M := by
  refine md_aload0 (dd D125_ok 0 rfl) rfl ?_
  refine md_iload_n (dd D125_ok 1 rfl) rfl ?_
  refine md_iconst (v := 5) (dd D125_ok 2 rfl) (by decide) ?_
  refine md_callI (as := [.int a, .int 5]) (rest := []) (dd D125_ok 3 rfl) pl9_168 rfl (Nat.le_of_ble_eq_true rfl) (ms118 xs) rfl (c_f_of hD b1 (md_vl (by decide))) rfl ?_
  refine md_aload0 (dd D125_ok 4 rfl) rfl ?_
  refine md_iload_n (dd D125_ok 5 rfl) rfl ?_
  refine md_bipush (v := 6) (dd D125_ok 6 rfl) (by decide) ?_
  refine md_callI (as := [.int a, .int 6]) (rest := [.int (f_of M a 5)]) (dd D125_ok 7 rfl) pl9_168 rfl (Nat.le_of_ble_eq_true rfl) (ms118 xs) rfl (c_f_of hD b1 (md_vl (by decide))) rfl ?_
  refine md_iadd (dd D125_ok 8 rfl) ?_
  exact md_iret (dd D125_ok 9 rfl) rfl k2
theorem c_f_edges {xs : List Int32} {mo : Nat} {ad : Nat → Nat} {d : Nat} {M : md_S} {a : Int32} (hD : md_D mo ad) (hn : vp_in a 60) : ∀ Q', Q' (some (.int (f_edges M a))) M → md_C xs mo ad (d + 2) 125 [.int a] M Q' :=
  fun Q' hQ => md_intro (ms125 xs) (Nat.le_of_ble_eq_true rfl) (fun h0 => vc125_0 hD (by intros; assumption) (hQ))
/-- inner -/
def f_inner (M : md_S) (a : Int32) : Int32 := f_more 0 ((M.2 17 a.toNatClampNeg) - (2 * (f_edges M a)))
set_option maxHeartbeats 1000000 in
theorem vc128_0 {xs : List Int32} {mo : Nat} {ad : Nat → Nat} (hD : md_D mo ad) {h0 : am_H} {d : Nat} {Q : Option Value → md_S → Prop} {M : md_S} {a : Int32}
    (b1 : vp_in a 60)
    (k2 : Q (some (.int (f_more 0 ((M.2 17 a.toNatClampNeg) - (2 * (f_edges M a)))))) M) :
    md_wp xs mo ad h0 (d + 2) Q I128 0 [some (.ref mo), some (.int a)] [] M := by
  refine md_iconst (v := 0) (dd D128_ok 0 rfl) (by decide) ?_
  refine md_aload0 (dd D128_ok 1 rfl) rfl ?_
  refine md_getA (dd D128_ok 2 rfl) pl9_61 (by decide) rfl ?_
  refine md_iload_n (dd D128_ok 3 rfl) rfl ?_
  refine md_iald (f := 17) (dd D128_ok 4 rfl) rfl b1 ?_
  refine md_iconst (v := 2) (dd D128_ok 5 rfl) (by decide) ?_
  refine md_aload0 (dd D128_ok 6 rfl) rfl ?_
  refine md_iload_n (dd D128_ok 7 rfl) rfl ?_
  refine md_callI (as := [.int a]) (rest := [.int 2, .int (M.2 17 a.toNatClampNeg), .int 0]) (dd D128_ok 8 rfl) pl9_171 rfl (Nat.le_of_ble_eq_true rfl) (ms125 xs) rfl (c_f_edges hD b1) rfl ?_
  refine md_imul (dd D128_ok 9 rfl) ?_
  refine md_isub (dd D128_ok 10 rfl) ?_
  refine md_callS (as := [.int 0, .int ((M.2 17 a.toNatClampNeg) - (2 * (f_edges M a)))]) (rest := []) (dd D128_ok 11 rfl) pl9_175 rfl (Nat.le_of_ble_eq_true rfl) (c_f_more ) rfl ?_
  exact md_iret (dd D128_ok 12 rfl) rfl k2
theorem c_f_inner {xs : List Int32} {mo : Nat} {ad : Nat → Nat} {d : Nat} {M : md_S} {a : Int32} (hD : md_D mo ad) (hn : vp_in a 60) : ∀ Q', Q' (some (.int (f_inner M a))) M → md_C xs mo ad (d + 3) 128 [.int a] M Q' :=
  fun Q' hQ => md_intro (ms128 xs) (Nat.le_of_ble_eq_true rfl) (fun h0 => vc128_0 hD (by intros; assumption) (hQ))
/-- told -/
def f_told (M : md_S) (a b : Int32) : Int32 := if (f_of M a 2) < 1000 then (f_of M a 2) else ((b * ((f_of M a 2) - 1000)) / 100)
set_option maxHeartbeats 1000000 in
theorem vc129_0 {xs : List Int32} {mo : Nat} {ad : Nat → Nat} (hD : md_D mo ad) {h0 : am_H} {d : Nat} {Q : Option Value → md_S → Prop} {M : md_S} {a : Int32} {b : Int32}
    (b1 : vp_in a 60)
    (k2 : ((f_of M a 2) < 1000) → Q (some (.int (f_of M a 2))) M)
    (k3 : ¬ ((f_of M a 2) < 1000) → Q (some (.int ((b * ((f_of M a 2) - 1000)) / 100))) M) :
    md_wp xs mo ad h0 (d + 1) Q I129 0 [some (.ref mo), some (.int a), some (.int b), none] [] M := by
  refine md_aload0 (dd D129_ok 0 rfl) rfl ?_
  refine md_iload_n (dd D129_ok 1 rfl) rfl ?_
  refine md_iconst (v := 2) (dd D129_ok 2 rfl) (by decide) ?_
  refine md_callI (as := [.int a, .int 2]) (rest := []) (dd D129_ok 3 rfl) pl9_168 rfl (Nat.le_of_ble_eq_true rfl) (ms118 xs) rfl (c_f_of hD b1 (md_vl (by decide))) rfl ?_
  refine md_istore_n (dd D129_ok 4 rfl) (Nat.le_of_ble_eq_true rfl) ?_
  refine md_iload_n (dd D129_ok 5 rfl) rfl ?_
  refine md_sipush (v := 1000) (dd D129_ok 6 rfl) (by decide) ?_
  refine md_icmp_lt (tgt := 27) (dd D129_ok 7 rfl) (by decide) (fun c1 => ?_) (fun c1 => ?_)
  · refine md_iload_n (dd D129_ok 16 rfl) rfl ?_
    exact md_iret (dd D129_ok 17 rfl) rfl (k2 c1)
  · refine md_iload_n (dd D129_ok 8 rfl) rfl ?_
    refine md_iload_n (dd D129_ok 9 rfl) rfl ?_
    refine md_sipush (v := 1000) (dd D129_ok 10 rfl) (by decide) ?_
    refine md_isub (dd D129_ok 11 rfl) ?_
    refine md_imul (dd D129_ok 12 rfl) ?_
    refine md_bipush (v := 100) (dd D129_ok 13 rfl) (by decide) ?_
    refine md_idiv (dd D129_ok 14 rfl) (by decide) ?_
    refine md_goto (tgt := 28) (dd D129_ok 15 rfl) (by decide) ?_
    exact md_iret (dd D129_ok 17 rfl) rfl (k3 c1)
theorem c_f_told {xs : List Int32} {mo : Nat} {ad : Nat → Nat} {d : Nat} {M : md_S} {a b : Int32} (hD : md_D mo ad) (hn : vp_in a 60) : ∀ Q', Q' (some (.int (f_told M a b))) M → md_C xs mo ad (d + 2) 129 [.int a, .int b] M Q' :=
  fun Q' hQ => md_intro (ms129 xs) (Nat.le_of_ble_eq_true rfl) (fun h0 => vc129_0 hD (by intros; assumption) (fun q0 => by rw [f_told, if_pos q0] at hQ; exact hQ) (fun q0 => by rw [f_told, if_neg q0] at hQ; exact hQ))
/-- heightOf -/
def f_heightOf (M : md_S) (a b : Int32) : Int32 := if ¬ (f_of M a 3) = (-1) then (f_more (f_of M a 3) (2 * (f_edges M a))) else (b + (2 * (f_edges M a)))
set_option maxHeartbeats 1000000 in
theorem vc145_0 {xs : List Int32} {mo : Nat} {ad : Nat → Nat} (hD : md_D mo ad) {h0 : am_H} {d : Nat} {Q : Option Value → md_S → Prop} {M : md_S} {a : Int32} {b : Int32}
    (b1 : vp_in a 60)
    (k2 : ¬ (f_of M a 3) = (-1) → Q (some (.int (f_more (f_of M a 3) (2 * (f_edges M a))))) M)
    (k3 : ¬ (¬ (f_of M a 3) = (-1)) → Q (some (.int (b + (2 * (f_edges M a))))) M) :
    md_wp xs mo ad h0 (d + 2) Q I145 0 [some (.ref mo), some (.int a), some (.int b)] [] M := by
  refine md_aload0 (dd D145_ok 0 rfl) rfl ?_
  refine md_iload_n (dd D145_ok 1 rfl) rfl ?_
  refine md_iconst (v := 3) (dd D145_ok 2 rfl) (by decide) ?_
  refine md_callI (as := [.int a, .int 3]) (rest := []) (dd D145_ok 3 rfl) pl9_168 rfl (Nat.le_of_ble_eq_true rfl) (ms118 xs) rfl (c_f_of hD b1 (md_vl (by decide))) rfl ?_
  refine md_iconst (v := (-1)) (dd D145_ok 4 rfl) (by decide) ?_
  refine md_icmp_ne (tgt := 22) (dd D145_ok 5 rfl) (by decide) (fun c1 => ?_) (fun c1 => ?_)
  · refine md_aload0 (dd D145_ok 14 rfl) rfl ?_
    refine md_iload_n (dd D145_ok 15 rfl) rfl ?_
    refine md_iconst (v := 3) (dd D145_ok 16 rfl) (by decide) ?_
    refine md_callI (as := [.int a, .int 3]) (rest := []) (dd D145_ok 17 rfl) pl9_168 rfl (Nat.le_of_ble_eq_true rfl) (ms118 xs) rfl (c_f_of hD b1 (md_vl (by decide))) rfl ?_
    refine md_iconst (v := 2) (dd D145_ok 18 rfl) (by decide) ?_
    refine md_aload0 (dd D145_ok 19 rfl) rfl ?_
    refine md_iload_n (dd D145_ok 20 rfl) rfl ?_
    refine md_callI (as := [.int a]) (rest := [.int 2, .int (f_of M a 3)]) (dd D145_ok 21 rfl) pl9_171 rfl (Nat.le_of_ble_eq_true rfl) (ms125 xs) rfl (c_f_edges hD b1) rfl ?_
    refine md_imul (dd D145_ok 22 rfl) ?_
    refine md_callS (as := [.int (f_of M a 3), .int (2 * (f_edges M a))]) (rest := []) (dd D145_ok 23 rfl) pl9_175 rfl (Nat.le_of_ble_eq_true rfl) (c_f_more ) rfl ?_
    exact md_iret (dd D145_ok 24 rfl) rfl (k2 c1)
  · refine md_iload_n (dd D145_ok 6 rfl) rfl ?_
    refine md_iconst (v := 2) (dd D145_ok 7 rfl) (by decide) ?_
    refine md_aload0 (dd D145_ok 8 rfl) rfl ?_
    refine md_iload_n (dd D145_ok 9 rfl) rfl ?_
    refine md_callI (as := [.int a]) (rest := [.int 2, .int b]) (dd D145_ok 10 rfl) pl9_171 rfl (Nat.le_of_ble_eq_true rfl) (ms125 xs) rfl (c_f_edges hD b1) rfl ?_
    refine md_imul (dd D145_ok 11 rfl) ?_
    refine md_iadd (dd D145_ok 12 rfl) ?_
    refine md_goto (tgt := 38) (dd D145_ok 13 rfl) (by decide) ?_
    exact md_iret (dd D145_ok 24 rfl) rfl (k3 c1)
theorem c_f_heightOf {xs : List Int32} {mo : Nat} {ad : Nat → Nat} {d : Nat} {M : md_S} {a b : Int32} (hD : md_D mo ad) (hn : vp_in a 60) : ∀ Q', Q' (some (.int (f_heightOf M a b))) M → md_C xs mo ad (d + 3) 145 [.int a, .int b] M Q' :=
  fun Q' hQ => md_intro (ms145 xs) (Nat.le_of_ble_eq_true rfl) (fun h0 => vc145_0 hD (by intros; assumption) (fun q0 => by rw [f_heightOf, if_pos q0] at hQ; exact hQ) (fun q0 => by rw [f_heightOf, if_neg q0] at hQ; exact hQ))
/-- isBlock -/
def f_isBlock (M : md_S) (a : Int32) : Int32 := if ¬ (M.2 3 a.toNatClampNeg) = 0 then 0 else (if ¬ (f_of M a 1) = 0 then 0 else (if (f_of M a 0) = 0 then 1 else (if ¬ (f_of M a 0) = 2 then 0 else 1)))
set_option maxHeartbeats 1000000 in
theorem vc124_0 {xs : List Int32} {mo : Nat} {ad : Nat → Nat} (hD : md_D mo ad) {h0 : am_H} {d : Nat} {Q : Option Value → md_S → Prop} {M : md_S} {a : Int32}
    (b1 : vp_in a 60)
    (k2 : ¬ (M.2 3 a.toNatClampNeg) = 0 → Q (some (.int 0)) M)
    (k3 : ¬ (¬ (M.2 3 a.toNatClampNeg) = 0) → ¬ (f_of M a 1) = 0 → Q (some (.int 0)) M)
    (k4 : ¬ (¬ (M.2 3 a.toNatClampNeg) = 0) → ¬ (¬ (f_of M a 1) = 0) → ((f_of M a 0) = 0) → Q (some (.int 1)) M)
    (k5 : ¬ (¬ (M.2 3 a.toNatClampNeg) = 0) → ¬ (¬ (f_of M a 1) = 0) → ¬ ((f_of M a 0) = 0) → ¬ (f_of M a 0) = 2 → Q (some (.int 0)) M)
    (k6 : ¬ (¬ (M.2 3 a.toNatClampNeg) = 0) → ¬ (¬ (f_of M a 1) = 0) → ¬ ((f_of M a 0) = 0) → ¬ (¬ (f_of M a 0) = 2) → Q (some (.int 1)) M) :
    md_wp xs mo ad h0 (d + 1) Q I124 0 [some (.ref mo), some (.int a)] [] M := by
  refine md_aload0 (dd D124_ok 0 rfl) rfl ?_
  refine md_getA (dd D124_ok 1 rfl) pl9_17 (by decide) rfl ?_
  refine md_iload_n (dd D124_ok 2 rfl) rfl ?_
  refine md_iald (f := 3) (dd D124_ok 3 rfl) rfl b1 ?_
  refine md_if_ne (tgt := 41) (dd D124_ok 4 rfl) (by decide) (fun c1 => ?_) (fun c1 => ?_)
  · refine md_iconst (v := 0) (dd D124_ok 23 rfl) (by decide) ?_
    exact md_iret (dd D124_ok 24 rfl) rfl (k2 c1)
  · refine md_aload0 (dd D124_ok 5 rfl) rfl ?_
    refine md_iload_n (dd D124_ok 6 rfl) rfl ?_
    refine md_iconst (v := 1) (dd D124_ok 7 rfl) (by decide) ?_
    refine md_callI (as := [.int a, .int 1]) (rest := []) (dd D124_ok 8 rfl) pl9_168 rfl (Nat.le_of_ble_eq_true rfl) (ms118 xs) rfl (c_f_of hD b1 (md_vl (by decide))) rfl ?_
    refine md_if_ne (tgt := 41) (dd D124_ok 9 rfl) (by decide) (fun c2 => ?_) (fun c2 => ?_)
    · refine md_iconst (v := 0) (dd D124_ok 23 rfl) (by decide) ?_
      exact md_iret (dd D124_ok 24 rfl) rfl (k3 c1 c2)
    · refine md_aload0 (dd D124_ok 10 rfl) rfl ?_
      refine md_iload_n (dd D124_ok 11 rfl) rfl ?_
      refine md_iconst (v := 0) (dd D124_ok 12 rfl) (by decide) ?_
      refine md_callI (as := [.int a, .int 0]) (rest := []) (dd D124_ok 13 rfl) pl9_168 rfl (Nat.le_of_ble_eq_true rfl) (ms118 xs) rfl (c_f_of hD b1 (md_vl (by decide))) rfl ?_
      refine md_if_eq (tgt := 37) (dd D124_ok 14 rfl) (by decide) (fun c3 => ?_) (fun c3 => ?_)
      · refine md_iconst (v := 1) (dd D124_ok 21 rfl) (by decide) ?_
        refine md_goto (tgt := 42) (dd D124_ok 22 rfl) (by decide) ?_
        exact md_iret (dd D124_ok 24 rfl) rfl (k4 c1 c2 c3)
      · refine md_aload0 (dd D124_ok 15 rfl) rfl ?_
        refine md_iload_n (dd D124_ok 16 rfl) rfl ?_
        refine md_iconst (v := 0) (dd D124_ok 17 rfl) (by decide) ?_
        refine md_callI (as := [.int a, .int 0]) (rest := []) (dd D124_ok 18 rfl) pl9_168 rfl (Nat.le_of_ble_eq_true rfl) (ms118 xs) rfl (c_f_of hD b1 (md_vl (by decide))) rfl ?_
        refine md_iconst (v := 2) (dd D124_ok 19 rfl) (by decide) ?_
        refine md_icmp_ne (tgt := 41) (dd D124_ok 20 rfl) (by decide) (fun c4 => ?_) (fun c4 => ?_)
        · refine md_iconst (v := 0) (dd D124_ok 23 rfl) (by decide) ?_
          exact md_iret (dd D124_ok 24 rfl) rfl (k5 c1 c2 c3 c4)
        · refine md_iconst (v := 1) (dd D124_ok 21 rfl) (by decide) ?_
          refine md_goto (tgt := 42) (dd D124_ok 22 rfl) (by decide) ?_
          exact md_iret (dd D124_ok 24 rfl) rfl (k6 c1 c2 c3 c4)
theorem c_f_isBlock {xs : List Int32} {mo : Nat} {ad : Nat → Nat} {d : Nat} {M : md_S} {a : Int32} (hD : md_D mo ad) (hn : vp_in a 60) : ∀ Q', Q' (some (.int (f_isBlock M a))) M → md_C xs mo ad (d + 2) 124 [.int a] M Q' :=
  fun Q' hQ => md_intro (ms124 xs) (Nat.le_of_ble_eq_true rfl) (fun h0 => vc124_0 hD (by intros; assumption) (fun q0 => by rw [f_isBlock, if_pos q0] at hQ; exact hQ) (fun q0 q1 => by rw [f_isBlock, if_neg q0, if_pos q1] at hQ; exact hQ) (fun q0 q1 q2 => by rw [f_isBlock, if_neg q0, if_neg q1, if_pos q2] at hQ; exact hQ) (fun q0 q1 q2 q3 => by rw [f_isBlock, if_neg q0, if_neg q1, if_neg q2, if_pos q3] at hQ; exact hQ) (fun q0 q1 q2 q3 => by rw [f_isBlock, if_neg q0, if_neg q1, if_neg q2, if_neg q3] at hQ; exact hQ))
/-- isFloatAt -/
def f_isFloatAt (M : md_S) (a b : Int32) : Int32 := if b < (M.2 49 a.toNatClampNeg) then 0 else (if (M.2 50 a.toNatClampNeg) ≤ b then 0 else 1)
set_option maxHeartbeats 1000000 in
theorem vc139_0 {xs : List Int32} {mo : Nat} {ad : Nat → Nat} (hD : md_D mo ad) {h0 : am_H} {d : Nat} {Q : Option Value → md_S → Prop} {M : md_S} {a : Int32} {b : Int32}
    (b1 : vp_in a 60)
    (k2 : (b < (M.2 49 a.toNatClampNeg)) → Q (some (.int 0)) M)
    (k3 : ¬ (b < (M.2 49 a.toNatClampNeg)) → ((M.2 50 a.toNatClampNeg) ≤ b) → Q (some (.int 0)) M)
    (k4 : ¬ (b < (M.2 49 a.toNatClampNeg)) → ¬ ((M.2 50 a.toNatClampNeg) ≤ b) → Q (some (.int 1)) M) :
    md_wp xs mo ad h0 d Q I139 0 [some (.ref mo), some (.int a), some (.int b)] [] M := by
  refine md_aload0 (dd D139_ok 0 rfl) rfl ?_
  refine md_getA (dd D139_ok 1 rfl) pl9_127 (by decide) rfl ?_
  refine md_iload_n (dd D139_ok 2 rfl) rfl ?_
  refine md_iald (f := 49) (dd D139_ok 3 rfl) rfl b1 ?_
  refine md_iload_n (dd D139_ok 4 rfl) rfl ?_
  refine md_icmp_gt (tgt := 24) (dd D139_ok 5 rfl) (by decide) (fun c1 => ?_) (fun c1 => ?_)
  · refine md_iconst (v := 0) (dd D139_ok 14 rfl) (by decide) ?_
    exact md_iret (dd D139_ok 15 rfl) rfl (k2 c1)
  · refine md_iload_n (dd D139_ok 6 rfl) rfl ?_
    refine md_aload0 (dd D139_ok 7 rfl) rfl ?_
    refine md_getA (dd D139_ok 8 rfl) pl9_130 (by decide) rfl ?_
    refine md_iload_n (dd D139_ok 9 rfl) rfl ?_
    refine md_iald (f := 50) (dd D139_ok 10 rfl) rfl b1 ?_
    refine md_icmp_ge (tgt := 24) (dd D139_ok 11 rfl) (by decide) (fun c2 => ?_) (fun c2 => ?_)
    · refine md_iconst (v := 0) (dd D139_ok 14 rfl) (by decide) ?_
      exact md_iret (dd D139_ok 15 rfl) rfl (k3 c1 c2)
    · refine md_iconst (v := 1) (dd D139_ok 12 rfl) (by decide) ?_
      refine md_goto (tgt := 25) (dd D139_ok 13 rfl) (by decide) ?_
      exact md_iret (dd D139_ok 15 rfl) rfl (k4 c1 c2)
theorem c_f_isFloatAt {xs : List Int32} {mo : Nat} {ad : Nat → Nat} {d : Nat} {M : md_S} {a b : Int32} (hD : md_D mo ad) (hn : vp_in a 60) : ∀ Q', Q' (some (.int (f_isFloatAt M a b))) M → md_C xs mo ad (d + 1) 139 [.int a, .int b] M Q' :=
  fun Q' hQ => md_intro (ms139 xs) (Nat.le_of_ble_eq_true rfl) (fun h0 => vc139_0 hD (by intros; assumption) (fun q0 => by rw [f_isFloatAt, if_pos q0] at hQ; exact hQ) (fun q0 q1 => by rw [f_isFloatAt, if_neg q0, if_pos q1] at hQ; exact hQ) (fun q0 q1 => by rw [f_isFloatAt, if_neg q0, if_neg q1] at hQ; exact hQ))
