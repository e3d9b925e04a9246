set_option maxHeartbeats 1000000 in
theorem vc126_0 {xs : List Int32} {d : Nat} {Q : Option Value → am_H → Prop} {h : am_H} {a : Int32} {b : Int32}
    (k1 : (a ≤ b) → Q (some (.int b)) h)
    (k2 : ¬ (a ≤ b) → Q (some (.int a)) h) :
    am_wp (am_Bx xs) am_nm (am_T (am_Bx xs) am_nm d) Q I126 (0, [some (.int a), some (.int b)], [], h) := by
  refine ax_iload_n (dd D126_ok 0 rfl) rfl ?_
  refine ax_iload_n (dd D126_ok 1 rfl) rfl ?_
  refine ax_icmp_le (tgt := 9) (dd D126_ok 2 rfl) (by decide) (fun c1 => ?_) (fun c1 => ?_)
  · refine ax_iload_n (dd D126_ok 5 rfl) rfl ?_
    exact ax_iret (dd D126_ok 6 rfl) rfl (k1 c1)
  · refine ax_iload_n (dd D126_ok 3 rfl) rfl ?_
    refine ax_goto (tgt := 10) (dd D126_ok 4 rfl) (by decide) ?_
    exact ax_iret (dd D126_ok 6 rfl) rfl (k2 c1)
set_option maxHeartbeats 1000000 in
theorem vc133_0 {xs : List Int32} {d : Nat} {Q : Option Value → am_H → Prop} {h : am_H} {a : Int32} {b : Int32}
    (k1 : (b ≤ a) → Q (some (.int b)) h)
    (k2 : ¬ (b ≤ a) → Q (some (.int a)) h) :
    am_wp (am_Bx xs) am_nm (am_T (am_Bx xs) am_nm d) Q I133 (0, [some (.int a), some (.int b)], [], h) := by
  refine ax_iload_n (dd D133_ok 0 rfl) rfl ?_
  refine ax_iload_n (dd D133_ok 1 rfl) rfl ?_
  refine ax_icmp_ge (tgt := 9) (dd D133_ok 2 rfl) (by decide) (fun c1 => ?_) (fun c1 => ?_)
  · refine ax_iload_n (dd D133_ok 5 rfl) rfl ?_
    exact ax_iret (dd D133_ok 6 rfl) rfl (k1 c1)
  · refine ax_iload_n (dd D133_ok 3 rfl) rfl ?_
    refine ax_goto (tgt := 10) (dd D133_ok 4 rfl) (by decide) ?_
    exact ax_iret (dd D133_ok 6 rfl) rfl (k2 c1)
set_option maxHeartbeats 1000000 in
theorem vc131_0 {xs : List Int32} {d : Nat} {Q : Option Value → am_H → Prop} {h : am_H} {a : Int32}
    (k1 : (a = 10) → Q (some (.int 1)) h)
    (k2 : ¬ (a = 10) → ¬ a = 32 → Q (some (.int 0)) h)
    (k3 : ¬ (a = 10) → ¬ (¬ a = 32) → Q (some (.int 1)) h) :
    am_wp (am_Bx xs) am_nm (am_T (am_Bx xs) am_nm d) Q I131 (0, [some (.int a)], [], h) := by
  refine ax_iload_n (dd D131_ok 0 rfl) rfl ?_
  refine ax_bipush (v := 10) (dd D131_ok 1 rfl) (by decide) ?_
  refine ax_icmp_eq (tgt := 12) (dd D131_ok 2 rfl) (by decide) (fun c1 => ?_) (fun c1 => ?_)
  · refine ax_iconst (v := 1) (dd D131_ok 6 rfl) (by decide) ?_
    refine ax_goto (tgt := 17) (dd D131_ok 7 rfl) (by decide) ?_
    exact ax_iret (dd D131_ok 9 rfl) rfl (k1 c1)
  · refine ax_iload_n (dd D131_ok 3 rfl) rfl ?_
    refine ax_bipush (v := 32) (dd D131_ok 4 rfl) (by decide) ?_
    refine ax_icmp_ne (tgt := 16) (dd D131_ok 5 rfl) (by decide) (fun c2 => ?_) (fun c2 => ?_)
    · refine ax_iconst (v := 0) (dd D131_ok 8 rfl) (by decide) ?_
      exact ax_iret (dd D131_ok 9 rfl) rfl (k2 c1 c2)
    · refine ax_iconst (v := 1) (dd D131_ok 6 rfl) (by decide) ?_
      refine ax_goto (tgt := 17) (dd D131_ok 7 rfl) (by decide) ?_
      exact ax_iret (dd D131_ok 9 rfl) rfl (k3 c1 c2)
set_option maxHeartbeats 1000000 in
theorem vc132_0 {xs : List Int32} {d : Nat} {Q : Option Value → am_H → Prop} {h : am_H} {a : Int32}
    (k1 : (a = 105) → Q (some (.int 2)) h)
    (k2 : ¬ (a = 105) → (a = 108) → Q (some (.int 2)) h)
    (k3 : ¬ (a = 105) → ¬ (a = 108) → (a = 106) → Q (some (.int 2)) h)
    (k4 : ¬ (a = 105) → ¬ (a = 108) → ¬ (a = 106) → (a = 46) → Q (some (.int 2)) h)
    (k5 : ¬ (a = 105) → ¬ (a = 108) → ¬ (a = 106) → ¬ (a = 46) → (a = 44) → Q (some (.int 2)) h)
    (k6 : ¬ (a = 105) → ¬ (a = 108) → ¬ (a = 106) → ¬ (a = 46) → ¬ (a = 44) → (a = 39) → Q (some (.int 2)) h)
    (k7 : ¬ (a = 105) → ¬ (a = 108) → ¬ (a = 106) → ¬ (a = 46) → ¬ (a = 44) → ¬ (a = 39) → (a = 58) → Q (some (.int 2)) h)
    (k8 : ¬ (a = 105) → ¬ (a = 108) → ¬ (a = 106) → ¬ (a = 46) → ¬ (a = 44) → ¬ (a = 39) → ¬ (a = 58) → (a = 59) → Q (some (.int 2)) h)
    (k9 : ¬ (a = 105) → ¬ (a = 108) → ¬ (a = 106) → ¬ (a = 46) → ¬ (a = 44) → ¬ (a = 39) → ¬ (a = 58) → ¬ (a = 59) → (a = 33) → Q (some (.int 2)) h)
    (k10 : ¬ (a = 105) → ¬ (a = 108) → ¬ (a = 106) → ¬ (a = 46) → ¬ (a = 44) → ¬ (a = 39) → ¬ (a = 58) → ¬ (a = 59) → ¬ (a = 33) → ¬ a = 124 → (a = 109) → Q (some (.int 5)) h)
    (k11 : ¬ (a = 105) → ¬ (a = 108) → ¬ (a = 106) → ¬ (a = 46) → ¬ (a = 44) → ¬ (a = 39) → ¬ (a = 58) → ¬ (a = 59) → ¬ (a = 33) → ¬ a = 124 → ¬ (a = 109) → (a = 119) → Q (some (.int 5)) h)
    (k12 : ¬ (a = 105) → ¬ (a = 108) → ¬ (a = 106) → ¬ (a = 46) → ¬ (a = 44) → ¬ (a = 39) → ¬ (a = 58) → ¬ (a = 59) → ¬ (a = 33) → ¬ a = 124 → ¬ (a = 109) → ¬ (a = 119) → (a = 77) → Q (some (.int 5)) h)
    (k13 : ¬ (a = 105) → ¬ (a = 108) → ¬ (a = 106) → ¬ (a = 46) → ¬ (a = 44) → ¬ (a = 39) → ¬ (a = 58) → ¬ (a = 59) → ¬ (a = 33) → ¬ a = 124 → ¬ (a = 109) → ¬ (a = 119) → ¬ (a = 77) → (a = 87) → Q (some (.int 5)) h)
    (k14 : ¬ (a = 105) → ¬ (a = 108) → ¬ (a = 106) → ¬ (a = 46) → ¬ (a = 44) → ¬ (a = 39) → ¬ (a = 58) → ¬ (a = 59) → ¬ (a = 33) → ¬ a = 124 → ¬ (a = 109) → ¬ (a = 119) → ¬ (a = 77) → ¬ (a = 87) → ¬ a = 64 → Q (some (.int 4)) h)
    (k15 : ¬ (a = 105) → ¬ (a = 108) → ¬ (a = 106) → ¬ (a = 46) → ¬ (a = 44) → ¬ (a = 39) → ¬ (a = 58) → ¬ (a = 59) → ¬ (a = 33) → ¬ a = 124 → ¬ (a = 109) → ¬ (a = 119) → ¬ (a = 77) → ¬ (a = 87) → ¬ (¬ a = 64) → Q (some (.int 5)) h)
    (k16 : ¬ (a = 105) → ¬ (a = 108) → ¬ (a = 106) → ¬ (a = 46) → ¬ (a = 44) → ¬ (a = 39) → ¬ (a = 58) → ¬ (a = 59) → ¬ (a = 33) → ¬ (¬ a = 124) → Q (some (.int 2)) h) :
    am_wp (am_Bx xs) am_nm (am_T (am_Bx xs) am_nm d) Q I132 (0, [some (.int a)], [], h) := by
  refine ax_iload_n (dd D132_ok 0 rfl) rfl ?_
  refine ax_bipush (v := 105) (dd D132_ok 1 rfl) (by decide) ?_
  refine ax_icmp_eq (tgt := 60) (dd D132_ok 2 rfl) (by decide) (fun c1 => ?_) (fun c1 => ?_)
  · refine ax_iconst (v := 2) (dd D132_ok 30 rfl) (by decide) ?_
    exact ax_iret (dd D132_ok 31 rfl) rfl (k1 c1)
  · refine ax_iload_n (dd D132_ok 3 rfl) rfl ?_
    refine ax_bipush (v := 108) (dd D132_ok 4 rfl) (by decide) ?_
    refine ax_icmp_eq (tgt := 60) (dd D132_ok 5 rfl) (by decide) (fun c2 => ?_) (fun c2 => ?_)
    · refine ax_iconst (v := 2) (dd D132_ok 30 rfl) (by decide) ?_
      exact ax_iret (dd D132_ok 31 rfl) rfl (k2 c1 c2)
    · refine ax_iload_n (dd D132_ok 6 rfl) rfl ?_
      refine ax_bipush (v := 106) (dd D132_ok 7 rfl) (by decide) ?_
      refine ax_icmp_eq (tgt := 60) (dd D132_ok 8 rfl) (by decide) (fun c3 => ?_) (fun c3 => ?_)
      · refine ax_iconst (v := 2) (dd D132_ok 30 rfl) (by decide) ?_
        exact ax_iret (dd D132_ok 31 rfl) rfl (k3 c1 c2 c3)
      · refine ax_iload_n (dd D132_ok 9 rfl) rfl ?_
        refine ax_bipush (v := 46) (dd D132_ok 10 rfl) (by decide) ?_
        refine ax_icmp_eq (tgt := 60) (dd D132_ok 11 rfl) (by decide) (fun c4 => ?_) (fun c4 => ?_)
        · refine ax_iconst (v := 2) (dd D132_ok 30 rfl) (by decide) ?_
          exact ax_iret (dd D132_ok 31 rfl) rfl (k4 c1 c2 c3 c4)
        · refine ax_iload_n (dd D132_ok 12 rfl) rfl ?_
          refine ax_bipush (v := 44) (dd D132_ok 13 rfl) (by decide) ?_
          refine ax_icmp_eq (tgt := 60) (dd D132_ok 14 rfl) (by decide) (fun c5 => ?_) (fun c5 => ?_)
          · refine ax_iconst (v := 2) (dd D132_ok 30 rfl) (by decide) ?_
            exact ax_iret (dd D132_ok 31 rfl) rfl (k5 c1 c2 c3 c4 c5)
          · refine ax_iload_n (dd D132_ok 15 rfl) rfl ?_
            refine ax_bipush (v := 39) (dd D132_ok 16 rfl) (by decide) ?_
            refine ax_icmp_eq (tgt := 60) (dd D132_ok 17 rfl) (by decide) (fun c6 => ?_) (fun c6 => ?_)
            · refine ax_iconst (v := 2) (dd D132_ok 30 rfl) (by decide) ?_
              exact ax_iret (dd D132_ok 31 rfl) rfl (k6 c1 c2 c3 c4 c5 c6)
            · refine ax_iload_n (dd D132_ok 18 rfl) rfl ?_
              refine ax_bipush (v := 58) (dd D132_ok 19 rfl) (by decide) ?_
              refine ax_icmp_eq (tgt := 60) (dd D132_ok 20 rfl) (by decide) (fun c7 => ?_) (fun c7 => ?_)
              · refine ax_iconst (v := 2) (dd D132_ok 30 rfl) (by decide) ?_
                exact ax_iret (dd D132_ok 31 rfl) rfl (k7 c1 c2 c3 c4 c5 c6 c7)
              · refine ax_iload_n (dd D132_ok 21 rfl) rfl ?_
                refine ax_bipush (v := 59) (dd D132_ok 22 rfl) (by decide) ?_
                refine ax_icmp_eq (tgt := 60) (dd D132_ok 23 rfl) (by decide) (fun c8 => ?_) (fun c8 => ?_)
                · refine ax_iconst (v := 2) (dd D132_ok 30 rfl) (by decide) ?_
                  exact ax_iret (dd D132_ok 31 rfl) rfl (k8 c1 c2 c3 c4 c5 c6 c7 c8)
                · refine ax_iload_n (dd D132_ok 24 rfl) rfl ?_
                  refine ax_bipush (v := 33) (dd D132_ok 25 rfl) (by decide) ?_
                  refine ax_icmp_eq (tgt := 60) (dd D132_ok 26 rfl) (by decide) (fun c9 => ?_) (fun c9 => ?_)
                  · refine ax_iconst (v := 2) (dd D132_ok 30 rfl) (by decide) ?_
                    exact ax_iret (dd D132_ok 31 rfl) rfl (k9 c1 c2 c3 c4 c5 c6 c7 c8 c9)
                  · refine ax_iload_n (dd D132_ok 27 rfl) rfl ?_
                    refine ax_bipush (v := 124) (dd D132_ok 28 rfl) (by decide) ?_
                    refine ax_icmp_ne (tgt := 62) (dd D132_ok 29 rfl) (by decide) (fun c10 => ?_) (fun c10 => ?_)
                    · refine ax_iload_n (dd D132_ok 32 rfl) rfl ?_
                      refine ax_bipush (v := 109) (dd D132_ok 33 rfl) (by decide) ?_
                      refine ax_icmp_eq (tgt := 92) (dd D132_ok 34 rfl) (by decide) (fun c11 => ?_) (fun c11 => ?_)
                      · refine ax_iconst (v := 5) (dd D132_ok 47 rfl) (by decide) ?_
                        refine ax_goto (tgt := 97) (dd D132_ok 48 rfl) (by decide) ?_
                        exact ax_iret (dd D132_ok 50 rfl) rfl (k10 c1 c2 c3 c4 c5 c6 c7 c8 c9 c10 c11)
                      · refine ax_iload_n (dd D132_ok 35 rfl) rfl ?_
                        refine ax_bipush (v := 119) (dd D132_ok 36 rfl) (by decide) ?_
                        refine ax_icmp_eq (tgt := 92) (dd D132_ok 37 rfl) (by decide) (fun c12 => ?_) (fun c12 => ?_)
                        · refine ax_iconst (v := 5) (dd D132_ok 47 rfl) (by decide) ?_
                          refine ax_goto (tgt := 97) (dd D132_ok 48 rfl) (by decide) ?_
                          exact ax_iret (dd D132_ok 50 rfl) rfl (k11 c1 c2 c3 c4 c5 c6 c7 c8 c9 c10 c11 c12)
                        · refine ax_iload_n (dd D132_ok 38 rfl) rfl ?_
                          refine ax_bipush (v := 77) (dd D132_ok 39 rfl) (by decide) ?_
                          refine ax_icmp_eq (tgt := 92) (dd D132_ok 40 rfl) (by decide) (fun c13 => ?_) (fun c13 => ?_)
                          · refine ax_iconst (v := 5) (dd D132_ok 47 rfl) (by decide) ?_
                            refine ax_goto (tgt := 97) (dd D132_ok 48 rfl) (by decide) ?_
                            exact ax_iret (dd D132_ok 50 rfl) rfl (k12 c1 c2 c3 c4 c5 c6 c7 c8 c9 c10 c11 c12 c13)
                          · refine ax_iload_n (dd D132_ok 41 rfl) rfl ?_
                            refine ax_bipush (v := 87) (dd D132_ok 42 rfl) (by decide) ?_
                            refine ax_icmp_eq (tgt := 92) (dd D132_ok 43 rfl) (by decide) (fun c14 => ?_) (fun c14 => ?_)
                            · refine ax_iconst (v := 5) (dd D132_ok 47 rfl) (by decide) ?_
                              refine ax_goto (tgt := 97) (dd D132_ok 48 rfl) (by decide) ?_
                              exact ax_iret (dd D132_ok 50 rfl) rfl (k13 c1 c2 c3 c4 c5 c6 c7 c8 c9 c10 c11 c12 c13 c14)
                            · refine ax_iload_n (dd D132_ok 44 rfl) rfl ?_
                              refine ax_bipush (v := 64) (dd D132_ok 45 rfl) (by decide) ?_
                              refine ax_icmp_ne (tgt := 96) (dd D132_ok 46 rfl) (by decide) (fun c15 => ?_) (fun c15 => ?_)
                              · refine ax_iconst (v := 4) (dd D132_ok 49 rfl) (by decide) ?_
                                exact ax_iret (dd D132_ok 50 rfl) rfl (k14 c1 c2 c3 c4 c5 c6 c7 c8 c9 c10 c11 c12 c13 c14 c15)
                              · refine ax_iconst (v := 5) (dd D132_ok 47 rfl) (by decide) ?_
                                refine ax_goto (tgt := 97) (dd D132_ok 48 rfl) (by decide) ?_
                                exact ax_iret (dd D132_ok 50 rfl) rfl (k15 c1 c2 c3 c4 c5 c6 c7 c8 c9 c10 c11 c12 c13 c14 c15)
                    · refine ax_iconst (v := 2) (dd D132_ok 30 rfl) (by decide) ?_
                      exact ax_iret (dd D132_ok 31 rfl) rfl (k16 c1 c2 c3 c4 c5 c6 c7 c8 c9 c10)
set_option maxHeartbeats 1000000 in
theorem vc111_0 {xs : List Int32} {mo : Nat} {ad : Nat → Nat} (hD : md_D mo ad) {h0 : am_H} {d : Nat} {Q : Option Value → md_S → Prop} {M : md_S} {a : Int32}
    (k1 : (a < 0) → Q (some (.int 0)) M)
    (k2 : ¬ (a < 0) → ((M.1 2) ≤ a) → Q (some (.int 0)) M)
    (k3 : ¬ (a < 0) → ¬ ((M.1 2) ≤ a) → Q (some (.int 1)) M) :
    md_wp xs mo ad h0 d Q I111 0 [some (.ref mo), some (.int a)] [] M := by
  refine md_iload_n (dd D111_ok 0 rfl) rfl ?_
  refine md_if_lt (tgt := 16) (dd D111_ok 1 rfl) (by decide) (fun c1 => ?_) (fun c1 => ?_)
  · refine md_iconst (v := 0) (dd D111_ok 8 rfl) (by decide) ?_
    exact md_iret (dd D111_ok 9 rfl) rfl (k1 c1)
  · refine md_iload_n (dd D111_ok 2 rfl) rfl ?_
    refine md_aload0 (dd D111_ok 3 rfl) rfl ?_
    refine md_getI (dd D111_ok 4 rfl) pl9_13 (by decide) rfl ?_
    refine md_icmp_ge (tgt := 16) (dd D111_ok 5 rfl) (by decide) (fun c2 => ?_) (fun c2 => ?_)
    · refine md_iconst (v := 0) (dd D111_ok 8 rfl) (by decide) ?_
      exact md_iret (dd D111_ok 9 rfl) rfl (k2 c1 c2)
    · refine md_iconst (v := 1) (dd D111_ok 6 rfl) (by decide) ?_
      refine md_goto (tgt := 17) (dd D111_ok 7 rfl) (by decide) ?_
      exact md_iret (dd D111_ok 9 rfl) rfl (k3 c1 c2)
set_option maxHeartbeats 1000000 in
theorem vc118_0 {xs : List Int32} {mo : Nat} {ad : Nat → Nat} (hD : md_D mo ad) {h0 : am_H} {d : Nat} {Q : Option Value → md_S → Prop} {M : md_S} {a : Int32} {b : Int32}
    (b1 : vp_in ((9 * a) + b) 540)
    (k2 : Q (some (.int (M.2 9 ((9 * a) + b).toNatClampNeg))) M) :
    md_wp xs mo ad h0 d Q I118 0 [some (.ref mo), some (.int a), some (.int b)] [] M := by
  refine md_aload0 (dd D118_ok 0 rfl) rfl ?_
  refine md_getA (dd D118_ok 1 rfl) pl9_36 (by decide) rfl ?_
  refine md_bipush (v := 9) (dd D118_ok 2 rfl) (by decide) ?_
  refine md_iload_n (dd D118_ok 3 rfl) rfl ?_
  refine md_imul (dd D118_ok 4 rfl) ?_
  refine md_iload_n (dd D118_ok 5 rfl) rfl ?_
  refine md_iadd (dd D118_ok 6 rfl) ?_
  refine md_iald (f := 9) (dd D118_ok 7 rfl) rfl b1 ?_
  exact md_iret (dd D118_ok 8 rfl) rfl k2
set_option maxHeartbeats 1000000 in
theorem vc117_0 {xs : List Int32} {mo : Nat} {ad : Nat → Nat} (hD : md_D mo ad) {h0 : am_H} {d : Nat} {Q : Option Value → md_S → Prop} {M : md_S} {a : Int32}
    (b1 : vp_in a 60)
    (k2 : ((M.2 12 a.toNatClampNeg) = 1) → Q (some (.int 1)) M)
    (b3 : ¬ ((M.2 12 a.toNatClampNeg) = 1) → vp_in a 60)
    (k4 : ¬ ((M.2 12 a.toNatClampNeg) = 1) → ¬ (M.2 12 a.toNatClampNeg) = 2 → Q (some (.int 0)) M)
    (k5 : ¬ ((M.2 12 a.toNatClampNeg) = 1) → ¬ (¬ (M.2 12 a.toNatClampNeg) = 2) → Q (some (.int 1)) M) :
    md_wp xs mo ad h0 d Q I117 0 [some (.ref mo), some (.int a)] [] M := by
  refine md_aload0 (dd D117_ok 0 rfl) rfl ?_
  refine md_getA (dd D117_ok 1 rfl) pl9_45 (by decide) rfl ?_
  refine md_iload_n (dd D117_ok 2 rfl) rfl ?_
  refine md_iald (f := 12) (dd D117_ok 3 rfl) rfl b1 ?_
  refine md_iconst (v := 1) (dd D117_ok 4 rfl) (by decide) ?_
  refine md_icmp_eq (tgt := 20) (dd D117_ok 5 rfl) (by decide) (fun c1 => ?_) (fun c1 => ?_)
  · refine md_iconst (v := 1) (dd D117_ok 12 rfl) (by decide) ?_
    refine md_goto (tgt := 25) (dd D117_ok 13 rfl) (by decide) ?_
    exact md_iret (dd D117_ok 15 rfl) rfl (k2 c1)
  · refine md_aload0 (dd D117_ok 6 rfl) rfl ?_
    refine md_getA (dd D117_ok 7 rfl) pl9_45 (by decide) rfl ?_
    refine md_iload_n (dd D117_ok 8 rfl) rfl ?_
    refine md_iald (f := 12) (dd D117_ok 9 rfl) rfl (b3 c1) ?_
    refine md_iconst (v := 2) (dd D117_ok 10 rfl) (by decide) ?_
    refine md_icmp_ne (tgt := 24) (dd D117_ok 11 rfl) (by decide) (fun c2 => ?_) (fun c2 => ?_)
    · refine md_iconst (v := 0) (dd D117_ok 14 rfl) (by decide) ?_
      exact md_iret (dd D117_ok 15 rfl) rfl (k4 c1 c2)
    · refine md_iconst (v := 1) (dd D117_ok 12 rfl) (by decide) ?_
      refine md_goto (tgt := 25) (dd D117_ok 13 rfl) (by decide) ?_
      exact md_iret (dd D117_ok 15 rfl) rfl (k5 c1 c2)
