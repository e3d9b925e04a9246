/-! the reference's methods, on (by program: wip/whole/gen/m3.py) -/
/-- joins -/
def f_joins (M : md_S) (a : Int32) : Int32 := if a ≤ 0 then 0 else (if (f_isBlock M a) = 0 then 0 else (if ¬ (f_of M a 0) = 0 then 0 else (if ¬ (f_edges M a) = 0 then 0 else (if ¬ (f_of M (M.2 4 a.toNatClampNeg) 0) = 0 then 0 else 1))))
set_option maxHeartbeats 1000000 in
theorem vc123_0 {xs : List Int32} {mo : Nat} {ad : Nat → Nat} (hD : md_D mo ad) {h0 : am_H} {d : Nat} {Q : Option Value → md_S → Prop} {M : md_S} {a : Int32}
    (k1 : (a ≤ 0) → Q (some (.int 0)) M)
    (b2 : ¬ (a ≤ 0) → vp_in a 60)
    (k3 : ¬ (a ≤ 0) → ((f_isBlock M a) = 0) → Q (some (.int 0)) M)
    (k4 : ¬ (a ≤ 0) → ¬ ((f_isBlock M a) = 0) → ¬ (f_of M a 0) = 0 → Q (some (.int 0)) M)
    (k5 : ¬ (a ≤ 0) → ¬ ((f_isBlock M a) = 0) → ¬ (¬ (f_of M a 0) = 0) → ¬ (f_edges M a) = 0 → Q (some (.int 0)) M)
    (b6 : ¬ (a ≤ 0) → ¬ ((f_isBlock M a) = 0) → ¬ (¬ (f_of M a 0) = 0) → ¬ (¬ (f_edges M a) = 0) → vp_in (M.2 4 a.toNatClampNeg) 60)
    (k7 : ¬ (a ≤ 0) → ¬ ((f_isBlock M a) = 0) → ¬ (¬ (f_of M a 0) = 0) → ¬ (¬ (f_edges M a) = 0) → ¬ (f_of M (M.2 4 a.toNatClampNeg) 0) = 0 → Q (some (.int 0)) M)
    (k8 : ¬ (a ≤ 0) → ¬ ((f_isBlock M a) = 0) → ¬ (¬ (f_of M a 0) = 0) → ¬ (¬ (f_edges M a) = 0) → ¬ (¬ (f_of M (M.2 4 a.toNatClampNeg) 0) = 0) → Q (some (.int 1)) M) :
    md_wp xs mo ad h0 (d + 3) Q I123 0 [some (.ref mo), some (.int a)] [] M := by
  refine md_iload_n (dd D123_ok 0 rfl) rfl ?_
  refine md_if_le (tgt := 47) (dd D123_ok 1 rfl) (by decide) (fun c1 => ?_) (fun c1 => ?_)
  · refine md_iconst (v := 0) (dd D123_ok 25 rfl) (by decide) ?_
    exact md_iret (dd D123_ok 26 rfl) rfl (k1 c1)
  · refine md_aload0 (dd D123_ok 2 rfl) rfl ?_
    refine md_iload_n (dd D123_ok 3 rfl) rfl ?_
    refine md_callI (as := [.int a]) (rest := []) (dd D123_ok 4 rfl) pl9_196 rfl (Nat.le_of_ble_eq_true rfl) (ms124 xs) rfl (c_f_isBlock hD (b2 c1)) rfl ?_
    refine md_if_eq (tgt := 47) (dd D123_ok 5 rfl) (by decide) (fun c2 => ?_) (fun c2 => ?_)
    · refine md_iconst (v := 0) (dd D123_ok 25 rfl) (by decide) ?_
      exact md_iret (dd D123_ok 26 rfl) rfl (k3 c1 c2)
    · refine md_aload0 (dd D123_ok 6 rfl) rfl ?_
      refine md_iload_n (dd D123_ok 7 rfl) rfl ?_
      refine md_iconst (v := 0) (dd D123_ok 8 rfl) (by decide) ?_
      refine md_callI (as := [.int a, .int 0]) (rest := []) (dd D123_ok 9 rfl) pl9_168 rfl (Nat.le_of_ble_eq_true rfl) (ms118 xs) rfl (c_f_of hD (b2 c1) (md_vl (by decide))) rfl ?_
      refine md_if_ne (tgt := 47) (dd D123_ok 10 rfl) (by decide) (fun c3 => ?_) (fun c3 => ?_)
      · refine md_iconst (v := 0) (dd D123_ok 25 rfl) (by decide) ?_
        exact md_iret (dd D123_ok 26 rfl) rfl (k4 c1 c2 c3)
      · refine md_aload0 (dd D123_ok 11 rfl) rfl ?_
        refine md_iload_n (dd D123_ok 12 rfl) rfl ?_
        refine md_callI (as := [.int a]) (rest := []) (dd D123_ok 13 rfl) pl9_171 rfl (Nat.le_of_ble_eq_true rfl) (ms125 xs) rfl (c_f_edges hD (b2 c1)) rfl ?_
        refine md_if_ne (tgt := 47) (dd D123_ok 14 rfl) (by decide) (fun c4 => ?_) (fun c4 => ?_)
        · refine md_iconst (v := 0) (dd D123_ok 25 rfl) (by decide) ?_
          exact md_iret (dd D123_ok 26 rfl) rfl (k5 c1 c2 c3 c4)
        · refine md_aload0 (dd D123_ok 15 rfl) rfl ?_
          refine md_aload0 (dd D123_ok 16 rfl) rfl ?_
          refine md_getA (dd D123_ok 17 rfl) pl9_21 (by decide) rfl ?_
          refine md_iload_n (dd D123_ok 18 rfl) rfl ?_
          refine md_iald (f := 4) (dd D123_ok 19 rfl) rfl (b2 c1) ?_
          refine md_iconst (v := 0) (dd D123_ok 20 rfl) (by decide) ?_
          refine md_callI (as := [.int (M.2 4 a.toNatClampNeg), .int 0]) (rest := []) (dd D123_ok 21 rfl) pl9_168 rfl (Nat.le_of_ble_eq_true rfl) (ms118 xs) rfl (c_f_of hD (b6 c1 c2 c3 c4) (md_vl (by decide))) rfl ?_
          refine md_if_ne (tgt := 47) (dd D123_ok 22 rfl) (by decide) (fun c5 => ?_) (fun c5 => ?_)
          · refine md_iconst (v := 0) (dd D123_ok 25 rfl) (by decide) ?_
            exact md_iret (dd D123_ok 26 rfl) rfl (k7 c1 c2 c3 c4 c5)
          · refine md_iconst (v := 1) (dd D123_ok 23 rfl) (by decide) ?_
            refine md_goto (tgt := 48) (dd D123_ok 24 rfl) (by decide) ?_
            exact md_iret (dd D123_ok 26 rfl) rfl (k8 c1 c2 c3 c4 c5)
theorem c_f_joins {xs : List Int32} {mo : Nat} {ad : Nat → Nat} {d : Nat} {M : md_S} {a : Int32} (hD : md_D mo ad) (hn : vp_in a 60) (hq : ¬ (a ≤ 0) → vp_in (M.2 4 a.toNatClampNeg) 60) : ∀ Q', Q' (some (.int (f_joins M a))) M → md_C xs mo ad (d + 4) 123 [.int a] M Q' :=
  fun Q' hQ => md_intro (ms123 xs) (Nat.le_of_ble_eq_true rfl) (fun h0 => vc123_0 hD (fun q0 => by rw [f_joins, if_pos q0] at hQ; exact hQ) (by intros; assumption) (fun q0 q1 => by rw [f_joins, if_neg q0, if_pos q1] at hQ; exact hQ) (fun q0 q1 q2 => by rw [f_joins, if_neg q0, if_neg q1, if_pos q2] at hQ; exact hQ) (fun q0 q1 q2 q3 => by rw [f_joins, if_neg q0, if_neg q1, if_neg q2, if_pos q3] at hQ; exact hQ) (by intros; exact hq (by assumption)) (fun q0 q1 q2 q3 q4 => by rw [f_joins, if_neg q0, if_neg q1, if_neg q2, if_neg q3, if_pos q4] at hQ; exact hQ) (fun q0 q1 q2 q3 q4 => by rw [f_joins, if_neg q0, if_neg q1, if_neg q2, if_neg q3, if_neg q4] at hQ; exact hQ))
/-- itemHigh -/
def f_itemHigh (M : md_S) (a : Int32) : Int32 := if 0 ≤ a then (7 * (f_of M (M.2 30 a.toNatClampNeg) 8)) else (M.2 18 ((-1) - a).toNatClampNeg)
set_option maxHeartbeats 1000000 in
theorem vc142_0 {xs : List Int32} {mo : Nat} {ad : Nat → Nat} (hD : md_D mo ad) {h0 : am_H} {d : Nat} {Q : Option Value → md_S → Prop} {M : md_S} {a : Int32}
    (b1 : (0 ≤ a) → vp_in a 3700)
    (b2 : (0 ≤ a) → vp_in (M.2 30 a.toNatClampNeg) 60)
    (k3 : (0 ≤ a) → Q (some (.int (7 * (f_of M (M.2 30 a.toNatClampNeg) 8)))) M)
    (b4 : ¬ (0 ≤ a) → vp_in ((-1) - a) 60)
    (k5 : ¬ (0 ≤ a) → Q (some (.int (M.2 18 ((-1) - a).toNatClampNeg))) M) :
    md_wp xs mo ad h0 (d + 1) Q I142 0 [some (.ref mo), some (.int a)] [] M := by
  refine md_iload_n (dd D142_ok 0 rfl) rfl ?_
  refine md_if_ge (tgt := 15) (dd D142_ok 1 rfl) (by decide) (fun c1 => ?_) (fun c1 => ?_)
  · refine md_bipush (v := 7) (dd D142_ok 9 rfl) (by decide) ?_
    refine md_aload0 (dd D142_ok 10 rfl) rfl ?_
    refine md_aload0 (dd D142_ok 11 rfl) rfl ?_
    refine md_getA (dd D142_ok 12 rfl) pl9_94 (by decide) rfl ?_
    refine md_iload_n (dd D142_ok 13 rfl) rfl ?_
    refine md_iald (f := 30) (dd D142_ok 14 rfl) rfl (b1 c1) ?_
    refine md_bipush (v := 8) (dd D142_ok 15 rfl) (by decide) ?_
    refine md_callI (as := [.int (M.2 30 a.toNatClampNeg), .int 8]) (rest := [.int 7]) (dd D142_ok 16 rfl) pl9_168 rfl (Nat.le_of_ble_eq_true rfl) (ms118 xs) rfl (c_f_of hD (b2 c1) (md_vl (by decide))) rfl ?_
    refine md_imul (dd D142_ok 17 rfl) ?_
    exact md_iret (dd D142_ok 18 rfl) rfl (k3 c1)
  · refine md_aload0 (dd D142_ok 2 rfl) rfl ?_
    refine md_getA (dd D142_ok 3 rfl) pl9_64 (by decide) rfl ?_
    refine md_iconst (v := (-1)) (dd D142_ok 4 rfl) (by decide) ?_
    refine md_iload_n (dd D142_ok 5 rfl) rfl ?_
    refine md_isub (dd D142_ok 6 rfl) ?_
    refine md_iald (f := 18) (dd D142_ok 7 rfl) rfl (b4 c1) ?_
    refine md_goto (tgt := 30) (dd D142_ok 8 rfl) (by decide) ?_
    exact md_iret (dd D142_ok 18 rfl) rfl (k5 c1)
theorem c_f_itemHigh {xs : List Int32} {mo : Nat} {ad : Nat → Nat} {d : Nat} {M : md_S} {a : Int32} (hD : md_D mo ad) (h1 : ¬ (0 ≤ a) → vp_in ((-1) - a) 60) (h2 : (0 ≤ a) → vp_in a 3700) (h3 : (0 ≤ a) → vp_in (M.2 30 a.toNatClampNeg) 60) : ∀ Q', Q' (some (.int (f_itemHigh M a))) M → md_C xs mo ad (d + 2) 142 [.int a] M Q' :=
  fun Q' hQ => md_intro (ms142 xs) (Nat.le_of_ble_eq_true rfl) (fun h0 => vc142_0 hD (h2) (h3) (fun q0 => by rw [f_itemHigh, if_pos q0] at hQ; exact hQ) (h1) (fun q0 => by rw [f_itemHigh, if_neg q0] at hQ; exact hQ))
/-- modeOf -/
def f_modeOf (M : md_S) (a : Int32) : Int32 := if (M.2 12 (M.2 4 a.toNatClampNeg).toNatClampNeg) = 0 then 0 else (if ¬ (f_of M a 0) = 3 then (if ¬ (M.2 3 a.toNatClampNeg) = 1 then (if ¬ (M.2 3 a.toNatClampNeg) = 2 then (if ¬ (M.2 3 a.toNatClampNeg) = 3 then (if ¬ (M.2 12 (M.2 4 a.toNatClampNeg).toNatClampNeg) = 3 then (if ¬ (M.2 12 (M.2 4 a.toNatClampNeg).toNatClampNeg) = 1 then (if ¬ (M.2 12 (M.2 4 a.toNatClampNeg).toNatClampNeg) = 1 then (if ¬ (f_of M a 0) = 2 then 1 else 2) else (if ¬ (f_of M a 0) = 1 then (if ¬ (f_of M a 0) = 2 then 1 else 2) else 3)) else (if (f_of M a 1) ≤ 0 then (if ¬ (M.2 12 (M.2 4 a.toNatClampNeg).toNatClampNeg) = 1 then (if ¬ (f_of M a 0) = 2 then 1 else 2) else (if ¬ (f_of M a 0) = 1 then (if ¬ (f_of M a 0) = 2 then 1 else 2) else 3)) else (if ¬ (M.2 12 (M.2 4 a.toNatClampNeg).toNatClampNeg) = 1 then (if ¬ (f_of M a 0) = 2 then 1 else 2) else (if ¬ (f_of M a 0) = 2 then 1 else 2)))) else 3) else 4) else (if ¬ (M.2 12 (M.2 4 a.toNatClampNeg).toNatClampNeg) = 2 then 5 else 0)) else (if ¬ (M.2 12 (M.2 4 a.toNatClampNeg).toNatClampNeg) = 2 then 6 else 0)) else 0)
set_option maxHeartbeats 1000000 in
theorem vc119_0 {xs : List Int32} {mo : Nat} {ad : Nat → Nat} (hD : md_D mo ad) {h0 : am_H} {d : Nat} {Q : Option Value → md_S → Prop} {M : md_S} {a : Int32}
    (b1 : vp_in a 60)
    (b2 : vp_in (M.2 4 a.toNatClampNeg) 60)
    (k3 : ((M.2 12 (M.2 4 a.toNatClampNeg).toNatClampNeg) = 0) → Q (some (.int 0)) M)
    (k4 : ¬ ((M.2 12 (M.2 4 a.toNatClampNeg).toNatClampNeg) = 0) → ¬ (f_of M a 0) = 3 → ¬ (M.2 3 a.toNatClampNeg) = 1 → ¬ (M.2 3 a.toNatClampNeg) = 2 → ¬ (M.2 3 a.toNatClampNeg) = 3 → ¬ (M.2 12 (M.2 4 a.toNatClampNeg).toNatClampNeg) = 3 → ¬ (M.2 12 (M.2 4 a.toNatClampNeg).toNatClampNeg) = 1 → ¬ (M.2 12 (M.2 4 a.toNatClampNeg).toNatClampNeg) = 1 → ¬ (f_of M a 0) = 2 → Q (some (.int 1)) M)
    (k5 : ¬ ((M.2 12 (M.2 4 a.toNatClampNeg).toNatClampNeg) = 0) → ¬ (f_of M a 0) = 3 → ¬ (M.2 3 a.toNatClampNeg) = 1 → ¬ (M.2 3 a.toNatClampNeg) = 2 → ¬ (M.2 3 a.toNatClampNeg) = 3 → ¬ (M.2 12 (M.2 4 a.toNatClampNeg).toNatClampNeg) = 3 → ¬ (M.2 12 (M.2 4 a.toNatClampNeg).toNatClampNeg) = 1 → ¬ (M.2 12 (M.2 4 a.toNatClampNeg).toNatClampNeg) = 1 → ¬ (¬ (f_of M a 0) = 2) → Q (some (.int 2)) M)
    (k6 : ¬ ((M.2 12 (M.2 4 a.toNatClampNeg).toNatClampNeg) = 0) → ¬ (f_of M a 0) = 3 → ¬ (M.2 3 a.toNatClampNeg) = 1 → ¬ (M.2 3 a.toNatClampNeg) = 2 → ¬ (M.2 3 a.toNatClampNeg) = 3 → ¬ (M.2 12 (M.2 4 a.toNatClampNeg).toNatClampNeg) = 3 → ¬ (M.2 12 (M.2 4 a.toNatClampNeg).toNatClampNeg) = 1 → ¬ (¬ (M.2 12 (M.2 4 a.toNatClampNeg).toNatClampNeg) = 1) → ¬ (f_of M a 0) = 1 → ¬ (f_of M a 0) = 2 → Q (some (.int 1)) M)
    (k7 : ¬ ((M.2 12 (M.2 4 a.toNatClampNeg).toNatClampNeg) = 0) → ¬ (f_of M a 0) = 3 → ¬ (M.2 3 a.toNatClampNeg) = 1 → ¬ (M.2 3 a.toNatClampNeg) = 2 → ¬ (M.2 3 a.toNatClampNeg) = 3 → ¬ (M.2 12 (M.2 4 a.toNatClampNeg).toNatClampNeg) = 3 → ¬ (M.2 12 (M.2 4 a.toNatClampNeg).toNatClampNeg) = 1 → ¬ (¬ (M.2 12 (M.2 4 a.toNatClampNeg).toNatClampNeg) = 1) → ¬ (f_of M a 0) = 1 → ¬ (¬ (f_of M a 0) = 2) → Q (some (.int 2)) M)
    (k8 : ¬ ((M.2 12 (M.2 4 a.toNatClampNeg).toNatClampNeg) = 0) → ¬ (f_of M a 0) = 3 → ¬ (M.2 3 a.toNatClampNeg) = 1 → ¬ (M.2 3 a.toNatClampNeg) = 2 → ¬ (M.2 3 a.toNatClampNeg) = 3 → ¬ (M.2 12 (M.2 4 a.toNatClampNeg).toNatClampNeg) = 3 → ¬ (M.2 12 (M.2 4 a.toNatClampNeg).toNatClampNeg) = 1 → ¬ (¬ (M.2 12 (M.2 4 a.toNatClampNeg).toNatClampNeg) = 1) → ¬ (¬ (f_of M a 0) = 1) → Q (some (.int 3)) M)
    (k9 : ¬ ((M.2 12 (M.2 4 a.toNatClampNeg).toNatClampNeg) = 0) → ¬ (f_of M a 0) = 3 → ¬ (M.2 3 a.toNatClampNeg) = 1 → ¬ (M.2 3 a.toNatClampNeg) = 2 → ¬ (M.2 3 a.toNatClampNeg) = 3 → ¬ (M.2 12 (M.2 4 a.toNatClampNeg).toNatClampNeg) = 3 → ¬ (¬ (M.2 12 (M.2 4 a.toNatClampNeg).toNatClampNeg) = 1) → ((f_of M a 1) ≤ 0) → ¬ (M.2 12 (M.2 4 a.toNatClampNeg).toNatClampNeg) = 1 → ¬ (f_of M a 0) = 2 → Q (some (.int 1)) M)
    (k10 : ¬ ((M.2 12 (M.2 4 a.toNatClampNeg).toNatClampNeg) = 0) → ¬ (f_of M a 0) = 3 → ¬ (M.2 3 a.toNatClampNeg) = 1 → ¬ (M.2 3 a.toNatClampNeg) = 2 → ¬ (M.2 3 a.toNatClampNeg) = 3 → ¬ (M.2 12 (M.2 4 a.toNatClampNeg).toNatClampNeg) = 3 → ¬ (¬ (M.2 12 (M.2 4 a.toNatClampNeg).toNatClampNeg) = 1) → ((f_of M a 1) ≤ 0) → ¬ (M.2 12 (M.2 4 a.toNatClampNeg).toNatClampNeg) = 1 → ¬ (¬ (f_of M a 0) = 2) → Q (some (.int 2)) M)
    (k11 : ¬ ((M.2 12 (M.2 4 a.toNatClampNeg).toNatClampNeg) = 0) → ¬ (f_of M a 0) = 3 → ¬ (M.2 3 a.toNatClampNeg) = 1 → ¬ (M.2 3 a.toNatClampNeg) = 2 → ¬ (M.2 3 a.toNatClampNeg) = 3 → ¬ (M.2 12 (M.2 4 a.toNatClampNeg).toNatClampNeg) = 3 → ¬ (¬ (M.2 12 (M.2 4 a.toNatClampNeg).toNatClampNeg) = 1) → ((f_of M a 1) ≤ 0) → ¬ (¬ (M.2 12 (M.2 4 a.toNatClampNeg).toNatClampNeg) = 1) → ¬ (f_of M a 0) = 1 → ¬ (f_of M a 0) = 2 → Q (some (.int 1)) M)
    (k12 : ¬ ((M.2 12 (M.2 4 a.toNatClampNeg).toNatClampNeg) = 0) → ¬ (f_of M a 0) = 3 → ¬ (M.2 3 a.toNatClampNeg) = 1 → ¬ (M.2 3 a.toNatClampNeg) = 2 → ¬ (M.2 3 a.toNatClampNeg) = 3 → ¬ (M.2 12 (M.2 4 a.toNatClampNeg).toNatClampNeg) = 3 → ¬ (¬ (M.2 12 (M.2 4 a.toNatClampNeg).toNatClampNeg) = 1) → ((f_of M a 1) ≤ 0) → ¬ (¬ (M.2 12 (M.2 4 a.toNatClampNeg).toNatClampNeg) = 1) → ¬ (f_of M a 0) = 1 → ¬ (¬ (f_of M a 0) = 2) → Q (some (.int 2)) M)
    (k13 : ¬ ((M.2 12 (M.2 4 a.toNatClampNeg).toNatClampNeg) = 0) → ¬ (f_of M a 0) = 3 → ¬ (M.2 3 a.toNatClampNeg) = 1 → ¬ (M.2 3 a.toNatClampNeg) = 2 → ¬ (M.2 3 a.toNatClampNeg) = 3 → ¬ (M.2 12 (M.2 4 a.toNatClampNeg).toNatClampNeg) = 3 → ¬ (¬ (M.2 12 (M.2 4 a.toNatClampNeg).toNatClampNeg) = 1) → ((f_of M a 1) ≤ 0) → ¬ (¬ (M.2 12 (M.2 4 a.toNatClampNeg).toNatClampNeg) = 1) → ¬ (¬ (f_of M a 0) = 1) → Q (some (.int 3)) M)
    (k14 : ¬ ((M.2 12 (M.2 4 a.toNatClampNeg).toNatClampNeg) = 0) → ¬ (f_of M a 0) = 3 → ¬ (M.2 3 a.toNatClampNeg) = 1 → ¬ (M.2 3 a.toNatClampNeg) = 2 → ¬ (M.2 3 a.toNatClampNeg) = 3 → ¬ (M.2 12 (M.2 4 a.toNatClampNeg).toNatClampNeg) = 3 → ¬ (¬ (M.2 12 (M.2 4 a.toNatClampNeg).toNatClampNeg) = 1) → ¬ ((f_of M a 1) ≤ 0) → ¬ (M.2 12 (M.2 4 a.toNatClampNeg).toNatClampNeg) = 1 → ¬ (f_of M a 0) = 2 → Q (some (.int 1)) M)
    (k15 : ¬ ((M.2 12 (M.2 4 a.toNatClampNeg).toNatClampNeg) = 0) → ¬ (f_of M a 0) = 3 → ¬ (M.2 3 a.toNatClampNeg) = 1 → ¬ (M.2 3 a.toNatClampNeg) = 2 → ¬ (M.2 3 a.toNatClampNeg) = 3 → ¬ (M.2 12 (M.2 4 a.toNatClampNeg).toNatClampNeg) = 3 → ¬ (¬ (M.2 12 (M.2 4 a.toNatClampNeg).toNatClampNeg) = 1) → ¬ ((f_of M a 1) ≤ 0) → ¬ (M.2 12 (M.2 4 a.toNatClampNeg).toNatClampNeg) = 1 → ¬ (¬ (f_of M a 0) = 2) → Q (some (.int 2)) M)
    (k16 : ¬ ((M.2 12 (M.2 4 a.toNatClampNeg).toNatClampNeg) = 0) → ¬ (f_of M a 0) = 3 → ¬ (M.2 3 a.toNatClampNeg) = 1 → ¬ (M.2 3 a.toNatClampNeg) = 2 → ¬ (M.2 3 a.toNatClampNeg) = 3 → ¬ (M.2 12 (M.2 4 a.toNatClampNeg).toNatClampNeg) = 3 → ¬ (¬ (M.2 12 (M.2 4 a.toNatClampNeg).toNatClampNeg) = 1) → ¬ ((f_of M a 1) ≤ 0) → ¬ (¬ (M.2 12 (M.2 4 a.toNatClampNeg).toNatClampNeg) = 1) → ¬ (f_of M a 0) = 2 → Q (some (.int 1)) M)
    (k17 : ¬ ((M.2 12 (M.2 4 a.toNatClampNeg).toNatClampNeg) = 0) → ¬ (f_of M a 0) = 3 → ¬ (M.2 3 a.toNatClampNeg) = 1 → ¬ (M.2 3 a.toNatClampNeg) = 2 → ¬ (M.2 3 a.toNatClampNeg) = 3 → ¬ (M.2 12 (M.2 4 a.toNatClampNeg).toNatClampNeg) = 3 → ¬ (¬ (M.2 12 (M.2 4 a.toNatClampNeg).toNatClampNeg) = 1) → ¬ ((f_of M a 1) ≤ 0) → ¬ (¬ (M.2 12 (M.2 4 a.toNatClampNeg).toNatClampNeg) = 1) → ¬ (¬ (f_of M a 0) = 2) → Q (some (.int 2)) M)
    (k18 : ¬ ((M.2 12 (M.2 4 a.toNatClampNeg).toNatClampNeg) = 0) → ¬ (f_of M a 0) = 3 → ¬ (M.2 3 a.toNatClampNeg) = 1 → ¬ (M.2 3 a.toNatClampNeg) = 2 → ¬ (M.2 3 a.toNatClampNeg) = 3 → ¬ (¬ (M.2 12 (M.2 4 a.toNatClampNeg).toNatClampNeg) = 3) → Q (some (.int 3)) M)
    (k19 : ¬ ((M.2 12 (M.2 4 a.toNatClampNeg).toNatClampNeg) = 0) → ¬ (f_of M a 0) = 3 → ¬ (M.2 3 a.toNatClampNeg) = 1 → ¬ (M.2 3 a.toNatClampNeg) = 2 → ¬ (¬ (M.2 3 a.toNatClampNeg) = 3) → Q (some (.int 4)) M)
    (k20 : ¬ ((M.2 12 (M.2 4 a.toNatClampNeg).toNatClampNeg) = 0) → ¬ (f_of M a 0) = 3 → ¬ (M.2 3 a.toNatClampNeg) = 1 → ¬ (¬ (M.2 3 a.toNatClampNeg) = 2) → ¬ (M.2 12 (M.2 4 a.toNatClampNeg).toNatClampNeg) = 2 → Q (some (.int 5)) M)
    (k21 : ¬ ((M.2 12 (M.2 4 a.toNatClampNeg).toNatClampNeg) = 0) → ¬ (f_of M a 0) = 3 → ¬ (M.2 3 a.toNatClampNeg) = 1 → ¬ (¬ (M.2 3 a.toNatClampNeg) = 2) → ¬ (¬ (M.2 12 (M.2 4 a.toNatClampNeg).toNatClampNeg) = 2) → Q (some (.int 0)) M)
    (k22 : ¬ ((M.2 12 (M.2 4 a.toNatClampNeg).toNatClampNeg) = 0) → ¬ (f_of M a 0) = 3 → ¬ (¬ (M.2 3 a.toNatClampNeg) = 1) → ¬ (M.2 12 (M.2 4 a.toNatClampNeg).toNatClampNeg) = 2 → Q (some (.int 6)) M)
    (k23 : ¬ ((M.2 12 (M.2 4 a.toNatClampNeg).toNatClampNeg) = 0) → ¬ (f_of M a 0) = 3 → ¬ (¬ (M.2 3 a.toNatClampNeg) = 1) → ¬ (¬ (M.2 12 (M.2 4 a.toNatClampNeg).toNatClampNeg) = 2) → Q (some (.int 0)) M)
    (k24 : ¬ ((M.2 12 (M.2 4 a.toNatClampNeg).toNatClampNeg) = 0) → ¬ (¬ (f_of M a 0) = 3) → Q (some (.int 0)) M) :
    md_wp xs mo ad h0 (d + 1) Q I119 0 [some (.ref mo), some (.int a), none, none, none] [] M := by
  refine md_aload0 (dd D119_ok 0 rfl) rfl ?_
  refine md_getA (dd D119_ok 1 rfl) pl9_45 (by decide) rfl ?_
  refine md_aload0 (dd D119_ok 2 rfl) rfl ?_
  refine md_getA (dd D119_ok 3 rfl) pl9_21 (by decide) rfl ?_
  refine md_iload_n (dd D119_ok 4 rfl) rfl ?_
  refine md_iald (f := 4) (dd D119_ok 5 rfl) rfl b1 ?_
  refine md_iald (f := 12) (dd D119_ok 6 rfl) rfl b2 ?_
  refine md_istore_n (dd D119_ok 7 rfl) (Nat.le_of_ble_eq_true rfl) ?_
  refine md_aload0 (dd D119_ok 8 rfl) rfl ?_
  refine md_iload_n (dd D119_ok 9 rfl) rfl ?_
  refine md_iconst (v := 0) (dd D119_ok 10 rfl) (by decide) ?_
  refine md_callI (as := [.int a, .int 0]) (rest := []) (dd D119_ok 11 rfl) pl9_168 rfl (Nat.le_of_ble_eq_true rfl) (ms118 xs) rfl (c_f_of hD b1 (md_vl (by decide))) rfl ?_
  refine md_istore_n (dd D119_ok 12 rfl) (Nat.le_of_ble_eq_true rfl) ?_
  refine md_iload_n (dd D119_ok 13 rfl) rfl ?_
  refine md_if_eq (tgt := 28) (dd D119_ok 14 rfl) (by decide) (fun c1 => ?_) (fun c1 => ?_)
  · refine md_iconst (v := 0) (dd D119_ok 18 rfl) (by decide) ?_
    exact md_iret (dd D119_ok 19 rfl) rfl (k3 c1)
  · refine md_iload_n (dd D119_ok 15 rfl) rfl ?_
    refine md_iconst (v := 3) (dd D119_ok 16 rfl) (by decide) ?_
    refine md_icmp_ne (tgt := 30) (dd D119_ok 17 rfl) (by decide) (fun c2 => ?_) (fun c2 => ?_)
    · refine md_aload0 (dd D119_ok 20 rfl) rfl ?_
      refine md_getA (dd D119_ok 21 rfl) pl9_17 (by decide) rfl ?_
      refine md_iload_n (dd D119_ok 22 rfl) rfl ?_
      refine md_iald (f := 3) (dd D119_ok 23 rfl) rfl b1 ?_
      refine md_iconst (v := 1) (dd D119_ok 24 rfl) (by decide) ?_
      refine md_icmp_ne (tgt := 52) (dd D119_ok 25 rfl) (by decide) (fun c3 => ?_) (fun c3 => ?_)
      · refine md_aload0 (dd D119_ok 33 rfl) rfl ?_
        refine md_getA (dd D119_ok 34 rfl) pl9_17 (by decide) rfl ?_
        refine md_iload_n (dd D119_ok 35 rfl) rfl ?_
        refine md_iald (f := 3) (dd D119_ok 36 rfl) rfl b1 ?_
        refine md_iconst (v := 2) (dd D119_ok 37 rfl) (by decide) ?_
        refine md_icmp_ne (tgt := 73) (dd D119_ok 38 rfl) (by decide) (fun c4 => ?_) (fun c4 => ?_)
        · refine md_aload0 (dd D119_ok 46 rfl) rfl ?_
          refine md_getA (dd D119_ok 47 rfl) pl9_17 (by decide) rfl ?_
          refine md_iload_n (dd D119_ok 48 rfl) rfl ?_
          refine md_iald (f := 3) (dd D119_ok 49 rfl) rfl b1 ?_
          refine md_iconst (v := 3) (dd D119_ok 50 rfl) (by decide) ?_
          refine md_icmp_ne (tgt := 85) (dd D119_ok 51 rfl) (by decide) (fun c5 => ?_) (fun c5 => ?_)
          · refine md_iload_n (dd D119_ok 54 rfl) rfl ?_
            refine md_iconst (v := 3) (dd D119_ok 55 rfl) (by decide) ?_
            refine md_icmp_ne (tgt := 92) (dd D119_ok 56 rfl) (by decide) (fun c6 => ?_) (fun c6 => ?_)
            · refine md_iload_n (dd D119_ok 59 rfl) rfl ?_
              refine md_iconst (v := 1) (dd D119_ok 60 rfl) (by decide) ?_
              refine md_icmp_ne (tgt := 110) (dd D119_ok 61 rfl) (by decide) (fun c7 => ?_) (fun c7 => ?_)
              · refine md_iconst (v := 0) (dd D119_ok 69 rfl) (by decide) ?_
                refine md_istore (dd D119_ok 70 rfl) (Nat.le_of_ble_eq_true rfl) ?_
                refine md_iload_n (dd D119_ok 71 rfl) rfl ?_
                refine md_iconst (v := 1) (dd D119_ok 72 rfl) (by decide) ?_
                refine md_icmp_ne (tgt := 130) (dd D119_ok 73 rfl) (by decide) (fun c8 => ?_) (fun c8 => ?_)
                · refine md_iload_n (dd D119_ok 81 rfl) rfl ?_
                  refine md_iconst (v := 2) (dd D119_ok 82 rfl) (by decide) ?_
                  refine md_icmp_ne (tgt := 139) (dd D119_ok 83 rfl) (by decide) (fun c9 => ?_) (fun c9 => ?_)
                  · refine md_iconst (v := 1) (dd D119_ok 86 rfl) (by decide) ?_
                    exact md_iret (dd D119_ok 87 rfl) rfl (k4 c1 c2 c3 c4 c5 c6 c7 c8 c9)
                  · refine md_iconst (v := 2) (dd D119_ok 84 rfl) (by decide) ?_
                    refine md_goto (tgt := 140) (dd D119_ok 85 rfl) (by decide) ?_
                    exact md_iret (dd D119_ok 87 rfl) rfl (k5 c1 c2 c3 c4 c5 c6 c7 c8 c9)
                · refine md_iload (dd D119_ok 74 rfl) rfl ?_
                  refine md_if_ne (tgt := 130) (dd D119_ok 75 rfl) (by decide) (fun c10 => absurd c10 (by decide)) (fun _ => ?_)
                  refine md_iload_n (dd D119_ok 76 rfl) rfl ?_
                  refine md_iconst (v := 1) (dd D119_ok 77 rfl) (by decide) ?_
                  refine md_icmp_ne (tgt := 130) (dd D119_ok 78 rfl) (by decide) (fun c11 => ?_) (fun c11 => ?_)
                  · refine md_iload_n (dd D119_ok 81 rfl) rfl ?_
                    refine md_iconst (v := 2) (dd D119_ok 82 rfl) (by decide) ?_
                    refine md_icmp_ne (tgt := 139) (dd D119_ok 83 rfl) (by decide) (fun c12 => ?_) (fun c12 => ?_)
                    · refine md_iconst (v := 1) (dd D119_ok 86 rfl) (by decide) ?_
                      exact md_iret (dd D119_ok 87 rfl) rfl (k6 c1 c2 c3 c4 c5 c6 c7 c8 c11 c12)
                    · refine md_iconst (v := 2) (dd D119_ok 84 rfl) (by decide) ?_
                      refine md_goto (tgt := 140) (dd D119_ok 85 rfl) (by decide) ?_
                      exact md_iret (dd D119_ok 87 rfl) rfl (k7 c1 c2 c3 c4 c5 c6 c7 c8 c11 c12)
                  · refine md_iconst (v := 3) (dd D119_ok 79 rfl) (by decide) ?_
                    exact md_iret (dd D119_ok 80 rfl) rfl (k8 c1 c2 c3 c4 c5 c6 c7 c8 c11)
              · refine md_aload0 (dd D119_ok 62 rfl) rfl ?_
                refine md_iload_n (dd D119_ok 63 rfl) rfl ?_
                refine md_iconst (v := 1) (dd D119_ok 64 rfl) (by decide) ?_
                refine md_callI (as := [.int a, .int 1]) (rest := []) (dd D119_ok 65 rfl) pl9_168 rfl (Nat.le_of_ble_eq_true rfl) (ms118 xs) rfl (c_f_of hD b1 (md_vl (by decide))) rfl ?_
                refine md_if_le (tgt := 110) (dd D119_ok 66 rfl) (by decide) (fun c13 => ?_) (fun c13 => ?_)
                · refine md_iconst (v := 0) (dd D119_ok 69 rfl) (by decide) ?_
                  refine md_istore (dd D119_ok 70 rfl) (Nat.le_of_ble_eq_true rfl) ?_
                  refine md_iload_n (dd D119_ok 71 rfl) rfl ?_
                  refine md_iconst (v := 1) (dd D119_ok 72 rfl) (by decide) ?_
                  refine md_icmp_ne (tgt := 130) (dd D119_ok 73 rfl) (by decide) (fun c14 => ?_) (fun c14 => ?_)
                  · refine md_iload_n (dd D119_ok 81 rfl) rfl ?_
                    refine md_iconst (v := 2) (dd D119_ok 82 rfl) (by decide) ?_
                    refine md_icmp_ne (tgt := 139) (dd D119_ok 83 rfl) (by decide) (fun c15 => ?_) (fun c15 => ?_)
                    · refine md_iconst (v := 1) (dd D119_ok 86 rfl) (by decide) ?_
                      exact md_iret (dd D119_ok 87 rfl) rfl (k9 c1 c2 c3 c4 c5 c6 c7 c13 c14 c15)
                    · refine md_iconst (v := 2) (dd D119_ok 84 rfl) (by decide) ?_
                      refine md_goto (tgt := 140) (dd D119_ok 85 rfl) (by decide) ?_
                      exact md_iret (dd D119_ok 87 rfl) rfl (k10 c1 c2 c3 c4 c5 c6 c7 c13 c14 c15)
                  · refine md_iload (dd D119_ok 74 rfl) rfl ?_
                    refine md_if_ne (tgt := 130) (dd D119_ok 75 rfl) (by decide) (fun c16 => absurd c16 (by decide)) (fun _ => ?_)
                    refine md_iload_n (dd D119_ok 76 rfl) rfl ?_
                    refine md_iconst (v := 1) (dd D119_ok 77 rfl) (by decide) ?_
                    refine md_icmp_ne (tgt := 130) (dd D119_ok 78 rfl) (by decide) (fun c17 => ?_) (fun c17 => ?_)
                    · refine md_iload_n (dd D119_ok 81 rfl) rfl ?_
                      refine md_iconst (v := 2) (dd D119_ok 82 rfl) (by decide) ?_
                      refine md_icmp_ne (tgt := 139) (dd D119_ok 83 rfl) (by decide) (fun c18 => ?_) (fun c18 => ?_)
                      · refine md_iconst (v := 1) (dd D119_ok 86 rfl) (by decide) ?_
                        exact md_iret (dd D119_ok 87 rfl) rfl (k11 c1 c2 c3 c4 c5 c6 c7 c13 c14 c17 c18)
                      · refine md_iconst (v := 2) (dd D119_ok 84 rfl) (by decide) ?_
                        refine md_goto (tgt := 140) (dd D119_ok 85 rfl) (by decide) ?_
                        exact md_iret (dd D119_ok 87 rfl) rfl (k12 c1 c2 c3 c4 c5 c6 c7 c13 c14 c17 c18)
                    · refine md_iconst (v := 3) (dd D119_ok 79 rfl) (by decide) ?_
                      exact md_iret (dd D119_ok 80 rfl) rfl (k13 c1 c2 c3 c4 c5 c6 c7 c13 c14 c17)
                · refine md_iconst (v := 1) (dd D119_ok 67 rfl) (by decide) ?_
                  refine md_goto (tgt := 111) (dd D119_ok 68 rfl) (by decide) ?_
                  refine md_istore (dd D119_ok 70 rfl) (Nat.le_of_ble_eq_true rfl) ?_
                  refine md_iload_n (dd D119_ok 71 rfl) rfl ?_
                  refine md_iconst (v := 1) (dd D119_ok 72 rfl) (by decide) ?_
                  refine md_icmp_ne (tgt := 130) (dd D119_ok 73 rfl) (by decide) (fun c19 => ?_) (fun c19 => ?_)
                  · refine md_iload_n (dd D119_ok 81 rfl) rfl ?_
                    refine md_iconst (v := 2) (dd D119_ok 82 rfl) (by decide) ?_
                    refine md_icmp_ne (tgt := 139) (dd D119_ok 83 rfl) (by decide) (fun c20 => ?_) (fun c20 => ?_)
                    · refine md_iconst (v := 1) (dd D119_ok 86 rfl) (by decide) ?_
                      exact md_iret (dd D119_ok 87 rfl) rfl (k14 c1 c2 c3 c4 c5 c6 c7 c13 c19 c20)
                    · refine md_iconst (v := 2) (dd D119_ok 84 rfl) (by decide) ?_
                      refine md_goto (tgt := 140) (dd D119_ok 85 rfl) (by decide) ?_
                      exact md_iret (dd D119_ok 87 rfl) rfl (k15 c1 c2 c3 c4 c5 c6 c7 c13 c19 c20)
                  · refine md_iload (dd D119_ok 74 rfl) rfl ?_
                    refine md_if_ne (tgt := 130) (dd D119_ok 75 rfl) (by decide) (fun _ => ?_) (fun c21 => absurd (by decide) c21)
                    refine md_iload_n (dd D119_ok 81 rfl) rfl ?_
                    refine md_iconst (v := 2) (dd D119_ok 82 rfl) (by decide) ?_
                    refine md_icmp_ne (tgt := 139) (dd D119_ok 83 rfl) (by decide) (fun c22 => ?_) (fun c22 => ?_)
                    · refine md_iconst (v := 1) (dd D119_ok 86 rfl) (by decide) ?_
                      exact md_iret (dd D119_ok 87 rfl) rfl (k16 c1 c2 c3 c4 c5 c6 c7 c13 c19 c22)
                    · refine md_iconst (v := 2) (dd D119_ok 84 rfl) (by decide) ?_
                      refine md_goto (tgt := 140) (dd D119_ok 85 rfl) (by decide) ?_
                      exact md_iret (dd D119_ok 87 rfl) rfl (k17 c1 c2 c3 c4 c5 c6 c7 c13 c19 c22)
            · refine md_iconst (v := 3) (dd D119_ok 57 rfl) (by decide) ?_
              exact md_iret (dd D119_ok 58 rfl) rfl (k18 c1 c2 c3 c4 c5 c6)
          · refine md_iconst (v := 4) (dd D119_ok 52 rfl) (by decide) ?_
            exact md_iret (dd D119_ok 53 rfl) rfl (k19 c1 c2 c3 c4 c5)
        · refine md_iload_n (dd D119_ok 39 rfl) rfl ?_
          refine md_iconst (v := 2) (dd D119_ok 40 rfl) (by decide) ?_
          refine md_icmp_ne (tgt := 71) (dd D119_ok 41 rfl) (by decide) (fun c23 => ?_) (fun c23 => ?_)
          · refine md_iconst (v := 5) (dd D119_ok 44 rfl) (by decide) ?_
            exact md_iret (dd D119_ok 45 rfl) rfl (k20 c1 c2 c3 c4 c23)
          · refine md_iconst (v := 0) (dd D119_ok 42 rfl) (by decide) ?_
            refine md_goto (tgt := 72) (dd D119_ok 43 rfl) (by decide) ?_
            exact md_iret (dd D119_ok 45 rfl) rfl (k21 c1 c2 c3 c4 c23)
      · refine md_iload_n (dd D119_ok 26 rfl) rfl ?_
        refine md_iconst (v := 2) (dd D119_ok 27 rfl) (by decide) ?_
        refine md_icmp_ne (tgt := 49) (dd D119_ok 28 rfl) (by decide) (fun c24 => ?_) (fun c24 => ?_)
        · refine md_bipush (v := 6) (dd D119_ok 31 rfl) (by decide) ?_
          exact md_iret (dd D119_ok 32 rfl) rfl (k22 c1 c2 c3 c24)
        · refine md_iconst (v := 0) (dd D119_ok 29 rfl) (by decide) ?_
          refine md_goto (tgt := 51) (dd D119_ok 30 rfl) (by decide) ?_
          exact md_iret (dd D119_ok 32 rfl) rfl (k23 c1 c2 c3 c24)
    · refine md_iconst (v := 0) (dd D119_ok 18 rfl) (by decide) ?_
      exact md_iret (dd D119_ok 19 rfl) rfl (k24 c1 c2)
theorem c_f_modeOf {xs : List Int32} {mo : Nat} {ad : Nat → Nat} {d : Nat} {M : md_S} {a : Int32} (hD : md_D mo ad) (hn : vp_in a 60) (hp : vp_in (M.2 4 a.toNatClampNeg) 60) : ∀ Q', Q' (some (.int (f_modeOf M a))) M → md_C xs mo ad (d + 2) 119 [.int a] M Q' :=
  fun Q' hQ => md_intro (ms119 xs) (Nat.le_of_ble_eq_true rfl) (fun h0 => vc119_0 hD (by intros; assumption) (by intros; assumption) (fun q0 => by rw [f_modeOf, if_pos q0] at hQ; exact hQ) (fun q0 q1 q2 q3 q4 q5 q6 q7 q8 => by rw [f_modeOf, if_neg q0, if_pos q1, if_pos q2, if_pos q3, if_pos q4, if_pos q5, if_pos q6, if_pos q7, if_pos q8] at hQ; exact hQ) (fun q0 q1 q2 q3 q4 q5 q6 q7 q8 => by rw [f_modeOf, if_neg q0, if_pos q1, if_pos q2, if_pos q3, if_pos q4, if_pos q5, if_pos q6, if_pos q7, if_neg q8] at hQ; exact hQ) (fun q0 q1 q2 q3 q4 q5 q6 q7 q8 q9 => by rw [f_modeOf, if_neg q0, if_pos q1, if_pos q2, if_pos q3, if_pos q4, if_pos q5, if_pos q6, if_neg q7, if_pos q8, if_pos q9] at hQ; exact hQ) (fun q0 q1 q2 q3 q4 q5 q6 q7 q8 q9 => by rw [f_modeOf, if_neg q0, if_pos q1, if_pos q2, if_pos q3, if_pos q4, if_pos q5, if_pos q6, if_neg q7, if_pos q8, if_neg q9] at hQ; exact hQ) (fun q0 q1 q2 q3 q4 q5 q6 q7 q8 => by rw [f_modeOf, if_neg q0, if_pos q1, if_pos q2, if_pos q3, if_pos q4, if_pos q5, if_pos q6, if_neg q7, if_neg q8] at hQ; exact hQ) (fun q0 q1 q2 q3 q4 q5 q6 q7 q8 q9 => by rw [f_modeOf, if_neg q0, if_pos q1, if_pos q2, if_pos q3, if_pos q4, if_pos q5, if_neg q6, if_pos q7, if_pos q8, if_pos q9] at hQ; exact hQ) (fun q0 q1 q2 q3 q4 q5 q6 q7 q8 q9 => by rw [f_modeOf, if_neg q0, if_pos q1, if_pos q2, if_pos q3, if_pos q4, if_pos q5, if_neg q6, if_pos q7, if_pos q8, if_neg q9] at hQ; exact hQ) (fun q0 q1 q2 q3 q4 q5 q6 q7 q8 q9 q10 => by rw [f_modeOf, if_neg q0, if_pos q1, if_pos q2, if_pos q3, if_pos q4, if_pos q5, if_neg q6, if_pos q7, if_neg q8, if_pos q9, if_pos q10] at hQ; exact hQ) (fun q0 q1 q2 q3 q4 q5 q6 q7 q8 q9 q10 => by rw [f_modeOf, if_neg q0, if_pos q1, if_pos q2, if_pos q3, if_pos q4, if_pos q5, if_neg q6, if_pos q7, if_neg q8, if_pos q9, if_neg q10] at hQ; exact hQ) (fun q0 q1 q2 q3 q4 q5 q6 q7 q8 q9 => by rw [f_modeOf, if_neg q0, if_pos q1, if_pos q2, if_pos q3, if_pos q4, if_pos q5, if_neg q6, if_pos q7, if_neg q8, if_neg q9] at hQ; exact hQ) (fun q0 q1 q2 q3 q4 q5 q6 q7 q8 q9 => by rw [f_modeOf, if_neg q0, if_pos q1, if_pos q2, if_pos q3, if_pos q4, if_pos q5, if_neg q6, if_neg q7, if_pos q8, if_pos q9] at hQ; exact hQ) (fun q0 q1 q2 q3 q4 q5 q6 q7 q8 q9 => by rw [f_modeOf, if_neg q0, if_pos q1, if_pos q2, if_pos q3, if_pos q4, if_pos q5, if_neg q6, if_neg q7, if_pos q8, if_neg q9] at hQ; exact hQ) (fun q0 q1 q2 q3 q4 q5 q6 q7 q8 q9 => by rw [f_modeOf, if_neg q0, if_pos q1, if_pos q2, if_pos q3, if_pos q4, if_pos q5, if_neg q6, if_neg q7, if_neg q8, if_pos q9] at hQ; exact hQ) (fun q0 q1 q2 q3 q4 q5 q6 q7 q8 q9 => by rw [f_modeOf, if_neg q0, if_pos q1, if_pos q2, if_pos q3, if_pos q4, if_pos q5, if_neg q6, if_neg q7, if_neg q8, if_neg q9] at hQ; exact hQ) (fun q0 q1 q2 q3 q4 q5 => by rw [f_modeOf, if_neg q0, if_pos q1, if_pos q2, if_pos q3, if_pos q4, if_neg q5] at hQ; exact hQ) (fun q0 q1 q2 q3 q4 => by rw [f_modeOf, if_neg q0, if_pos q1, if_pos q2, if_pos q3, if_neg q4] at hQ; exact hQ) (fun q0 q1 q2 q3 q4 => by rw [f_modeOf, if_neg q0, if_pos q1, if_pos q2, if_neg q3, if_pos q4] at hQ; exact hQ) (fun q0 q1 q2 q3 q4 => by rw [f_modeOf, if_neg q0, if_pos q1, if_pos q2, if_neg q3, if_neg q4] at hQ; exact hQ) (fun q0 q1 q2 q3 => by rw [f_modeOf, if_neg q0, if_pos q1, if_neg q2, if_pos q3] at hQ; exact hQ) (fun q0 q1 q2 q3 => by rw [f_modeOf, if_neg q0, if_pos q1, if_neg q2, if_neg q3] at hQ; exact hQ) (fun q0 q1 => by rw [f_modeOf, if_neg q0, if_neg q1] at hQ; exact hQ))
/-- end: the state behind it -/
def f_end_M (M : md_S) (a : Int32) : md_S := if a < 0 then M else (if a ≤ (M.1 1) then (md_up1 M 1 a) else M)
/-- end: the answer -/
def f_end (M : md_S) (a : Int32) : Int32 := if a < 0 then (-1) else (if a ≤ (M.1 1) then a else (-1))
set_option maxHeartbeats 1000000 in
theorem vc109_0 {xs : List Int32} {mo : Nat} {ad : Nat → Nat} (hD : md_D mo ad) {h0 : am_H} {d : Nat} {Q : Option Value → md_S → Prop} {M : md_S} {a : Int32}
    (k1 : (a < 0) → Q (some (.int (-1))) M)
    (k2 : ¬ (a < 0) → (a ≤ (M.1 1)) → Q (some (.int a)) (md_up1 M 1 a))
    (k3 : ¬ (a < 0) → ¬ (a ≤ (M.1 1)) → Q (some (.int (-1))) M) :
    md_wp xs mo ad h0 d Q I109 0 [some (.ref mo), some (.int a)] [] M := by
  refine md_iload_n (dd D109_ok 0 rfl) rfl ?_
  refine md_if_lt (tgt := 12) (dd D109_ok 1 rfl) (by decide) (fun c1 => ?_) (fun c1 => ?_)
  · refine md_iconst (v := (-1)) (dd D109_ok 6 rfl) (by decide) ?_
    exact md_iret (dd D109_ok 7 rfl) rfl (k1 c1)
  · refine md_iload_n (dd D109_ok 2 rfl) rfl ?_
    refine md_aload0 (dd D109_ok 3 rfl) rfl ?_
    refine md_getI (dd D109_ok 4 rfl) pl9_142 (by decide) rfl ?_
    refine md_icmp_le (tgt := 14) (dd D109_ok 5 rfl) (by decide) (fun c2 => ?_) (fun c2 => ?_)
    · refine md_aload0 (dd D109_ok 8 rfl) rfl ?_
      refine md_iload_n (dd D109_ok 9 rfl) rfl ?_
      refine md_putI hD (dd D109_ok 10 rfl) pl9_142 (by decide) rfl rfl rfl ?_
      refine md_iload_n (dd D109_ok 11 rfl) rfl ?_
      exact md_iret (dd D109_ok 12 rfl) rfl (k2 c1 c2)
    · refine md_iconst (v := (-1)) (dd D109_ok 6 rfl) (by decide) ?_
      exact md_iret (dd D109_ok 7 rfl) rfl (k3 c1 c2)
theorem c_f_end {xs : List Int32} {mo : Nat} {ad : Nat → Nat} {d : Nat} {M : md_S} {a : Int32} (hD : md_D mo ad)  : ∀ Q', Q' (some (.int (f_end M a))) (f_end_M M a) → md_C xs mo ad (d + 1) 109 [.int a] M Q' :=
  fun Q' hQ => md_intro (ms109 xs) (Nat.le_of_ble_eq_true rfl) (fun h0 => vc109_0 hD (fun q0 => by rw [f_end, if_pos q0, f_end_M, if_pos q0] at hQ; exact hQ) (fun q0 q1 => by rw [f_end, if_neg q0, if_pos q1, f_end_M, if_neg q0, if_pos q1] at hQ; exact hQ) (fun q0 q1 => by rw [f_end, if_neg q0, if_neg q1, f_end_M, if_neg q0, if_neg q1] at hQ; exact hQ))
/-- words: the answer -/
def f_words (M : md_S) : Int32 := M.1 29
set_option maxHeartbeats 1000000 in
theorem vc148_0 {xs : List Int32} {mo : Nat} {ad : Nat → Nat} (hD : md_D mo ad) {h0 : am_H} {d : Nat} {Q : Option Value → md_S → Prop} {M : md_S} 
    (k1 : Q (some (.int (M.1 29))) M) :
    md_wp xs mo ad h0 d Q I148 0 [some (.ref mo)] [] M := by
  refine md_aload0 (dd D148_ok 0 rfl) rfl ?_
  refine md_getI (dd D148_ok 1 rfl) pl9_153 (by decide) rfl ?_
  exact md_iret (dd D148_ok 2 rfl) rfl k1
theorem c_f_words {xs : List Int32} {mo : Nat} {ad : Nat → Nat} {d : Nat} {M : md_S} (hD : md_D mo ad)  : ∀ Q', Q' (some (.int (f_words M ))) M → md_C xs mo ad (d + 1) 148 [] M Q' :=
  fun Q' hQ => md_intro (ms148 xs) (Nat.le_of_ble_eq_true rfl) (fun h0 => vc148_0 hD (hQ))
