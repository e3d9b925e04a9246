/-! the reference: feed, node, clear, text, set, box, word (by program and hand: wip/whole/gen/m7.py) -/
set_option maxHeartbeats 1000000 in
theorem vc108_0 {xs : List Int32} {mo : Nat} {ad : Nat → Nat} (hD : md_D mo ad) {h0 : am_H} {d : Nat} {Q : Option Value → md_S → Prop} {M : md_S} {x1 : Int32}
    (k : md_wp xs mo ad h0 d Q I108 3 [some (.ref mo), some (.int x1), some (.int 24)] [] M) :
    md_wp xs mo ad h0 d Q I108 0 [some (.ref mo), some (.int x1), none] [] M := by
  refine md_bipush (v := 24) (dd D108_ok 0 rfl) (by decide) ?_
  refine md_istore_n (dd D108_ok 1 rfl) (Nat.le_of_ble_eq_true rfl) ?_
  exact k
set_option maxHeartbeats 1000000 in
theorem vc108_3 {xs : List Int32} {mo : Nat} {ad : Nat → Nat} (hD : md_D mo ad) {h0 : am_H} {d : Nat} {Q : Option Value → md_S → Prop} {M : md_S} {x1 : Int32} {x2 : Int32}
    (k : ((x2 < 0) → Q none M) ∧ (¬ (x2 < 0) → (vp_in (M.1 1) 400) ∧ (md_wp xs mo ad h0 d Q I108 3 [some (.ref mo), some (.int x1), some (.int (x2 + (-8)))] [] (md_up1 (md_up2 M 0 (M.1 1).toNatClampNeg ((x1 >>> (x2 &&& 31)).toInt8.toInt32).toInt8.toInt32) 1 (((md_up2 M 0 (M.1 1).toNatClampNeg ((x1 >>> (x2 &&& 31)).toInt8.toInt32).toInt8.toInt32).1 1) + 1))))) :
    md_wp xs mo ad h0 d Q I108 3 [some (.ref mo), some (.int x1), some (.int x2)] [] M := by
  refine md_iload_n (dd D108_ok 2 rfl) rfl ?_
  refine md_if_lt (tgt := 36) (dd D108_ok 3 rfl) (by decide) (fun c1 => ?_) (fun c1 => ?_)
  · exact md_vret (dd D108_ok 21 rfl) rfl (k.1 c1)
  · refine md_aload0 (dd D108_ok 4 rfl) rfl ?_
    refine md_getA (dd D108_ok 5 rfl) pl9_7 (by decide) rfl ?_
    refine md_aload0 (dd D108_ok 6 rfl) rfl ?_
    refine md_getI (dd D108_ok 7 rfl) pl9_142 (by decide) rfl ?_
    refine md_iload_n (dd D108_ok 8 rfl) rfl ?_
    refine md_iload_n (dd D108_ok 9 rfl) rfl ?_
    refine md_ishr (dd D108_ok 10 rfl) ?_
    refine md_i2b (dd D108_ok 11 rfl) ?_
    refine md_bast (f := 0) hD (dd D108_ok 12 rfl) rfl (k.2 c1).1 ?_
    refine md_aload0 (dd D108_ok 13 rfl) rfl ?_
    refine md_dup (dd D108_ok 14 rfl) ?_
    refine md_getI (dd D108_ok 15 rfl) pl9_142 (by decide) rfl ?_
    refine md_iconst (v := 1) (dd D108_ok 16 rfl) (by decide) ?_
    refine md_iadd (dd D108_ok 17 rfl) ?_
    refine md_putI hD (dd D108_ok 18 rfl) pl9_142 (by decide) rfl rfl rfl ?_
    refine md_iinc (v := x2 + (-8)) (dd D108_ok 19 rfl) rfl rfl ?_
    refine md_goto (tgt := 3) (dd D108_ok 20 rfl) (by decide) ?_
    exact (k.2 c1).2
/-- one of four bytes -/
def f_byte (v k : Int32) : Int32 := ((v >>> (k &&& 31)).toInt8.toInt32).toInt8.toInt32
def f_pf1 (M : md_S) (t : Nat) (b : Int32) : md_S := md_up1 (md_up2 M 0 t b) 1 (nI (t + 1))
def f_pf (M : md_S) (t : Nat) (v : Int32) : md_S := f_pf1 (f_pf1 (f_pf1 (f_pf1 M t (f_byte v 24)) (t + 1) (f_byte v 16)) (t + 2) (f_byte v 8)) (t + 3) (f_byte v 0)
theorem c_pf1 {xs : List Int32} {mo : Nat} {ad : Nat → Nat} (hD : md_D mo ad) {h0 : am_H} {d : Nat} {Q : Option Value → md_S → Prop} {M : md_S} {v k k' : Int32} {t : Nat} (ht : M.1 1 = nI t) (h4 : t < 400) (hk : ¬ k < 0) (hk' : k + (-8) = k')
    (hn : (f_pf1 M t (f_byte v k)).1 1 = nI (t + 1) → md_wp xs mo ad h0 d Q I108 3 [some (.ref mo), some (.int v), some (.int k')] [] (f_pf1 M t (f_byte v k))) : md_wp xs mo ad h0 d Q I108 3 [some (.ref mo), some (.int v), some (.int k)] [] M := by
  have hn := hn (md_up1_at _ _ _)
  subst hk'
  refine vc108_3 hD ⟨fun q => absurd q hk, fun _ => ⟨by rw [ht]; exact vp_nI h4 (by decide), ?_⟩⟩
  rw [md_up2_1, ht, nI_clamp (by omega), nI_1]
  exact hn
theorem c_putFour {xs : List Int32} {mo : Nat} {ad : Nat → Nat} {d : Nat} {M : md_S} {v : Int32} {t : Nat} (hD : md_D mo ad) (ht : M.1 1 = nI t) (h4 : t + 4 ≤ 400) : ∀ Q', Q' none (f_pf M t v) → md_C xs mo ad (d + 1) 108 [.int v] M Q' := by
  intro Q' hQ
  refine md_intro (ms108 xs) (Nat.le_of_ble_eq_true rfl) (fun h0 => vc108_0 hD ?_)
  refine c_pf1 hD ht (by omega) (by decide) (show (24 : Int32) + (-8) = 16 by decide) (fun e => ?_)
  refine c_pf1 hD e (by omega) (by decide) (show (16 : Int32) + (-8) = 8 by decide) (fun e => ?_)
  refine c_pf1 hD e (by omega) (by decide) (show (8 : Int32) + (-8) = 0 by decide) (fun e => ?_)
  refine c_pf1 hD e (by omega) (by decide) (show (0 : Int32) + (-8) = -8 by decide) (fun e => ?_)
  exact vc108_3 hD ⟨fun _ => hQ, fun q => absurd (by decide) q⟩
theorem f_pf_t (M : md_S) (t : Nat) (v : Int32) : (f_pf M t v).1 1 = nI (t + 4) := md_up1_at _ _ _
set_option maxHeartbeats 1000000 in
theorem vc107_0 {xs : List Int32} {mo : Nat} {ad : Nat → Nat} (hD : md_D mo ad) {h0 : am_H} {d : Nat} {Q : Option Value → md_S → Prop} {M : md_S} {x1 : Int32} {x2 : Int32} {x3 : Int32} {x4 : Int32} {x5 : Int32}
    (k : ((((M.1 1) + 20) ≤ 400) → md_C xs mo ad (d + 1) 108 [.int x1] M (fun v N1 => v = none ∧ (md_C xs mo ad (d + 1) 108 [.int x2] N1 (fun v N2 => v = none ∧ (md_C xs mo ad (d + 1) 108 [.int x3] N2 (fun v N3 => v = none ∧ (md_C xs mo ad (d + 1) 108 [.int x4] N3 (fun v N4 => v = none ∧ (md_C xs mo ad (d + 1) 108 [.int x5] N4 (fun v N5 => v = none ∧ (Q (some (.int (N5.1 1))) N5))))))))))) ∧ (¬ (((M.1 1) + 20) ≤ 400) → Q (some (.int (-1))) M)) :
    md_wp xs mo ad h0 (d + 1) Q I107 0 [some (.ref mo), some (.int x1), some (.int x2), some (.int x3), some (.int x4), some (.int x5)] [] M := by
  refine md_aload0 (dd D107_ok 0 rfl) rfl ?_
  refine md_getI (dd D107_ok 1 rfl) pl9_142 (by decide) rfl ?_
  refine md_bipush (v := 20) (dd D107_ok 2 rfl) (by decide) ?_
  refine md_iadd (dd D107_ok 3 rfl) ?_
  refine md_sipush (v := 400) (dd D107_ok 4 rfl) (by decide) ?_
  refine md_icmp_le (tgt := 15) (dd D107_ok 5 rfl) (by decide) (fun c1 => ?_) (fun c1 => ?_)
  · refine md_aload0 (dd D107_ok 8 rfl) rfl ?_
    refine md_iload_n (dd D107_ok 9 rfl) rfl ?_
    refine md_call (as := [.int x1]) (rest := []) (dd D107_ok 10 rfl) pl9_145 rfl (Nat.le_of_ble_eq_true rfl) (ms108 xs) rfl (((k.1 c1)).mono ?_) rfl
    rintro v N1 ⟨rfl, w1⟩
    refine md_aload0 (dd D107_ok 11 rfl) rfl ?_
    refine md_iload_n (dd D107_ok 12 rfl) rfl ?_
    refine md_call (as := [.int x2]) (rest := []) (dd D107_ok 13 rfl) pl9_145 rfl (Nat.le_of_ble_eq_true rfl) (ms108 xs) rfl ((w1).mono ?_) rfl
    rintro v N2 ⟨rfl, w2⟩
    refine md_aload0 (dd D107_ok 14 rfl) rfl ?_
    refine md_iload_n (dd D107_ok 15 rfl) rfl ?_
    refine md_call (as := [.int x3]) (rest := []) (dd D107_ok 16 rfl) pl9_145 rfl (Nat.le_of_ble_eq_true rfl) (ms108 xs) rfl ((w2).mono ?_) rfl
    rintro v N3 ⟨rfl, w3⟩
    refine md_aload0 (dd D107_ok 17 rfl) rfl ?_
    refine md_iload (dd D107_ok 18 rfl) rfl ?_
    refine md_call (as := [.int x4]) (rest := []) (dd D107_ok 19 rfl) pl9_145 rfl (Nat.le_of_ble_eq_true rfl) (ms108 xs) rfl ((w3).mono ?_) rfl
    rintro v N4 ⟨rfl, w4⟩
    refine md_aload0 (dd D107_ok 20 rfl) rfl ?_
    refine md_iload (dd D107_ok 21 rfl) rfl ?_
    refine md_call (as := [.int x5]) (rest := []) (dd D107_ok 22 rfl) pl9_145 rfl (Nat.le_of_ble_eq_true rfl) (ms108 xs) rfl ((w4).mono ?_) rfl
    rintro v N5 ⟨rfl, w5⟩
    refine md_aload0 (dd D107_ok 23 rfl) rfl ?_
    refine md_getI (dd D107_ok 24 rfl) pl9_142 (by decide) rfl ?_
    exact md_iret (dd D107_ok 25 rfl) rfl w5
  · refine md_iconst (v := (-1)) (dd D107_ok 6 rfl) (by decide) ?_
    exact md_iret (dd D107_ok 7 rfl) rfl (k.2 c1)
def f_feed_M (M : md_S) (t : Nat) (a b c e f : Int32) : md_S := f_pf (f_pf (f_pf (f_pf (f_pf M t a) (t + 4) b) (t + 8) c) (t + 12) e) (t + 16) f
theorem c_feed {xs : List Int32} {mo : Nat} {ad : Nat → Nat} {d : Nat} {M : md_S} {a b c e f : Int32} {t : Nat} (hD : md_D mo ad) (ht : M.1 1 = nI t) (h4 : t ≤ 400) : ∀ Q', Q' (some (.int (if t ≤ 380 then nI (t + 20) else -1))) (if t ≤ 380 then f_feed_M M t a b c e f else M) → md_C xs mo ad (d + 2) 107 [.int a, .int b, .int c, .int e, .int f] M Q' := by
  intro Q' hQ
  refine md_intro (ms107 xs) (Nat.le_of_ble_eq_true rfl) (fun h0 => vc107_0 hD ?_)
  have hc : M.1 1 + 20 ≤ 400 ↔ t ≤ 380 := by
    rw [ht, show (20 : Int32) = nI 20 from rfl, show (400 : Int32) = nI 400 from rfl, nI_add, nI_leI (by omega) (by omega)]
    omega
  rw [hc]
  refine ⟨fun q => ?_, fun q => ?_⟩
  · rw [if_pos q, if_pos q] at hQ
    refine c_putFour hD ht (by omega) _ ⟨rfl, ?_⟩
    refine c_putFour hD (f_pf_t _ _ _) (by omega) _ ⟨rfl, ?_⟩
    refine c_putFour hD (f_pf_t _ _ _) (by omega) _ ⟨rfl, ?_⟩
    refine c_putFour hD (f_pf_t _ _ _) (by omega) _ ⟨rfl, ?_⟩
    refine c_putFour hD (f_pf_t _ _ _) (by omega) _ ⟨rfl, ?_⟩
    rw [f_pf_t]
    exact hQ
  · rw [if_neg q, if_neg q] at hQ
    exact hQ
set_option maxHeartbeats 1000000 in
theorem vc106_0 {xs : List Int32} {mo : Nat} {ad : Nat → Nat} (hD : md_D mo ad) {h0 : am_H} {d : Nat} {Q : Option Value → md_S → Prop} {M : md_S} {x1 : Int32} {x2 : Int32} {x3 : Int32}
    (k : (vp_in x1 60) ∧ (∀ M1 : md_S, M1 = md_up2 M 3 x1.toNatClampNeg x3 → (∀ M2 : md_S, M2 = md_up2 M1 4 x1.toNatClampNeg x2 → (∀ M3 : md_S, M3 = md_up2 M2 5 x1.toNatClampNeg (-1) → (∀ M4 : md_S, M4 = md_up2 M3 6 x1.toNatClampNeg (-1) → (∀ M5 : md_S, M5 = md_up2 M4 7 x1.toNatClampNeg (-1) → (((¬ x2 = (-1)) → (vp_in x2 60) ∧ (∀ M6 : md_S, M6 = md_up2 M5 8 x1.toNatClampNeg ((M5.2 8 x2.toNatClampNeg) + 1) → (∀ M7 : md_S, M7 = md_up2 M6 11 x1.toNatClampNeg 0 → (md_wp xs mo ad h0 d Q I106 68 [some (.ref mo), some (.int x1), some (.int x2), some (.int x3), some (.int 0)] [] M7)))) ∧ (¬ (¬ x2 = (-1)) → ∀ M8 : md_S, M8 = md_up2 M5 8 x1.toNatClampNeg 0 → (∀ M9 : md_S, M9 = md_up2 M8 11 x1.toNatClampNeg 0 → (md_wp xs mo ad h0 d Q I106 68 [some (.ref mo), some (.int x1), some (.int x2), some (.int x3), some (.int 0)] [] M9)))))))))) :
    md_wp xs mo ad h0 d Q I106 0 [some (.ref mo), some (.int x1), some (.int x2), some (.int x3), none] [] M := by
  refine md_aload0 (dd D106_ok 0 rfl) rfl ?_
  refine md_getA (dd D106_ok 1 rfl) pl9_17 (by decide) rfl ?_
  refine md_iload_n (dd D106_ok 2 rfl) rfl ?_
  refine md_iload_n (dd D106_ok 3 rfl) rfl ?_
  refine md_iast (f := 3) hD (dd D106_ok 4 rfl) rfl k.1 ?_
  refine md_nm (fun M1 e1 => ?_)
  refine md_aload0 (dd D106_ok 5 rfl) rfl ?_
  refine md_getA (dd D106_ok 6 rfl) pl9_21 (by decide) rfl ?_
  refine md_iload_n (dd D106_ok 7 rfl) rfl ?_
  refine md_iload_n (dd D106_ok 8 rfl) rfl ?_
  refine md_iast (f := 4) hD (dd D106_ok 9 rfl) rfl k.1 ?_
  refine md_nm (fun M2 e2 => ?_)
  refine md_aload0 (dd D106_ok 10 rfl) rfl ?_
  refine md_getA (dd D106_ok 11 rfl) pl9_24 (by decide) rfl ?_
  refine md_iload_n (dd D106_ok 12 rfl) rfl ?_
  refine md_iconst (v := (-1)) (dd D106_ok 13 rfl) (by decide) ?_
  refine md_iast (f := 5) hD (dd D106_ok 14 rfl) rfl k.1 ?_
  refine md_nm (fun M3 e3 => ?_)
  refine md_aload0 (dd D106_ok 15 rfl) rfl ?_
  refine md_getA (dd D106_ok 16 rfl) pl9_27 (by decide) rfl ?_
  refine md_iload_n (dd D106_ok 17 rfl) rfl ?_
  refine md_iconst (v := (-1)) (dd D106_ok 18 rfl) (by decide) ?_
  refine md_iast (f := 6) hD (dd D106_ok 19 rfl) rfl k.1 ?_
  refine md_nm (fun M4 e4 => ?_)
  refine md_aload0 (dd D106_ok 20 rfl) rfl ?_
  refine md_getA (dd D106_ok 21 rfl) pl9_30 (by decide) rfl ?_
  refine md_iload_n (dd D106_ok 22 rfl) rfl ?_
  refine md_iconst (v := (-1)) (dd D106_ok 23 rfl) (by decide) ?_
  refine md_iast (f := 7) hD (dd D106_ok 24 rfl) rfl k.1 ?_
  refine md_nm (fun M5 e5 => ?_)
  refine md_aload0 (dd D106_ok 25 rfl) rfl ?_
  refine md_getA (dd D106_ok 26 rfl) pl9_33 (by decide) rfl ?_
  refine md_iload_n (dd D106_ok 27 rfl) rfl ?_
  refine md_iload_n (dd D106_ok 28 rfl) rfl ?_
  refine md_iconst (v := (-1)) (dd D106_ok 29 rfl) (by decide) ?_
  refine md_icmp_ne (tgt := 49) (dd D106_ok 30 rfl) (by decide) (fun c1 => ?_) (fun c1 => ?_)
  · refine md_aload0 (dd D106_ok 33 rfl) rfl ?_
    refine md_getA (dd D106_ok 34 rfl) pl9_33 (by decide) rfl ?_
    refine md_iload_n (dd D106_ok 35 rfl) rfl ?_
    refine md_iald (f := 8) (dd D106_ok 36 rfl) rfl ((((((k.2 M1 e1) M2 e2) M3 e3) M4 e4) M5 e5).1 c1).1 ?_
    refine md_iconst (v := 1) (dd D106_ok 37 rfl) (by decide) ?_
    refine md_iadd (dd D106_ok 38 rfl) ?_
    refine md_iast (f := 8) hD (dd D106_ok 39 rfl) rfl k.1 ?_
    refine md_nm (fun M6 e6 => ?_)
    refine md_aload0 (dd D106_ok 40 rfl) rfl ?_
    refine md_getA (dd D106_ok 41 rfl) pl9_42 (by decide) rfl ?_
    refine md_iload_n (dd D106_ok 42 rfl) rfl ?_
    refine md_iconst (v := 0) (dd D106_ok 43 rfl) (by decide) ?_
    refine md_iast (f := 11) hD (dd D106_ok 44 rfl) rfl k.1 ?_
    refine md_nm (fun M7 e7 => ?_)
    refine md_iconst (v := 0) (dd D106_ok 45 rfl) (by decide) ?_
    refine md_istore (dd D106_ok 46 rfl) (Nat.le_of_ble_eq_true rfl) ?_
    exact ((((((((k.2 M1 e1) M2 e2) M3 e3) M4 e4) M5 e5).1 c1).2 M6 e6) M7 e7)
  · refine md_iconst (v := 0) (dd D106_ok 31 rfl) (by decide) ?_
    refine md_goto (tgt := 57) (dd D106_ok 32 rfl) (by decide) ?_
    refine md_iast (f := 8) hD (dd D106_ok 39 rfl) rfl k.1 ?_
    refine md_nm (fun M8 e8 => ?_)
    refine md_aload0 (dd D106_ok 40 rfl) rfl ?_
    refine md_getA (dd D106_ok 41 rfl) pl9_42 (by decide) rfl ?_
    refine md_iload_n (dd D106_ok 42 rfl) rfl ?_
    refine md_iconst (v := 0) (dd D106_ok 43 rfl) (by decide) ?_
    refine md_iast (f := 11) hD (dd D106_ok 44 rfl) rfl k.1 ?_
    refine md_nm (fun M9 e9 => ?_)
    refine md_iconst (v := 0) (dd D106_ok 45 rfl) (by decide) ?_
    refine md_istore (dd D106_ok 46 rfl) (Nat.le_of_ble_eq_true rfl) ?_
    exact ((((((((k.2 M1 e1) M2 e2) M3 e3) M4 e4) M5 e5).2 c1) M8 e8) M9 e9)
set_option maxHeartbeats 1000000 in
theorem vc106_68 {xs : List Int32} {mo : Nat} {ad : Nat → Nat} (hD : md_D mo ad) {h0 : am_H} {d : Nat} {Q : Option Value → md_S → Prop} {M : md_S} {x1 : Int32} {x2 : Int32} {x3 : Int32} {x4 : Int32}
    (k : ((9 ≤ x4) → ((¬ x3 = 0) → (vp_in (9 * x1) 540) ∧ (∀ M1 : md_S, M1 = md_up2 M 9 (9 * x1).toNatClampNeg 1 → ((vp_in ((9 * x1) + 2) 540) ∧ (∀ M2 : md_S, M2 = md_up2 M1 9 ((9 * x1) + 2).toNatClampNeg (-1) → ((vp_in ((9 * x1) + 3) 540) ∧ (∀ M3 : md_S, M3 = md_up2 M2 9 ((9 * x1) + 3).toNatClampNeg (-1) → ((vp_in ((9 * x1) + 8) 540) ∧ (∀ M4 : md_S, M4 = md_up2 M3 9 ((9 * x1) + 8).toNatClampNeg 1 → (((¬ x2 = (-1)) → (vp_in x2 60) ∧ (((¬ (M4.2 6 x2.toNatClampNeg) = (-1)) → (vp_in (M4.2 6 x2.toNatClampNeg) 60) ∧ (∀ M5 : md_S, M5 = md_up2 M4 7 (M4.2 6 x2.toNatClampNeg).toNatClampNeg x1 → (∀ M6 : md_S, M6 = md_up2 M5 6 x2.toNatClampNeg x1 → (Q none M6)))) ∧ (¬ (¬ (M4.2 6 x2.toNatClampNeg) = (-1)) → ∀ M7 : md_S, M7 = md_up2 M4 5 x2.toNatClampNeg x1 → (∀ M8 : md_S, M8 = md_up2 M7 6 x2.toNatClampNeg x1 → (Q none M8))))) ∧ (¬ (¬ x2 = (-1)) → Q none M4)))))))))) ∧ (¬ (¬ x3 = 0) → (vp_in (9 * x1) 540) ∧ (∀ M9 : md_S, M9 = md_up2 M 9 (9 * x1).toNatClampNeg 0 → ((vp_in ((9 * x1) + 2) 540) ∧ (∀ M10 : md_S, M10 = md_up2 M9 9 ((9 * x1) + 2).toNatClampNeg (-1) → ((vp_in ((9 * x1) + 3) 540) ∧ (∀ M11 : md_S, M11 = md_up2 M10 9 ((9 * x1) + 3).toNatClampNeg (-1) → ((vp_in ((9 * x1) + 8) 540) ∧ (∀ M12 : md_S, M12 = md_up2 M11 9 ((9 * x1) + 8).toNatClampNeg 1 → (((¬ x2 = (-1)) → (vp_in x2 60) ∧ (((¬ (M12.2 6 x2.toNatClampNeg) = (-1)) → (vp_in (M12.2 6 x2.toNatClampNeg) 60) ∧ (∀ M13 : md_S, M13 = md_up2 M12 7 (M12.2 6 x2.toNatClampNeg).toNatClampNeg x1 → (∀ M14 : md_S, M14 = md_up2 M13 6 x2.toNatClampNeg x1 → (Q none M14)))) ∧ (¬ (¬ (M12.2 6 x2.toNatClampNeg) = (-1)) → ∀ M15 : md_S, M15 = md_up2 M12 5 x2.toNatClampNeg x1 → (∀ M16 : md_S, M16 = md_up2 M15 6 x2.toNatClampNeg x1 → (Q none M16))))) ∧ (¬ (¬ x2 = (-1)) → Q none M12))))))))))) ∧ (¬ (9 ≤ x4) → (vp_in ((9 * x1) + x4) 540) ∧ (∀ M17 : md_S, M17 = md_up2 M 9 ((9 * x1) + x4).toNatClampNeg 0 → (md_wp xs mo ad h0 d Q I106 68 [some (.ref mo), some (.int x1), some (.int x2), some (.int x3), some (.int (x4 + 1))] [] M17)))) :
    md_wp xs mo ad h0 d Q I106 68 [some (.ref mo), some (.int x1), some (.int x2), some (.int x3), some (.int x4)] [] M := by
  refine md_iload (dd D106_ok 47 rfl) rfl ?_
  refine md_bipush (v := 9) (dd D106_ok 48 rfl) (by decide) ?_
  refine md_icmp_ge (tgt := 94) (dd D106_ok 49 rfl) (by decide) (fun c1 => ?_) (fun c1 => ?_)
  · refine md_aload0 (dd D106_ok 61 rfl) rfl ?_
    refine md_getA (dd D106_ok 62 rfl) pl9_36 (by decide) rfl ?_
    refine md_bipush (v := 9) (dd D106_ok 63 rfl) (by decide) ?_
    refine md_iload_n (dd D106_ok 64 rfl) rfl ?_
    refine md_imul (dd D106_ok 65 rfl) ?_
    refine md_iload_n (dd D106_ok 66 rfl) rfl ?_
    refine md_if_ne (tgt := 110) (dd D106_ok 67 rfl) (by decide) (fun c2 => ?_) (fun c2 => ?_)
    · refine md_iconst (v := 1) (dd D106_ok 70 rfl) (by decide) ?_
      refine md_iast (f := 9) hD (dd D106_ok 71 rfl) rfl ((k.1 c1).1 c2).1 ?_
      refine md_nm (fun M1 e1 => ?_)
      refine md_aload0 (dd D106_ok 72 rfl) rfl ?_
      refine md_getA (dd D106_ok 73 rfl) pl9_36 (by decide) rfl ?_
      refine md_bipush (v := 9) (dd D106_ok 74 rfl) (by decide) ?_
      refine md_iload_n (dd D106_ok 75 rfl) rfl ?_
      refine md_imul (dd D106_ok 76 rfl) ?_
      refine md_iconst (v := 2) (dd D106_ok 77 rfl) (by decide) ?_
      refine md_iadd (dd D106_ok 78 rfl) ?_
      refine md_iconst (v := (-1)) (dd D106_ok 79 rfl) (by decide) ?_
      refine md_iast (f := 9) hD (dd D106_ok 80 rfl) rfl (((k.1 c1).1 c2).2 M1 e1).1 ?_
      refine md_nm (fun M2 e2 => ?_)
      refine md_aload0 (dd D106_ok 81 rfl) rfl ?_
      refine md_getA (dd D106_ok 82 rfl) pl9_36 (by decide) rfl ?_
      refine md_bipush (v := 9) (dd D106_ok 83 rfl) (by decide) ?_
      refine md_iload_n (dd D106_ok 84 rfl) rfl ?_
      refine md_imul (dd D106_ok 85 rfl) ?_
      refine md_iconst (v := 3) (dd D106_ok 86 rfl) (by decide) ?_
      refine md_iadd (dd D106_ok 87 rfl) ?_
      refine md_iconst (v := (-1)) (dd D106_ok 88 rfl) (by decide) ?_
      refine md_iast (f := 9) hD (dd D106_ok 89 rfl) rfl ((((k.1 c1).1 c2).2 M1 e1).2 M2 e2).1 ?_
      refine md_nm (fun M3 e3 => ?_)
      refine md_aload0 (dd D106_ok 90 rfl) rfl ?_
      refine md_getA (dd D106_ok 91 rfl) pl9_36 (by decide) rfl ?_
      refine md_bipush (v := 9) (dd D106_ok 92 rfl) (by decide) ?_
      refine md_iload_n (dd D106_ok 93 rfl) rfl ?_
      refine md_imul (dd D106_ok 94 rfl) ?_
      refine md_bipush (v := 8) (dd D106_ok 95 rfl) (by decide) ?_
      refine md_iadd (dd D106_ok 96 rfl) ?_
      refine md_iconst (v := 1) (dd D106_ok 97 rfl) (by decide) ?_
      refine md_iast (f := 9) hD (dd D106_ok 98 rfl) rfl (((((k.1 c1).1 c2).2 M1 e1).2 M2 e2).2 M3 e3).1 ?_
      refine md_nm (fun M4 e4 => ?_)
      refine md_iload_n (dd D106_ok 99 rfl) rfl ?_
      refine md_iconst (v := (-1)) (dd D106_ok 100 rfl) (by decide) ?_
      refine md_icmp_ne (tgt := 155) (dd D106_ok 101 rfl) (by decide) (fun c3 => ?_) (fun c3 => ?_)
      · refine md_aload0 (dd D106_ok 103 rfl) rfl ?_
        refine md_getA (dd D106_ok 104 rfl) pl9_27 (by decide) rfl ?_
        refine md_iload_n (dd D106_ok 105 rfl) rfl ?_
        refine md_iald (f := 6) (dd D106_ok 106 rfl) rfl (((((((k.1 c1).1 c2).2 M1 e1).2 M2 e2).2 M3 e3).2 M4 e4).1 c3).1 ?_
        refine md_iconst (v := (-1)) (dd D106_ok 107 rfl) (by decide) ?_
        refine md_icmp_ne (tgt := 175) (dd D106_ok 108 rfl) (by decide) (fun c4 => ?_) (fun c4 => ?_)
        · refine md_aload0 (dd D106_ok 115 rfl) rfl ?_
          refine md_getA (dd D106_ok 116 rfl) pl9_30 (by decide) rfl ?_
          refine md_aload0 (dd D106_ok 117 rfl) rfl ?_
          refine md_getA (dd D106_ok 118 rfl) pl9_27 (by decide) rfl ?_
          refine md_iload_n (dd D106_ok 119 rfl) rfl ?_
          refine md_iald (f := 6) (dd D106_ok 120 rfl) rfl (((((((k.1 c1).1 c2).2 M1 e1).2 M2 e2).2 M3 e3).2 M4 e4).1 c3).1 ?_
          refine md_iload_n (dd D106_ok 121 rfl) rfl ?_
          refine md_iast (f := 7) hD (dd D106_ok 122 rfl) rfl ((((((((k.1 c1).1 c2).2 M1 e1).2 M2 e2).2 M3 e3).2 M4 e4).1 c3).2.1 c4).1 ?_
          refine md_nm (fun M5 e5 => ?_)
          refine md_aload0 (dd D106_ok 123 rfl) rfl ?_
          refine md_getA (dd D106_ok 124 rfl) pl9_27 (by decide) rfl ?_
          refine md_iload_n (dd D106_ok 125 rfl) rfl ?_
          refine md_iload_n (dd D106_ok 126 rfl) rfl ?_
          refine md_iast (f := 6) hD (dd D106_ok 127 rfl) rfl (((((((k.1 c1).1 c2).2 M1 e1).2 M2 e2).2 M3 e3).2 M4 e4).1 c3).1 ?_
          refine md_nm (fun M6 e6 => ?_)
          exact md_vret (dd D106_ok 128 rfl) rfl ((((((((((k.1 c1).1 c2).2 M1 e1).2 M2 e2).2 M3 e3).2 M4 e4).1 c3).2.1 c4).2 M5 e5) M6 e6)
        · refine md_aload0 (dd D106_ok 109 rfl) rfl ?_
          refine md_getA (dd D106_ok 110 rfl) pl9_24 (by decide) rfl ?_
          refine md_iload_n (dd D106_ok 111 rfl) rfl ?_
          refine md_iload_n (dd D106_ok 112 rfl) rfl ?_
          refine md_iast (f := 5) hD (dd D106_ok 113 rfl) rfl (((((((k.1 c1).1 c2).2 M1 e1).2 M2 e2).2 M3 e3).2 M4 e4).1 c3).1 ?_
          refine md_nm (fun M7 e7 => ?_)
          refine md_goto (tgt := 187) (dd D106_ok 114 rfl) (by decide) ?_
          refine md_aload0 (dd D106_ok 123 rfl) rfl ?_
          refine md_getA (dd D106_ok 124 rfl) pl9_27 (by decide) rfl ?_
          refine md_iload_n (dd D106_ok 125 rfl) rfl ?_
          refine md_iload_n (dd D106_ok 126 rfl) rfl ?_
          refine md_iast (f := 6) hD (dd D106_ok 127 rfl) rfl (((((((k.1 c1).1 c2).2 M1 e1).2 M2 e2).2 M3 e3).2 M4 e4).1 c3).1 ?_
          refine md_nm (fun M8 e8 => ?_)
          exact md_vret (dd D106_ok 128 rfl) rfl ((((((((((k.1 c1).1 c2).2 M1 e1).2 M2 e2).2 M3 e3).2 M4 e4).1 c3).2.2 c4) M7 e7) M8 e8)
      · exact md_vret (dd D106_ok 102 rfl) rfl (((((((k.1 c1).1 c2).2 M1 e1).2 M2 e2).2 M3 e3).2 M4 e4).2 c3)
    · refine md_iconst (v := 0) (dd D106_ok 68 rfl) (by decide) ?_
      refine md_goto (tgt := 111) (dd D106_ok 69 rfl) (by decide) ?_
      refine md_iast (f := 9) hD (dd D106_ok 71 rfl) rfl ((k.1 c1).2 c2).1 ?_
      refine md_nm (fun M9 e9 => ?_)
      refine md_aload0 (dd D106_ok 72 rfl) rfl ?_
      refine md_getA (dd D106_ok 73 rfl) pl9_36 (by decide) rfl ?_
      refine md_bipush (v := 9) (dd D106_ok 74 rfl) (by decide) ?_
      refine md_iload_n (dd D106_ok 75 rfl) rfl ?_
      refine md_imul (dd D106_ok 76 rfl) ?_
      refine md_iconst (v := 2) (dd D106_ok 77 rfl) (by decide) ?_
      refine md_iadd (dd D106_ok 78 rfl) ?_
      refine md_iconst (v := (-1)) (dd D106_ok 79 rfl) (by decide) ?_
      refine md_iast (f := 9) hD (dd D106_ok 80 rfl) rfl (((k.1 c1).2 c2).2 M9 e9).1 ?_
      refine md_nm (fun M10 e10 => ?_)
      refine md_aload0 (dd D106_ok 81 rfl) rfl ?_
      refine md_getA (dd D106_ok 82 rfl) pl9_36 (by decide) rfl ?_
      refine md_bipush (v := 9) (dd D106_ok 83 rfl) (by decide) ?_
      refine md_iload_n (dd D106_ok 84 rfl) rfl ?_
      refine md_imul (dd D106_ok 85 rfl) ?_
      refine md_iconst (v := 3) (dd D106_ok 86 rfl) (by decide) ?_
      refine md_iadd (dd D106_ok 87 rfl) ?_
      refine md_iconst (v := (-1)) (dd D106_ok 88 rfl) (by decide) ?_
      refine md_iast (f := 9) hD (dd D106_ok 89 rfl) rfl ((((k.1 c1).2 c2).2 M9 e9).2 M10 e10).1 ?_
      refine md_nm (fun M11 e11 => ?_)
      refine md_aload0 (dd D106_ok 90 rfl) rfl ?_
      refine md_getA (dd D106_ok 91 rfl) pl9_36 (by decide) rfl ?_
      refine md_bipush (v := 9) (dd D106_ok 92 rfl) (by decide) ?_
      refine md_iload_n (dd D106_ok 93 rfl) rfl ?_
      refine md_imul (dd D106_ok 94 rfl) ?_
      refine md_bipush (v := 8) (dd D106_ok 95 rfl) (by decide) ?_
      refine md_iadd (dd D106_ok 96 rfl) ?_
      refine md_iconst (v := 1) (dd D106_ok 97 rfl) (by decide) ?_
      refine md_iast (f := 9) hD (dd D106_ok 98 rfl) rfl (((((k.1 c1).2 c2).2 M9 e9).2 M10 e10).2 M11 e11).1 ?_
      refine md_nm (fun M12 e12 => ?_)
      refine md_iload_n (dd D106_ok 99 rfl) rfl ?_
      refine md_iconst (v := (-1)) (dd D106_ok 100 rfl) (by decide) ?_
      refine md_icmp_ne (tgt := 155) (dd D106_ok 101 rfl) (by decide) (fun c5 => ?_) (fun c5 => ?_)
      · refine md_aload0 (dd D106_ok 103 rfl) rfl ?_
        refine md_getA (dd D106_ok 104 rfl) pl9_27 (by decide) rfl ?_
        refine md_iload_n (dd D106_ok 105 rfl) rfl ?_
        refine md_iald (f := 6) (dd D106_ok 106 rfl) rfl (((((((k.1 c1).2 c2).2 M9 e9).2 M10 e10).2 M11 e11).2 M12 e12).1 c5).1 ?_
        refine md_iconst (v := (-1)) (dd D106_ok 107 rfl) (by decide) ?_
        refine md_icmp_ne (tgt := 175) (dd D106_ok 108 rfl) (by decide) (fun c6 => ?_) (fun c6 => ?_)
        · refine md_aload0 (dd D106_ok 115 rfl) rfl ?_
          refine md_getA (dd D106_ok 116 rfl) pl9_30 (by decide) rfl ?_
          refine md_aload0 (dd D106_ok 117 rfl) rfl ?_
          refine md_getA (dd D106_ok 118 rfl) pl9_27 (by decide) rfl ?_
          refine md_iload_n (dd D106_ok 119 rfl) rfl ?_
          refine md_iald (f := 6) (dd D106_ok 120 rfl) rfl (((((((k.1 c1).2 c2).2 M9 e9).2 M10 e10).2 M11 e11).2 M12 e12).1 c5).1 ?_
          refine md_iload_n (dd D106_ok 121 rfl) rfl ?_
          refine md_iast (f := 7) hD (dd D106_ok 122 rfl) rfl ((((((((k.1 c1).2 c2).2 M9 e9).2 M10 e10).2 M11 e11).2 M12 e12).1 c5).2.1 c6).1 ?_
          refine md_nm (fun M13 e13 => ?_)
          refine md_aload0 (dd D106_ok 123 rfl) rfl ?_
          refine md_getA (dd D106_ok 124 rfl) pl9_27 (by decide) rfl ?_
          refine md_iload_n (dd D106_ok 125 rfl) rfl ?_
          refine md_iload_n (dd D106_ok 126 rfl) rfl ?_
          refine md_iast (f := 6) hD (dd D106_ok 127 rfl) rfl (((((((k.1 c1).2 c2).2 M9 e9).2 M10 e10).2 M11 e11).2 M12 e12).1 c5).1 ?_
          refine md_nm (fun M14 e14 => ?_)
          exact md_vret (dd D106_ok 128 rfl) rfl ((((((((((k.1 c1).2 c2).2 M9 e9).2 M10 e10).2 M11 e11).2 M12 e12).1 c5).2.1 c6).2 M13 e13) M14 e14)
        · refine md_aload0 (dd D106_ok 109 rfl) rfl ?_
          refine md_getA (dd D106_ok 110 rfl) pl9_24 (by decide) rfl ?_
          refine md_iload_n (dd D106_ok 111 rfl) rfl ?_
          refine md_iload_n (dd D106_ok 112 rfl) rfl ?_
          refine md_iast (f := 5) hD (dd D106_ok 113 rfl) rfl (((((((k.1 c1).2 c2).2 M9 e9).2 M10 e10).2 M11 e11).2 M12 e12).1 c5).1 ?_
          refine md_nm (fun M15 e15 => ?_)
          refine md_goto (tgt := 187) (dd D106_ok 114 rfl) (by decide) ?_
          refine md_aload0 (dd D106_ok 123 rfl) rfl ?_
          refine md_getA (dd D106_ok 124 rfl) pl9_27 (by decide) rfl ?_
          refine md_iload_n (dd D106_ok 125 rfl) rfl ?_
          refine md_iload_n (dd D106_ok 126 rfl) rfl ?_
          refine md_iast (f := 6) hD (dd D106_ok 127 rfl) rfl (((((((k.1 c1).2 c2).2 M9 e9).2 M10 e10).2 M11 e11).2 M12 e12).1 c5).1 ?_
          refine md_nm (fun M16 e16 => ?_)
          exact md_vret (dd D106_ok 128 rfl) rfl ((((((((((k.1 c1).2 c2).2 M9 e9).2 M10 e10).2 M11 e11).2 M12 e12).1 c5).2.2 c6) M15 e15) M16 e16)
      · exact md_vret (dd D106_ok 102 rfl) rfl (((((((k.1 c1).2 c2).2 M9 e9).2 M10 e10).2 M11 e11).2 M12 e12).2 c5)
  · refine md_aload0 (dd D106_ok 50 rfl) rfl ?_
    refine md_getA (dd D106_ok 51 rfl) pl9_36 (by decide) rfl ?_
    refine md_bipush (v := 9) (dd D106_ok 52 rfl) (by decide) ?_
    refine md_iload_n (dd D106_ok 53 rfl) rfl ?_
    refine md_imul (dd D106_ok 54 rfl) ?_
    refine md_iload (dd D106_ok 55 rfl) rfl ?_
    refine md_iadd (dd D106_ok 56 rfl) ?_
    refine md_iconst (v := 0) (dd D106_ok 57 rfl) (by decide) ?_
    refine md_iast (f := 9) hD (dd D106_ok 58 rfl) rfl (k.2 c1).1 ?_
    refine md_nm (fun M17 e17 => ?_)
    refine md_iinc (v := x4 + 1) (dd D106_ok 59 rfl) rfl rfl ?_
    refine md_goto (tgt := 68) (dd D106_ok 60 rfl) (by decide) ?_
    exact ((k.2 c1).2 M17 e17)
def md_z (M : md_S) (n j : Nat) : md_S := (M.1, fun f i => if f = 9 ∧ 9 * n ≤ i ∧ i < 9 * n + j then 0 else M.2 f i)
theorem md_z_0 (M : md_S) (n : Nat) : md_z M n 0 = M := by
  unfold md_z
  congr 1
  funext f i
  rw [if_neg (by omega)]
theorem md_z_succ (M : md_S) (n j : Nat) : md_up2 (md_z M n j) 9 (9 * n + j) 0 = md_z M n (j + 1) := by
  unfold md_z md_up2
  congr 1
  funext f i
  by_cases h : f = 9 ∧ i = 9 * n + j
  · rw [if_pos h, if_pos (by omega)]
  · rw [if_neg h]
    show (if f = 9 ∧ 9 * n ≤ i ∧ i < 9 * n + j then 0 else M.2 f i) = _
    by_cases h2 : f = 9 ∧ 9 * n ≤ i ∧ i < 9 * n + j
    · rw [if_pos h2, if_pos (by omega)]
    · rw [if_neg h2, if_neg (by omega)]
def f_fr1 (M : md_S) (n : Nat) (q k : Int32) : md_S := md_up2 (md_up2 (md_up2 (md_up2 (md_up2 (md_up2 (md_up2 M 3 n k) 4 n q) 5 n (-1)) 6 n (-1)) 7 n (-1)) 8 n (if q = -1 then 0 else M.2 8 q.toNatClampNeg + 1)) 11 n 0
def f_fr2 (M : md_S) (n : Nat) (k : Int32) : md_S := md_up2 (md_up2 (md_up2 (md_up2 (md_z M n 9) 9 (9 * n) (if k = 0 then 0 else 1)) 9 (9 * n + 2) (-1)) 9 (9 * n + 3) (-1)) 9 (9 * n + 8) 1
def f_fr3 (M : md_S) (n : Nat) (q : Int32) : md_S := if q = -1 then M else if M.2 6 q.toNatClampNeg = -1 then md_up2 (md_up2 M 5 q.toNatClampNeg (nI n)) 6 q.toNatClampNeg (nI n) else md_up2 (md_up2 M 7 (M.2 6 q.toNatClampNeg).toNatClampNeg (nI n)) 6 q.toNatClampNeg (nI n)
def f_fresh_M (M : md_S) (n : Nat) (q k : Int32) : md_S := f_fr3 (f_fr2 (f_fr1 M n q k) n k) n q
theorem nI_9 (n j : Nat) : (9 : Int32) * nI n + nI j = nI (9 * n + j) := by rw [show (9 : Int32) = nI 9 from rfl, pk_mul, nI_add]
theorem c_fresh_end {xs : List Int32} {mo : Nat} {ad : Nat → Nat} (hD : md_D mo ad) {h0 : am_H} {d : Nat} {Q : Option Value → md_S → Prop} {M : md_S} {n : Nat} {q k : Int32} (hn : n < 60) (hq : ¬ q = -1 → vp_in q 60 ∧ (¬ (f_fr2 M n k).2 6 q.toNatClampNeg = -1 → vp_in ((f_fr2 M n k).2 6 q.toNatClampNeg) 60)) (hQ : Q none (f_fr3 (f_fr2 M n k) n q)) : md_wp xs mo ad h0 d Q I106 68 [some (.ref mo), some (.int (nI n)), some (.int q), some (.int k), some (.int 9)] [] (md_z M n 9) := by
  have e0 : (9 : Int32) * nI n = nI (9 * n) := by rw [show (9 : Int32) = nI 9 from rfl, pk_mul]
  have e2 : (9 : Int32) * nI n + 2 = nI (9 * n + 2) := nI_9 n 2
  have e3 : (9 : Int32) * nI n + 3 = nI (9 * n + 3) := nI_9 n 3
  have e8 : (9 : Int32) * nI n + 8 = nI (9 * n + 8) := nI_9 n 8
  refine vc106_68 hD ⟨fun _ => ?_, fun q => absurd (by decide) q⟩
  rw [e8, e3, e2, e0, nI_clamp (by omega), nI_clamp (by omega), nI_clamp (by omega), nI_clamp (by omega)]
  have v0 : vp_in (nI (9 * n)) 540 := vp_nI (by omega) (by decide)
  have v2 : vp_in (nI (9 * n + 2)) 540 := vp_nI (by omega) (by decide)
  have v3 : vp_in (nI (9 * n + 3)) 540 := vp_nI (by omega) (by decide)
  have v8 : vp_in (nI (9 * n + 8)) 540 := vp_nI (by omega) (by decide)
  unfold f_fr3 at hQ
  refine ⟨fun hk => ?_, fun hk => ?_⟩
  all_goals
    refine ⟨v0, fun M1 e1 => ⟨v2, fun M2 e2 => ⟨v3, fun M3 e3 => ⟨v8, fun M4 e4 => ?_⟩⟩⟩⟩
    have e : M4 = f_fr2 M n k := by
      unfold f_fr2
      first
        | rw [if_neg hk, e4, e3, e2, e1]
        | rw [if_pos (Classical.not_not.mp hk), e4, e3, e2, e1]
    clear e1 e2 e3 e4
    subst e
    refine ⟨fun h1 => ⟨(hq h1).1, fun h2 => ⟨(hq h1).2 h2, ?_⟩, fun h2 => ?_⟩, fun h1 => ?_⟩
    · rw [if_neg h1, if_neg h2] at hQ
      rintro _ rfl _ rfl
      exact hQ
    · rw [if_neg h1, if_pos (Classical.not_not.mp h2)] at hQ
      rintro _ rfl _ rfl
      exact hQ
    · rw [if_pos (Classical.not_not.mp h1)] at hQ
      exact hQ
theorem c_fresh_loop {xs : List Int32} {mo : Nat} {ad : Nat → Nat} (hD : md_D mo ad) {h0 : am_H} {d : Nat} {Q : Option Value → md_S → Prop} {M : md_S} {n : Nat} {q k : Int32} (hn : n < 60) (hw : md_wp xs mo ad h0 d Q I106 68 [some (.ref mo), some (.int (nI n)), some (.int q), some (.int k), some (.int 9)] [] (md_z M n 9)) : ∀ r j, j + r = 9 → md_wp xs mo ad h0 d Q I106 68 [some (.ref mo), some (.int (nI n)), some (.int q), some (.int k), some (.int (nI j))] [] (md_z M n j) := by
  intro r
  induction r with
  | zero =>
    intro j hj
    obtain rfl : j = 9 := by omega
    exact hw
  | succ r ih =>
    intro j hj
    have hj9 : ¬ (9 : Int32) ≤ nI j := nI_ge (a := j) (b := 9) (by omega) (by decide)
    refine vc106_68 hD ⟨fun q => absurd q hj9, fun _ => ?_⟩
    rw [nI_9, nI_clamp (by omega)]
    refine ⟨vp_nI (by omega) (by decide), ?_⟩
    rintro _ rfl
    rw [md_z_succ, nI_1]
    exact ih (j + 1) (by omega)
theorem c_fresh {xs : List Int32} {mo : Nat} {ad : Nat → Nat} {d : Nat} {M : md_S} {n : Nat} {q k : Int32} (hD : md_D mo ad) (hn : n < 60) (hq : ¬ q = -1 → vp_in q 60 ∧ (¬ (f_fr2 (f_fr1 M n q k) n k).2 6 q.toNatClampNeg = -1 → vp_in ((f_fr2 (f_fr1 M n q k) n k).2 6 q.toNatClampNeg) 60)) : ∀ Q', Q' none (f_fresh_M M n q k) → md_C xs mo ad (d + 1) 106 [.int (nI n), .int q, .int k] M Q' := by
  intro Q' hQ
  refine md_intro (ms106 xs) (Nat.le_of_ble_eq_true rfl) (fun h0 => vc106_0 hD ?_)
  have hw := c_fresh_loop hD hn (c_fresh_end (xs := xs) (mo := mo) (ad := ad) (h0 := h0) (d := d) hD hn hq hQ) 9 0 rfl
  rw [md_z_0] at hw
  rw [nI_clamp (by omega)]
  refine ⟨vp_nI hn (by decide), ?_⟩
  rintro _ rfl _ rfl _ rfl _ rfl _ rfl
  refine ⟨fun h1 => ⟨(hq h1).1, ?_⟩, fun h1 => ?_⟩
  · rintro _ rfl _ rfl
    unfold f_fr1 at hw
    rw [if_neg h1] at hw
    exact hw
  · rintro _ rfl _ rfl
    unfold f_fr1 at hw
    rw [if_pos (Classical.not_not.mp h1)] at hw
    exact hw
theorem md_out9_0 {x : Int32} (h0 : ¬ x = 0) (h1 : ¬ x = 1) (h2 : ¬ x = 2) (h3 : ¬ x = 3) (h4 : ¬ x = 4) (h5 : ¬ x = 5) (h6 : ¬ x = 6) (h7 : ¬ x = 7) (h8 : ¬ x = 8) : x.toInt < 0 ∨ 8 < x.toInt := by
  rcases Int.lt_or_le x.toInt 0 with q | q
  · exact Or.inl q
  · rcases Int.lt_or_le 8 x.toInt with r | r
    · exact Or.inr r
    · exfalso
      obtain ⟨j, hj, rfl⟩ := nI_of (x := x) (by rw [Int32.lt_iff_toInt_lt]; exact Int.not_lt.mpr q)
      rw [nI_toInt hj] at r
      have : j = 0 ∨ j = 1 ∨ j = 2 ∨ j = 3 ∨ j = 4 ∨ j = 5 ∨ j = 6 ∨ j = 7 ∨ j = 8 := by omega
      rcases this with rfl | rfl | rfl | rfl | rfl | rfl | rfl | rfl | rfl
      · exact h0 rfl
      · exact h1 rfl
      · exact h2 rfl
      · exact h3 rfl
      · exact h4 rfl
      · exact h5 rfl
      · exact h6 rfl
      · exact h7 rfl
      · exact h8 rfl
theorem md_out7_0 {x : Int32} (h0 : ¬ x = 0) (h1 : ¬ x = 1) (h2 : ¬ x = 2) (h3 : ¬ x = 3) (h4 : ¬ x = 4) (h5 : ¬ x = 5) (h6 : ¬ x = 6) : x.toInt < 0 ∨ 6 < x.toInt := by
  by_cases h7 : x = 7
  · subst h7
    exact Or.inr (by decide)
  · by_cases h8 : x = 8
    · subst h8
      exact Or.inr (by decide)
    · rcases md_out9_0 h0 h1 h2 h3 h4 h5 h6 h7 h8 with q | q
      · exact Or.inl q
      · exact Or.inr (by omega)
/-- mayBe -/
def f_mayBe (M : md_S) (x1 x2 x3 : Int32) : Int32 := if x2 = 0 then (if ¬ x1 = 0 then (if ¬ (M.2 3 x1.toNatClampNeg) = 0 then (if x3 = 1 then 1 else (if ¬ (M.2 3 x1.toNatClampNeg) = 3 then 0 else (if ¬ x3 = 3 then 0 else 1))) else (if x3 < 0 then 0 else (if 3 < x3 then 0 else 1))) else (if x3 = 0 then 1 else (if ¬ x3 = 2 then 0 else 1))) else (if x2 = 1 then (if x3 = 0 then 1 else (if x1 ≤ 0 then 0 else (if ¬ (M.2 3 x1.toNatClampNeg) = 0 then 0 else (if x3 ≤ 0 then 0 else (if 2 < x3 then 0 else 1))))) else (if x2 = 2 then (if x3 < (-1) then (if x3 < 1000 then 0 else (if 1100 < x3 then 0 else 1)) else (if x3 ≤ 400 then 1 else (if x3 < 1000 then 0 else (if 1100 < x3 then 0 else 1)))) else (if x2 = 3 then (if x3 < (-1) then 0 else (if 400 < x3 then 0 else 1)) else (if x2 = 4 then (if x3 < 0 then 0 else (if 50 < x3 then 0 else 1)) else (if x2 = 5 then (if x3 < 0 then 0 else (if 9 < x3 then 0 else 1)) else (if x2 = 6 then (if x3 < 0 then 0 else (if 50 < x3 then 0 else 1)) else (if x2 = 7 then (if x3 < 0 then 0 else (if 2 < x3 then 0 else 1)) else (if x2 = 8 then (if x3 < 1 then 0 else (if 4 < x3 then 0 else 1)) else 0))))))))
set_option maxHeartbeats 1000000 in
theorem vc114_0 {xs : List Int32} {mo : Nat} {ad : Nat → Nat} (hD : md_D mo ad) {h0 : am_H} {d : Nat} {Q : Option Value → md_S → Prop} {M : md_S} {x1 : Int32} {x2 : Int32} {x3 : Int32}
    (k : ((x2 = 0) → ((¬ x1 = 0) → (vp_in x1 60) ∧ (((¬ (M.2 3 x1.toNatClampNeg) = 0) → ((x3 = 1) → Q (some (.int 1)) M) ∧ (¬ (x3 = 1) → ((¬ (M.2 3 x1.toNatClampNeg) = 3) → Q (some (.int 0)) M) ∧ (¬ (¬ (M.2 3 x1.toNatClampNeg) = 3) → ((¬ x3 = 3) → Q (some (.int 0)) M) ∧ (¬ (¬ x3 = 3) → Q (some (.int 1)) M)))) ∧ (¬ (¬ (M.2 3 x1.toNatClampNeg) = 0) → ((x3 < 0) → Q (some (.int 0)) M) ∧ (¬ (x3 < 0) → ((3 < x3) → Q (some (.int 0)) M) ∧ (¬ (3 < x3) → Q (some (.int 1)) M))))) ∧ (¬ (¬ x1 = 0) → ((x3 = 0) → Q (some (.int 1)) M) ∧ (¬ (x3 = 0) → ((¬ x3 = 2) → Q (some (.int 0)) M) ∧ (¬ (¬ x3 = 2) → Q (some (.int 1)) M)))) ∧ (¬ (x2 = 0) → ((x2 = 1) → ((x3 = 0) → Q (some (.int 1)) M) ∧ (¬ (x3 = 0) → ((x1 ≤ 0) → Q (some (.int 0)) M) ∧ (¬ (x1 ≤ 0) → (vp_in x1 60) ∧ (((¬ (M.2 3 x1.toNatClampNeg) = 0) → Q (some (.int 0)) M) ∧ (¬ (¬ (M.2 3 x1.toNatClampNeg) = 0) → ((x3 ≤ 0) → Q (some (.int 0)) M) ∧ (¬ (x3 ≤ 0) → ((2 < x3) → Q (some (.int 0)) M) ∧ (¬ (2 < x3) → Q (some (.int 1)) M))))))) ∧ (¬ (x2 = 1) → ((x2 = 2) → ((x3 < (-1)) → ((x3 < 1000) → Q (some (.int 0)) M) ∧ (¬ (x3 < 1000) → ((1100 < x3) → Q (some (.int 0)) M) ∧ (¬ (1100 < x3) → Q (some (.int 1)) M))) ∧ (¬ (x3 < (-1)) → ((x3 ≤ 400) → Q (some (.int 1)) M) ∧ (¬ (x3 ≤ 400) → ((x3 < 1000) → Q (some (.int 0)) M) ∧ (¬ (x3 < 1000) → ((1100 < x3) → Q (some (.int 0)) M) ∧ (¬ (1100 < x3) → Q (some (.int 1)) M))))) ∧ (¬ (x2 = 2) → ((x2 = 3) → ((x3 < (-1)) → Q (some (.int 0)) M) ∧ (¬ (x3 < (-1)) → ((400 < x3) → Q (some (.int 0)) M) ∧ (¬ (400 < x3) → Q (some (.int 1)) M))) ∧ (¬ (x2 = 3) → ((x2 = 4) → ((x3 < 0) → Q (some (.int 0)) M) ∧ (¬ (x3 < 0) → ((50 < x3) → Q (some (.int 0)) M) ∧ (¬ (50 < x3) → Q (some (.int 1)) M))) ∧ (¬ (x2 = 4) → ((x2 = 5) → ((x3 < 0) → Q (some (.int 0)) M) ∧ (¬ (x3 < 0) → ((9 < x3) → Q (some (.int 0)) M) ∧ (¬ (9 < x3) → Q (some (.int 1)) M))) ∧ (¬ (x2 = 5) → ((x2 = 6) → ((x3 < 0) → Q (some (.int 0)) M) ∧ (¬ (x3 < 0) → ((50 < x3) → Q (some (.int 0)) M) ∧ (¬ (50 < x3) → Q (some (.int 1)) M))) ∧ (¬ (x2 = 6) → ((x2 = 7) → ((x3 < 0) → Q (some (.int 0)) M) ∧ (¬ (x3 < 0) → ((2 < x3) → Q (some (.int 0)) M) ∧ (¬ (2 < x3) → Q (some (.int 1)) M))) ∧ (¬ (x2 = 7) → ((x2 = 8) → ((x3 < 1) → Q (some (.int 0)) M) ∧ (¬ (x3 < 1) → ((4 < x3) → Q (some (.int 0)) M) ∧ (¬ (4 < x3) → Q (some (.int 1)) M))) ∧ (¬ (x2 = 8) → Q (some (.int 0)) M)))))))))) :
    md_wp xs mo ad h0 d Q I114 0 [some (.ref mo), some (.int x1), some (.int x2), some (.int x3)] [] M := by
  refine md_iload_n (dd D114_ok 0 rfl) rfl ?_
  by_cases c1 : x2 = 0
  · refine md_tsw (tgt := 52) (dd D114_ok 1 rfl) (Or.inr ⟨by rw [c1]; decide, by rw [c1]; decide, _, by rw [c1]; rfl, by decide⟩) ?_
    refine md_iload_n (dd D114_ok 2 rfl) rfl ?_
    refine md_if_ne (tgt := 71) (dd D114_ok 3 rfl) (by decide) (fun c2 => ?_) (fun c2 => ?_)
    · refine md_aload0 (dd D114_ok 13 rfl) rfl ?_
      refine md_getA (dd D114_ok 14 rfl) pl9_17 (by decide) rfl ?_
      refine md_iload_n (dd D114_ok 15 rfl) rfl ?_
      refine md_iald (f := 3) (dd D114_ok 16 rfl) rfl ((k.1 c1).1 c2).1 ?_
      refine md_if_ne (tgt := 95) (dd D114_ok 17 rfl) (by decide) (fun c3 => ?_) (fun c3 => ?_)
      · refine md_iload_n (dd D114_ok 27 rfl) rfl ?_
        refine md_iconst (v := 1) (dd D114_ok 28 rfl) (by decide) ?_
        refine md_icmp_eq (tgt := 115) (dd D114_ok 29 rfl) (by decide) (fun c4 => ?_) (fun c4 => ?_)
        · refine md_iconst (v := 1) (dd D114_ok 39 rfl) (by decide) ?_
          refine md_goto (tgt := 120) (dd D114_ok 40 rfl) (by decide) ?_
          exact md_iret (dd D114_ok 42 rfl) rfl ((((k.1 c1).1 c2).2.1 c3).1 c4)
        · refine md_aload0 (dd D114_ok 30 rfl) rfl ?_
          refine md_getA (dd D114_ok 31 rfl) pl9_17 (by decide) rfl ?_
          refine md_iload_n (dd D114_ok 32 rfl) rfl ?_
          refine md_iald (f := 3) (dd D114_ok 33 rfl) rfl ((k.1 c1).1 c2).1 ?_
          refine md_iconst (v := 3) (dd D114_ok 34 rfl) (by decide) ?_
          refine md_icmp_ne (tgt := 119) (dd D114_ok 35 rfl) (by decide) (fun c5 => ?_) (fun c5 => ?_)
          · refine md_iconst (v := 0) (dd D114_ok 41 rfl) (by decide) ?_
            exact md_iret (dd D114_ok 42 rfl) rfl (((((k.1 c1).1 c2).2.1 c3).2 c4).1 c5)
          · refine md_iload_n (dd D114_ok 36 rfl) rfl ?_
            refine md_iconst (v := 3) (dd D114_ok 37 rfl) (by decide) ?_
            refine md_icmp_ne (tgt := 119) (dd D114_ok 38 rfl) (by decide) (fun c6 => ?_) (fun c6 => ?_)
            · refine md_iconst (v := 0) (dd D114_ok 41 rfl) (by decide) ?_
              exact md_iret (dd D114_ok 42 rfl) rfl ((((((k.1 c1).1 c2).2.1 c3).2 c4).2 c5).1 c6)
            · refine md_iconst (v := 1) (dd D114_ok 39 rfl) (by decide) ?_
              refine md_goto (tgt := 120) (dd D114_ok 40 rfl) (by decide) ?_
              exact md_iret (dd D114_ok 42 rfl) rfl ((((((k.1 c1).1 c2).2.1 c3).2 c4).2 c5).2 c6)
      · refine md_iload_n (dd D114_ok 18 rfl) rfl ?_
        refine md_if_lt (tgt := 93) (dd D114_ok 19 rfl) (by decide) (fun c7 => ?_) (fun c7 => ?_)
        · refine md_iconst (v := 0) (dd D114_ok 25 rfl) (by decide) ?_
          exact md_iret (dd D114_ok 26 rfl) rfl ((((k.1 c1).1 c2).2.2 c3).1 c7)
        · refine md_iload_n (dd D114_ok 20 rfl) rfl ?_
          refine md_iconst (v := 3) (dd D114_ok 21 rfl) (by decide) ?_
          refine md_icmp_gt (tgt := 93) (dd D114_ok 22 rfl) (by decide) (fun c8 => ?_) (fun c8 => ?_)
          · refine md_iconst (v := 0) (dd D114_ok 25 rfl) (by decide) ?_
            exact md_iret (dd D114_ok 26 rfl) rfl (((((k.1 c1).1 c2).2.2 c3).2 c7).1 c8)
          · refine md_iconst (v := 1) (dd D114_ok 23 rfl) (by decide) ?_
            refine md_goto (tgt := 94) (dd D114_ok 24 rfl) (by decide) ?_
            exact md_iret (dd D114_ok 26 rfl) rfl (((((k.1 c1).1 c2).2.2 c3).2 c7).2 c8)
    · refine md_iload_n (dd D114_ok 4 rfl) rfl ?_
      refine md_if_eq (tgt := 65) (dd D114_ok 5 rfl) (by decide) (fun c9 => ?_) (fun c9 => ?_)
      · refine md_iconst (v := 1) (dd D114_ok 9 rfl) (by decide) ?_
        refine md_goto (tgt := 70) (dd D114_ok 10 rfl) (by decide) ?_
        exact md_iret (dd D114_ok 12 rfl) rfl (((k.1 c1).2 c2).1 c9)
      · refine md_iload_n (dd D114_ok 6 rfl) rfl ?_
        refine md_iconst (v := 2) (dd D114_ok 7 rfl) (by decide) ?_
        refine md_icmp_ne (tgt := 69) (dd D114_ok 8 rfl) (by decide) (fun c10 => ?_) (fun c10 => ?_)
        · refine md_iconst (v := 0) (dd D114_ok 11 rfl) (by decide) ?_
          exact md_iret (dd D114_ok 12 rfl) rfl ((((k.1 c1).2 c2).2 c9).1 c10)
        · refine md_iconst (v := 1) (dd D114_ok 9 rfl) (by decide) ?_
          refine md_goto (tgt := 70) (dd D114_ok 10 rfl) (by decide) ?_
          exact md_iret (dd D114_ok 12 rfl) rfl ((((k.1 c1).2 c2).2 c9).2 c10)
  by_cases c11 : x2 = 1
  · refine md_tsw (tgt := 121) (dd D114_ok 1 rfl) (Or.inr ⟨by rw [c11]; decide, by rw [c11]; decide, _, by rw [c11]; rfl, by decide⟩) ?_
    refine md_iload_n (dd D114_ok 43 rfl) rfl ?_
    refine md_if_eq (tgt := 147) (dd D114_ok 44 rfl) (by decide) (fun c12 => ?_) (fun c12 => ?_)
    · refine md_iconst (v := 1) (dd D114_ok 57 rfl) (by decide) ?_
      refine md_goto (tgt := 152) (dd D114_ok 58 rfl) (by decide) ?_
      exact md_iret (dd D114_ok 60 rfl) rfl (((k.2 c1).1 c11).1 c12)
    · refine md_iload_n (dd D114_ok 45 rfl) rfl ?_
      refine md_if_le (tgt := 151) (dd D114_ok 46 rfl) (by decide) (fun c13 => ?_) (fun c13 => ?_)
      · refine md_iconst (v := 0) (dd D114_ok 59 rfl) (by decide) ?_
        exact md_iret (dd D114_ok 60 rfl) rfl ((((k.2 c1).1 c11).2 c12).1 c13)
      · refine md_aload0 (dd D114_ok 47 rfl) rfl ?_
        refine md_getA (dd D114_ok 48 rfl) pl9_17 (by decide) rfl ?_
        refine md_iload_n (dd D114_ok 49 rfl) rfl ?_
        refine md_iald (f := 3) (dd D114_ok 50 rfl) rfl ((((k.2 c1).1 c11).2 c12).2 c13).1 ?_
        refine md_if_ne (tgt := 151) (dd D114_ok 51 rfl) (by decide) (fun c14 => ?_) (fun c14 => ?_)
        · refine md_iconst (v := 0) (dd D114_ok 59 rfl) (by decide) ?_
          exact md_iret (dd D114_ok 60 rfl) rfl (((((k.2 c1).1 c11).2 c12).2 c13).2.1 c14)
        · refine md_iload_n (dd D114_ok 52 rfl) rfl ?_
          refine md_if_le (tgt := 151) (dd D114_ok 53 rfl) (by decide) (fun c15 => ?_) (fun c15 => ?_)
          · refine md_iconst (v := 0) (dd D114_ok 59 rfl) (by decide) ?_
            exact md_iret (dd D114_ok 60 rfl) rfl ((((((k.2 c1).1 c11).2 c12).2 c13).2.2 c14).1 c15)
          · refine md_iload_n (dd D114_ok 54 rfl) rfl ?_
            refine md_iconst (v := 2) (dd D114_ok 55 rfl) (by decide) ?_
            refine md_icmp_gt (tgt := 151) (dd D114_ok 56 rfl) (by decide) (fun c16 => ?_) (fun c16 => ?_)
            · refine md_iconst (v := 0) (dd D114_ok 59 rfl) (by decide) ?_
              exact md_iret (dd D114_ok 60 rfl) rfl (((((((k.2 c1).1 c11).2 c12).2 c13).2.2 c14).2 c15).1 c16)
            · refine md_iconst (v := 1) (dd D114_ok 57 rfl) (by decide) ?_
              refine md_goto (tgt := 152) (dd D114_ok 58 rfl) (by decide) ?_
              exact md_iret (dd D114_ok 60 rfl) rfl (((((((k.2 c1).1 c11).2 c12).2 c13).2.2 c14).2 c15).2 c16)
  by_cases c17 : x2 = 2
  · refine md_tsw (tgt := 153) (dd D114_ok 1 rfl) (Or.inr ⟨by rw [c17]; decide, by rw [c17]; decide, _, by rw [c17]; rfl, by decide⟩) ?_
    refine md_iload_n (dd D114_ok 61 rfl) rfl ?_
    refine md_iconst (v := (-1)) (dd D114_ok 62 rfl) (by decide) ?_
    refine md_icmp_lt (tgt := 165) (dd D114_ok 63 rfl) (by decide) (fun c18 => ?_) (fun c18 => ?_)
    · refine md_iload_n (dd D114_ok 67 rfl) rfl ?_
      refine md_sipush (v := 1000) (dd D114_ok 68 rfl) (by decide) ?_
      refine md_icmp_lt (tgt := 183) (dd D114_ok 69 rfl) (by decide) (fun c19 => ?_) (fun c19 => ?_)
      · refine md_iconst (v := 0) (dd D114_ok 75 rfl) (by decide) ?_
        exact md_iret (dd D114_ok 76 rfl) rfl (((((k.2 c1).2 c11).1 c17).1 c18).1 c19)
      · refine md_iload_n (dd D114_ok 70 rfl) rfl ?_
        refine md_sipush (v := 1100) (dd D114_ok 71 rfl) (by decide) ?_
        refine md_icmp_gt (tgt := 183) (dd D114_ok 72 rfl) (by decide) (fun c20 => ?_) (fun c20 => ?_)
        · refine md_iconst (v := 0) (dd D114_ok 75 rfl) (by decide) ?_
          exact md_iret (dd D114_ok 76 rfl) rfl ((((((k.2 c1).2 c11).1 c17).1 c18).2 c19).1 c20)
        · refine md_iconst (v := 1) (dd D114_ok 73 rfl) (by decide) ?_
          refine md_goto (tgt := 184) (dd D114_ok 74 rfl) (by decide) ?_
          exact md_iret (dd D114_ok 76 rfl) rfl ((((((k.2 c1).2 c11).1 c17).1 c18).2 c19).2 c20)
    · refine md_iload_n (dd D114_ok 64 rfl) rfl ?_
      refine md_sipush (v := 400) (dd D114_ok 65 rfl) (by decide) ?_
      refine md_icmp_le (tgt := 179) (dd D114_ok 66 rfl) (by decide) (fun c21 => ?_) (fun c21 => ?_)
      · refine md_iconst (v := 1) (dd D114_ok 73 rfl) (by decide) ?_
        refine md_goto (tgt := 184) (dd D114_ok 74 rfl) (by decide) ?_
        exact md_iret (dd D114_ok 76 rfl) rfl (((((k.2 c1).2 c11).1 c17).2 c18).1 c21)
      · refine md_iload_n (dd D114_ok 67 rfl) rfl ?_
        refine md_sipush (v := 1000) (dd D114_ok 68 rfl) (by decide) ?_
        refine md_icmp_lt (tgt := 183) (dd D114_ok 69 rfl) (by decide) (fun c22 => ?_) (fun c22 => ?_)
        · refine md_iconst (v := 0) (dd D114_ok 75 rfl) (by decide) ?_
          exact md_iret (dd D114_ok 76 rfl) rfl ((((((k.2 c1).2 c11).1 c17).2 c18).2 c21).1 c22)
        · refine md_iload_n (dd D114_ok 70 rfl) rfl ?_
          refine md_sipush (v := 1100) (dd D114_ok 71 rfl) (by decide) ?_
          refine md_icmp_gt (tgt := 183) (dd D114_ok 72 rfl) (by decide) (fun c23 => ?_) (fun c23 => ?_)
          · refine md_iconst (v := 0) (dd D114_ok 75 rfl) (by decide) ?_
            exact md_iret (dd D114_ok 76 rfl) rfl (((((((k.2 c1).2 c11).1 c17).2 c18).2 c21).2 c22).1 c23)
          · refine md_iconst (v := 1) (dd D114_ok 73 rfl) (by decide) ?_
            refine md_goto (tgt := 184) (dd D114_ok 74 rfl) (by decide) ?_
            exact md_iret (dd D114_ok 76 rfl) rfl (((((((k.2 c1).2 c11).1 c17).2 c18).2 c21).2 c22).2 c23)
  by_cases c24 : x2 = 3
  · refine md_tsw (tgt := 185) (dd D114_ok 1 rfl) (Or.inr ⟨by rw [c24]; decide, by rw [c24]; decide, _, by rw [c24]; rfl, by decide⟩) ?_
    refine md_iload_n (dd D114_ok 77 rfl) rfl ?_
    refine md_iconst (v := (-1)) (dd D114_ok 78 rfl) (by decide) ?_
    refine md_icmp_lt (tgt := 201) (dd D114_ok 79 rfl) (by decide) (fun c25 => ?_) (fun c25 => ?_)
    · refine md_iconst (v := 0) (dd D114_ok 85 rfl) (by decide) ?_
      exact md_iret (dd D114_ok 86 rfl) rfl (((((k.2 c1).2 c11).2 c17).1 c24).1 c25)
    · refine md_iload_n (dd D114_ok 80 rfl) rfl ?_
      refine md_sipush (v := 400) (dd D114_ok 81 rfl) (by decide) ?_
      refine md_icmp_gt (tgt := 201) (dd D114_ok 82 rfl) (by decide) (fun c26 => ?_) (fun c26 => ?_)
      · refine md_iconst (v := 0) (dd D114_ok 85 rfl) (by decide) ?_
        exact md_iret (dd D114_ok 86 rfl) rfl ((((((k.2 c1).2 c11).2 c17).1 c24).2 c25).1 c26)
      · refine md_iconst (v := 1) (dd D114_ok 83 rfl) (by decide) ?_
        refine md_goto (tgt := 202) (dd D114_ok 84 rfl) (by decide) ?_
        exact md_iret (dd D114_ok 86 rfl) rfl ((((((k.2 c1).2 c11).2 c17).1 c24).2 c25).2 c26)
  by_cases c27 : x2 = 4
  · refine md_tsw (tgt := 203) (dd D114_ok 1 rfl) (Or.inr ⟨by rw [c27]; decide, by rw [c27]; decide, _, by rw [c27]; rfl, by decide⟩) ?_
    refine md_iload_n (dd D114_ok 87 rfl) rfl ?_
    refine md_if_lt (tgt := 217) (dd D114_ok 88 rfl) (by decide) (fun c28 => ?_) (fun c28 => ?_)
    · refine md_iconst (v := 0) (dd D114_ok 94 rfl) (by decide) ?_
      exact md_iret (dd D114_ok 95 rfl) rfl ((((((k.2 c1).2 c11).2 c17).2 c24).1 c27).1 c28)
    · refine md_iload_n (dd D114_ok 89 rfl) rfl ?_
      refine md_bipush (v := 50) (dd D114_ok 90 rfl) (by decide) ?_
      refine md_icmp_gt (tgt := 217) (dd D114_ok 91 rfl) (by decide) (fun c29 => ?_) (fun c29 => ?_)
      · refine md_iconst (v := 0) (dd D114_ok 94 rfl) (by decide) ?_
        exact md_iret (dd D114_ok 95 rfl) rfl (((((((k.2 c1).2 c11).2 c17).2 c24).1 c27).2 c28).1 c29)
      · refine md_iconst (v := 1) (dd D114_ok 92 rfl) (by decide) ?_
        refine md_goto (tgt := 218) (dd D114_ok 93 rfl) (by decide) ?_
        exact md_iret (dd D114_ok 95 rfl) rfl (((((((k.2 c1).2 c11).2 c17).2 c24).1 c27).2 c28).2 c29)
  by_cases c30 : x2 = 5
  · refine md_tsw (tgt := 219) (dd D114_ok 1 rfl) (Or.inr ⟨by rw [c30]; decide, by rw [c30]; decide, _, by rw [c30]; rfl, by decide⟩) ?_
    refine md_iload_n (dd D114_ok 96 rfl) rfl ?_
    refine md_if_lt (tgt := 233) (dd D114_ok 97 rfl) (by decide) (fun c31 => ?_) (fun c31 => ?_)
    · refine md_iconst (v := 0) (dd D114_ok 103 rfl) (by decide) ?_
      exact md_iret (dd D114_ok 104 rfl) rfl (((((((k.2 c1).2 c11).2 c17).2 c24).2 c27).1 c30).1 c31)
    · refine md_iload_n (dd D114_ok 98 rfl) rfl ?_
      refine md_bipush (v := 9) (dd D114_ok 99 rfl) (by decide) ?_
      refine md_icmp_gt (tgt := 233) (dd D114_ok 100 rfl) (by decide) (fun c32 => ?_) (fun c32 => ?_)
      · refine md_iconst (v := 0) (dd D114_ok 103 rfl) (by decide) ?_
        exact md_iret (dd D114_ok 104 rfl) rfl ((((((((k.2 c1).2 c11).2 c17).2 c24).2 c27).1 c30).2 c31).1 c32)
      · refine md_iconst (v := 1) (dd D114_ok 101 rfl) (by decide) ?_
        refine md_goto (tgt := 234) (dd D114_ok 102 rfl) (by decide) ?_
        exact md_iret (dd D114_ok 104 rfl) rfl ((((((((k.2 c1).2 c11).2 c17).2 c24).2 c27).1 c30).2 c31).2 c32)
  by_cases c33 : x2 = 6
  · refine md_tsw (tgt := 203) (dd D114_ok 1 rfl) (Or.inr ⟨by rw [c33]; decide, by rw [c33]; decide, _, by rw [c33]; rfl, by decide⟩) ?_
    refine md_iload_n (dd D114_ok 87 rfl) rfl ?_
    refine md_if_lt (tgt := 217) (dd D114_ok 88 rfl) (by decide) (fun c34 => ?_) (fun c34 => ?_)
    · refine md_iconst (v := 0) (dd D114_ok 94 rfl) (by decide) ?_
      exact md_iret (dd D114_ok 95 rfl) rfl ((((((((k.2 c1).2 c11).2 c17).2 c24).2 c27).2 c30).1 c33).1 c34)
    · refine md_iload_n (dd D114_ok 89 rfl) rfl ?_
      refine md_bipush (v := 50) (dd D114_ok 90 rfl) (by decide) ?_
      refine md_icmp_gt (tgt := 217) (dd D114_ok 91 rfl) (by decide) (fun c35 => ?_) (fun c35 => ?_)
      · refine md_iconst (v := 0) (dd D114_ok 94 rfl) (by decide) ?_
        exact md_iret (dd D114_ok 95 rfl) rfl (((((((((k.2 c1).2 c11).2 c17).2 c24).2 c27).2 c30).1 c33).2 c34).1 c35)
      · refine md_iconst (v := 1) (dd D114_ok 92 rfl) (by decide) ?_
        refine md_goto (tgt := 218) (dd D114_ok 93 rfl) (by decide) ?_
        exact md_iret (dd D114_ok 95 rfl) rfl (((((((((k.2 c1).2 c11).2 c17).2 c24).2 c27).2 c30).1 c33).2 c34).2 c35)
  by_cases c36 : x2 = 7
  · refine md_tsw (tgt := 235) (dd D114_ok 1 rfl) (Or.inr ⟨by rw [c36]; decide, by rw [c36]; decide, _, by rw [c36]; rfl, by decide⟩) ?_
    refine md_iload_n (dd D114_ok 105 rfl) rfl ?_
    refine md_if_lt (tgt := 248) (dd D114_ok 106 rfl) (by decide) (fun c37 => ?_) (fun c37 => ?_)
    · refine md_iconst (v := 0) (dd D114_ok 112 rfl) (by decide) ?_
      exact md_iret (dd D114_ok 113 rfl) rfl (((((((((k.2 c1).2 c11).2 c17).2 c24).2 c27).2 c30).2 c33).1 c36).1 c37)
    · refine md_iload_n (dd D114_ok 107 rfl) rfl ?_
      refine md_iconst (v := 2) (dd D114_ok 108 rfl) (by decide) ?_
      refine md_icmp_gt (tgt := 248) (dd D114_ok 109 rfl) (by decide) (fun c38 => ?_) (fun c38 => ?_)
      · refine md_iconst (v := 0) (dd D114_ok 112 rfl) (by decide) ?_
        exact md_iret (dd D114_ok 113 rfl) rfl ((((((((((k.2 c1).2 c11).2 c17).2 c24).2 c27).2 c30).2 c33).1 c36).2 c37).1 c38)
      · refine md_iconst (v := 1) (dd D114_ok 110 rfl) (by decide) ?_
        refine md_goto (tgt := 249) (dd D114_ok 111 rfl) (by decide) ?_
        exact md_iret (dd D114_ok 113 rfl) rfl ((((((((((k.2 c1).2 c11).2 c17).2 c24).2 c27).2 c30).2 c33).1 c36).2 c37).2 c38)
  by_cases c39 : x2 = 8
  · refine md_tsw (tgt := 250) (dd D114_ok 1 rfl) (Or.inr ⟨by rw [c39]; decide, by rw [c39]; decide, _, by rw [c39]; rfl, by decide⟩) ?_
    refine md_iload_n (dd D114_ok 114 rfl) rfl ?_
    refine md_iconst (v := 1) (dd D114_ok 115 rfl) (by decide) ?_
    refine md_icmp_lt (tgt := 264) (dd D114_ok 116 rfl) (by decide) (fun c40 => ?_) (fun c40 => ?_)
    · refine md_iconst (v := 0) (dd D114_ok 122 rfl) (by decide) ?_
      exact md_iret (dd D114_ok 123 rfl) rfl ((((((((((k.2 c1).2 c11).2 c17).2 c24).2 c27).2 c30).2 c33).2 c36).1 c39).1 c40)
    · refine md_iload_n (dd D114_ok 117 rfl) rfl ?_
      refine md_iconst (v := 4) (dd D114_ok 118 rfl) (by decide) ?_
      refine md_icmp_gt (tgt := 264) (dd D114_ok 119 rfl) (by decide) (fun c41 => ?_) (fun c41 => ?_)
      · refine md_iconst (v := 0) (dd D114_ok 122 rfl) (by decide) ?_
        exact md_iret (dd D114_ok 123 rfl) rfl (((((((((((k.2 c1).2 c11).2 c17).2 c24).2 c27).2 c30).2 c33).2 c36).1 c39).2 c40).1 c41)
      · refine md_iconst (v := 1) (dd D114_ok 120 rfl) (by decide) ?_
        refine md_goto (tgt := 265) (dd D114_ok 121 rfl) (by decide) ?_
        exact md_iret (dd D114_ok 123 rfl) rfl (((((((((((k.2 c1).2 c11).2 c17).2 c24).2 c27).2 c30).2 c33).2 c36).1 c39).2 c40).2 c41)
  refine md_tsw (tgt := 266) (dd D114_ok 1 rfl) (Or.inl ⟨md_out9_0 c1 c11 c17 c24 c27 c30 c33 c36 c39, by decide⟩) ?_
  refine md_iconst (v := 0) (dd D114_ok 124 rfl) (by decide) ?_
  exact md_iret (dd D114_ok 125 rfl) rfl (((((((((k.2 c1).2 c11).2 c17).2 c24).2 c27).2 c30).2 c33).2 c36).2 c39)
theorem c_f_mayBe {xs : List Int32} {mo : Nat} {ad : Nat → Nat} {d : Nat} {M : md_S} {x1 x2 x3 : Int32} (hD : md_D mo ad) (hx : vp_in x1 60) : ∀ Q', Q' (some (.int (f_mayBe M x1 x2 x3))) M → md_C xs mo ad (d + 1) 114 [.int x1, .int x2, .int x3] M Q' := by
  intro Q' hQ
  refine md_intro (ms114 xs) (Nat.le_of_ble_eq_true rfl) (fun h0 => vc114_0 hD ?_)
  unfold f_mayBe at hQ
  refine ⟨fun c1 => ?_, fun c1 => ?_⟩
  · rw [if_pos c1] at hQ
    refine ⟨fun c2 => ?_, fun c2 => ?_⟩
    · rw [if_pos c2] at hQ
      refine ⟨by first | assumption | exact md_vl (by decide), ?_⟩
      refine ⟨fun c3 => ?_, fun c3 => ?_⟩
      · rw [if_pos c3] at hQ
        refine ⟨fun c4 => ?_, fun c4 => ?_⟩
        · rw [if_pos c4] at hQ
          exact hQ
        · rw [if_neg c4] at hQ
          refine ⟨fun c5 => ?_, fun c5 => ?_⟩
          · rw [if_pos c5] at hQ
            exact hQ
          · rw [if_neg c5] at hQ
            refine ⟨fun c6 => ?_, fun c6 => ?_⟩
            · rw [if_pos c6] at hQ
              exact hQ
            · rw [if_neg c6] at hQ
              exact hQ
      · rw [if_neg c3] at hQ
        refine ⟨fun c7 => ?_, fun c7 => ?_⟩
        · rw [if_pos c7] at hQ
          exact hQ
        · rw [if_neg c7] at hQ
          refine ⟨fun c8 => ?_, fun c8 => ?_⟩
          · rw [if_pos c8] at hQ
            exact hQ
          · rw [if_neg c8] at hQ
            exact hQ
    · rw [if_neg c2] at hQ
      refine ⟨fun c9 => ?_, fun c9 => ?_⟩
      · rw [if_pos c9] at hQ
        exact hQ
      · rw [if_neg c9] at hQ
        refine ⟨fun c10 => ?_, fun c10 => ?_⟩
        · rw [if_pos c10] at hQ
          exact hQ
        · rw [if_neg c10] at hQ
          exact hQ
  · rw [if_neg c1] at hQ
    refine ⟨fun c11 => ?_, fun c11 => ?_⟩
    · rw [if_pos c11] at hQ
      refine ⟨fun c12 => ?_, fun c12 => ?_⟩
      · rw [if_pos c12] at hQ
        exact hQ
      · rw [if_neg c12] at hQ
        refine ⟨fun c13 => ?_, fun c13 => ?_⟩
        · rw [if_pos c13] at hQ
          exact hQ
        · rw [if_neg c13] at hQ
          refine ⟨by first | assumption | exact md_vl (by decide), ?_⟩
          refine ⟨fun c14 => ?_, fun c14 => ?_⟩
          · rw [if_pos c14] at hQ
            exact hQ
          · rw [if_neg c14] at hQ
            refine ⟨fun c15 => ?_, fun c15 => ?_⟩
            · rw [if_pos c15] at hQ
              exact hQ
            · rw [if_neg c15] at hQ
              refine ⟨fun c16 => ?_, fun c16 => ?_⟩
              · rw [if_pos c16] at hQ
                exact hQ
              · rw [if_neg c16] at hQ
                exact hQ
    · rw [if_neg c11] at hQ
      refine ⟨fun c17 => ?_, fun c17 => ?_⟩
      · rw [if_pos c17] at hQ
        refine ⟨fun c18 => ?_, fun c18 => ?_⟩
        · rw [if_pos c18] at hQ
          refine ⟨fun c19 => ?_, fun c19 => ?_⟩
          · rw [if_pos c19] at hQ
            exact hQ
          · rw [if_neg c19] at hQ
            refine ⟨fun c20 => ?_, fun c20 => ?_⟩
            · rw [if_pos c20] at hQ
              exact hQ
            · rw [if_neg c20] at hQ
              exact hQ
        · rw [if_neg c18] at hQ
          refine ⟨fun c21 => ?_, fun c21 => ?_⟩
          · rw [if_pos c21] at hQ
            exact hQ
          · rw [if_neg c21] at hQ
            refine ⟨fun c22 => ?_, fun c22 => ?_⟩
            · rw [if_pos c22] at hQ
              exact hQ
            · rw [if_neg c22] at hQ
              refine ⟨fun c23 => ?_, fun c23 => ?_⟩
              · rw [if_pos c23] at hQ
                exact hQ
              · rw [if_neg c23] at hQ
                exact hQ
      · rw [if_neg c17] at hQ
        refine ⟨fun c24 => ?_, fun c24 => ?_⟩
        · rw [if_pos c24] at hQ
          refine ⟨fun c25 => ?_, fun c25 => ?_⟩
          · rw [if_pos c25] at hQ
            exact hQ
          · rw [if_neg c25] at hQ
            refine ⟨fun c26 => ?_, fun c26 => ?_⟩
            · rw [if_pos c26] at hQ
              exact hQ
            · rw [if_neg c26] at hQ
              exact hQ
        · rw [if_neg c24] at hQ
          refine ⟨fun c27 => ?_, fun c27 => ?_⟩
          · rw [if_pos c27] at hQ
            refine ⟨fun c28 => ?_, fun c28 => ?_⟩
            · rw [if_pos c28] at hQ
              exact hQ
            · rw [if_neg c28] at hQ
              refine ⟨fun c29 => ?_, fun c29 => ?_⟩
              · rw [if_pos c29] at hQ
                exact hQ
              · rw [if_neg c29] at hQ
                exact hQ
          · rw [if_neg c27] at hQ
            refine ⟨fun c30 => ?_, fun c30 => ?_⟩
            · rw [if_pos c30] at hQ
              refine ⟨fun c31 => ?_, fun c31 => ?_⟩
              · rw [if_pos c31] at hQ
                exact hQ
              · rw [if_neg c31] at hQ
                refine ⟨fun c32 => ?_, fun c32 => ?_⟩
                · rw [if_pos c32] at hQ
                  exact hQ
                · rw [if_neg c32] at hQ
                  exact hQ
            · rw [if_neg c30] at hQ
              refine ⟨fun c33 => ?_, fun c33 => ?_⟩
              · rw [if_pos c33] at hQ
                refine ⟨fun c34 => ?_, fun c34 => ?_⟩
                · rw [if_pos c34] at hQ
                  exact hQ
                · rw [if_neg c34] at hQ
                  refine ⟨fun c35 => ?_, fun c35 => ?_⟩
                  · rw [if_pos c35] at hQ
                    exact hQ
                  · rw [if_neg c35] at hQ
                    exact hQ
              · rw [if_neg c33] at hQ
                refine ⟨fun c36 => ?_, fun c36 => ?_⟩
                · rw [if_pos c36] at hQ
                  refine ⟨fun c37 => ?_, fun c37 => ?_⟩
                  · rw [if_pos c37] at hQ
                    exact hQ
                  · rw [if_neg c37] at hQ
                    refine ⟨fun c38 => ?_, fun c38 => ?_⟩
                    · rw [if_pos c38] at hQ
                      exact hQ
                    · rw [if_neg c38] at hQ
                      exact hQ
                · rw [if_neg c36] at hQ
                  refine ⟨fun c39 => ?_, fun c39 => ?_⟩
                  · rw [if_pos c39] at hQ
                    refine ⟨fun c40 => ?_, fun c40 => ?_⟩
                    · rw [if_pos c40] at hQ
                      exact hQ
                    · rw [if_neg c40] at hQ
                      refine ⟨fun c41 => ?_, fun c41 => ?_⟩
                      · rw [if_pos c41] at hQ
                        exact hQ
                      · rw [if_neg c41] at hQ
                        exact hQ
                  · rw [if_neg c39] at hQ
                    exact hQ
/-- box -/
def f_box (M : md_S) (x1 x2 : Int32) : Int32 := if (f_there M x1) = 0 then (-1) else (if (M.2 23 x1.toNatClampNeg) = 0 then (-1) else (if x2 < 0 then (-1) else (if x2 ≤ 3 then (if ¬ x2 = 0 then (if ¬ x2 = 1 then (if ¬ x2 = 2 then (M.2 27 x1.toNatClampNeg) else (M.2 26 x1.toNatClampNeg)) else (M.2 25 x1.toNatClampNeg)) else (M.2 24 x1.toNatClampNeg)) else (-1))))
set_option maxHeartbeats 1000000 in
theorem vc147_0 {xs : List Int32} {mo : Nat} {ad : Nat → Nat} (hD : md_D mo ad) {h0 : am_H} {d : Nat} {Q : Option Value → md_S → Prop} {M : md_S} {x1 : Int32} {x2 : Int32}
    (k : (((f_there M x1) = 0) → Q (some (.int (-1))) M) ∧ (¬ ((f_there M x1) = 0) → (vp_in x1 60) ∧ ((((M.2 23 x1.toNatClampNeg) = 0) → Q (some (.int (-1))) M) ∧ (¬ ((M.2 23 x1.toNatClampNeg) = 0) → ((x2 < 0) → Q (some (.int (-1))) M) ∧ (¬ (x2 < 0) → ((x2 ≤ 3) → ((¬ x2 = 0) → ((¬ x2 = 1) → ((¬ x2 = 2) → Q (some (.int (M.2 27 x1.toNatClampNeg))) M) ∧ (¬ (¬ x2 = 2) → Q (some (.int (M.2 26 x1.toNatClampNeg))) M)) ∧ (¬ (¬ x2 = 1) → Q (some (.int (M.2 25 x1.toNatClampNeg))) M)) ∧ (¬ (¬ x2 = 0) → Q (some (.int (M.2 24 x1.toNatClampNeg))) M)) ∧ (¬ (x2 ≤ 3) → Q (some (.int (-1))) M)))))) :
    md_wp xs mo ad h0 (d + 1) Q I147 0 [some (.ref mo), some (.int x1), some (.int x2)] [] M := by
  refine md_aload0 (dd D147_ok 0 rfl) rfl ?_
  refine md_iload_n (dd D147_ok 1 rfl) rfl ?_
  refine md_callI (as := [.int x1]) (rest := []) (dd D147_ok 2 rfl) pl9_156 rfl (Nat.le_of_ble_eq_true rfl) (ms111 xs) rfl (c_f_there hD ) rfl ?_
  refine md_if_eq (tgt := 26) (dd D147_ok 3 rfl) (by decide) (fun c1 => ?_) (fun c1 => ?_)
  · refine md_iconst (v := (-1)) (dd D147_ok 14 rfl) (by decide) ?_
    exact md_iret (dd D147_ok 15 rfl) rfl (k.1 c1)
  · refine md_aload0 (dd D147_ok 4 rfl) rfl ?_
    refine md_getA (dd D147_ok 5 rfl) pl9_76 (by decide) rfl ?_
    refine md_iload_n (dd D147_ok 6 rfl) rfl ?_
    refine md_bald (f := 23) (dd D147_ok 7 rfl) rfl (Or.inr rfl) (k.2 c1).1 ?_
    refine md_if_eq (tgt := 26) (dd D147_ok 8 rfl) (by decide) (fun c2 => ?_) (fun c2 => ?_)
    · refine md_iconst (v := (-1)) (dd D147_ok 14 rfl) (by decide) ?_
      exact md_iret (dd D147_ok 15 rfl) rfl ((k.2 c1).2.1 c2)
    · refine md_iload_n (dd D147_ok 9 rfl) rfl ?_
      refine md_if_lt (tgt := 26) (dd D147_ok 10 rfl) (by decide) (fun c3 => ?_) (fun c3 => ?_)
      · refine md_iconst (v := (-1)) (dd D147_ok 14 rfl) (by decide) ?_
        exact md_iret (dd D147_ok 15 rfl) rfl (((k.2 c1).2.2 c2).1 c3)
      · refine md_iload_n (dd D147_ok 11 rfl) rfl ?_
        refine md_iconst (v := 3) (dd D147_ok 12 rfl) (by decide) ?_
        refine md_icmp_le (tgt := 28) (dd D147_ok 13 rfl) (by decide) (fun c4 => ?_) (fun c4 => ?_)
        · refine md_iload_n (dd D147_ok 16 rfl) rfl ?_
          refine md_if_ne (tgt := 41) (dd D147_ok 17 rfl) (by decide) (fun c5 => ?_) (fun c5 => ?_)
          · refine md_iload_n (dd D147_ok 23 rfl) rfl ?_
            refine md_iconst (v := 1) (dd D147_ok 24 rfl) (by decide) ?_
            refine md_icmp_ne (tgt := 55) (dd D147_ok 25 rfl) (by decide) (fun c6 => ?_) (fun c6 => ?_)
            · refine md_iload_n (dd D147_ok 31 rfl) rfl ?_
              refine md_iconst (v := 2) (dd D147_ok 32 rfl) (by decide) ?_
              refine md_icmp_ne (tgt := 69) (dd D147_ok 33 rfl) (by decide) (fun c7 => ?_) (fun c7 => ?_)
              · refine md_aload0 (dd D147_ok 39 rfl) rfl ?_
                refine md_getA (dd D147_ok 40 rfl) pl9_88 (by decide) rfl ?_
                refine md_iload_n (dd D147_ok 41 rfl) rfl ?_
                refine md_iald (f := 27) (dd D147_ok 42 rfl) rfl (k.2 c1).1 ?_
                exact md_iret (dd D147_ok 43 rfl) rfl (((((((k.2 c1).2.2 c2).2 c3).1 c4).1 c5).1 c6).1 c7)
              · refine md_aload0 (dd D147_ok 34 rfl) rfl ?_
                refine md_getA (dd D147_ok 35 rfl) pl9_85 (by decide) rfl ?_
                refine md_iload_n (dd D147_ok 36 rfl) rfl ?_
                refine md_iald (f := 26) (dd D147_ok 37 rfl) rfl (k.2 c1).1 ?_
                refine md_goto (tgt := 75) (dd D147_ok 38 rfl) (by decide) ?_
                exact md_iret (dd D147_ok 43 rfl) rfl (((((((k.2 c1).2.2 c2).2 c3).1 c4).1 c5).1 c6).2 c7)
            · refine md_aload0 (dd D147_ok 26 rfl) rfl ?_
              refine md_getA (dd D147_ok 27 rfl) pl9_82 (by decide) rfl ?_
              refine md_iload_n (dd D147_ok 28 rfl) rfl ?_
              refine md_iald (f := 25) (dd D147_ok 29 rfl) rfl (k.2 c1).1 ?_
              refine md_goto (tgt := 75) (dd D147_ok 30 rfl) (by decide) ?_
              exact md_iret (dd D147_ok 43 rfl) rfl ((((((k.2 c1).2.2 c2).2 c3).1 c4).1 c5).2 c6)
          · refine md_aload0 (dd D147_ok 18 rfl) rfl ?_
            refine md_getA (dd D147_ok 19 rfl) pl9_79 (by decide) rfl ?_
            refine md_iload_n (dd D147_ok 20 rfl) rfl ?_
            refine md_iald (f := 24) (dd D147_ok 21 rfl) rfl (k.2 c1).1 ?_
            refine md_goto (tgt := 75) (dd D147_ok 22 rfl) (by decide) ?_
            exact md_iret (dd D147_ok 43 rfl) rfl (((((k.2 c1).2.2 c2).2 c3).1 c4).2 c5)
        · refine md_iconst (v := (-1)) (dd D147_ok 14 rfl) (by decide) ?_
          exact md_iret (dd D147_ok 15 rfl) rfl ((((k.2 c1).2.2 c2).2 c3).2 c4)
theorem c_f_box {xs : List Int32} {mo : Nat} {ad : Nat → Nat} {d : Nat} {M : md_S} {x1 x2 : Int32} (hD : md_D mo ad) (hx : ¬ ((f_there M x1) = 0) → vp_in x1 60) : ∀ Q', Q' (some (.int (f_box M x1 x2))) M → md_C xs mo ad (d + 2) 147 [.int x1, .int x2] M Q' := by
  intro Q' hQ
  refine md_intro (ms147 xs) (Nat.le_of_ble_eq_true rfl) (fun h0 => vc147_0 hD ?_)
  unfold f_box at hQ
  refine ⟨fun c1 => ?_, fun c1 => ?_⟩
  · rw [if_pos c1] at hQ
    exact hQ
  · rw [if_neg c1] at hQ
    refine ⟨hx c1, ?_⟩
    refine ⟨fun c2 => ?_, fun c2 => ?_⟩
    · rw [if_pos c2] at hQ
      exact hQ
    · rw [if_neg c2] at hQ
      refine ⟨fun c3 => ?_, fun c3 => ?_⟩
      · rw [if_pos c3] at hQ
        exact hQ
      · rw [if_neg c3] at hQ
        refine ⟨fun c4 => ?_, fun c4 => ?_⟩
        · rw [if_pos c4] at hQ
          refine ⟨fun c5 => ?_, fun c5 => ?_⟩
          · rw [if_pos c5] at hQ
            refine ⟨fun c6 => ?_, fun c6 => ?_⟩
            · rw [if_pos c6] at hQ
              refine ⟨fun c7 => ?_, fun c7 => ?_⟩
              · rw [if_pos c7] at hQ
                exact hQ
              · rw [if_neg c7] at hQ
                exact hQ
            · rw [if_neg c6] at hQ
              exact hQ
          · rw [if_neg c5] at hQ
            exact hQ
        · rw [if_neg c4] at hQ
          exact hQ
/-- word -/
def f_word (M : md_S) (x1 x2 : Int32) : Int32 := if x1 < 0 then (-1) else (if x1 < (M.1 29) then (if x2 = 0 then (M.2 30 x1.toNatClampNeg) else (if x2 = 1 then (M.2 33 x1.toNatClampNeg) else (if x2 = 2 then (M.2 34 x1.toNatClampNeg) else (if x2 = 3 then (M.2 35 x1.toNatClampNeg) else (if x2 = 4 then (M.2 36 x1.toNatClampNeg) else (if x2 = 5 then (M.2 31 x1.toNatClampNeg) else (if x2 = 6 then (M.2 32 x1.toNatClampNeg) else (-1)))))))) else (-1))
set_option maxHeartbeats 1000000 in
theorem vc149_0 {xs : List Int32} {mo : Nat} {ad : Nat → Nat} (hD : md_D mo ad) {h0 : am_H} {d : Nat} {Q : Option Value → md_S → Prop} {M : md_S} {x1 : Int32} {x2 : Int32}
    (k : ((x1 < 0) → Q (some (.int (-1))) M) ∧ (¬ (x1 < 0) → ((x1 < (M.1 29)) → ((x2 = 0) → (vp_in x1 3700) ∧ (Q (some (.int (M.2 30 x1.toNatClampNeg))) M)) ∧ (¬ (x2 = 0) → ((x2 = 1) → (vp_in x1 3700) ∧ (Q (some (.int (M.2 33 x1.toNatClampNeg))) M)) ∧ (¬ (x2 = 1) → ((x2 = 2) → (vp_in x1 3700) ∧ (Q (some (.int (M.2 34 x1.toNatClampNeg))) M)) ∧ (¬ (x2 = 2) → ((x2 = 3) → (vp_in x1 3700) ∧ (Q (some (.int (M.2 35 x1.toNatClampNeg))) M)) ∧ (¬ (x2 = 3) → ((x2 = 4) → (vp_in x1 3700) ∧ (Q (some (.int (M.2 36 x1.toNatClampNeg))) M)) ∧ (¬ (x2 = 4) → ((x2 = 5) → (vp_in x1 3700) ∧ (Q (some (.int (M.2 31 x1.toNatClampNeg))) M)) ∧ (¬ (x2 = 5) → ((x2 = 6) → (vp_in x1 3700) ∧ (Q (some (.int (M.2 32 x1.toNatClampNeg))) M)) ∧ (¬ (x2 = 6) → Q (some (.int (-1))) M)))))))) ∧ (¬ (x1 < (M.1 29)) → Q (some (.int (-1))) M))) :
    md_wp xs mo ad h0 d Q I149 0 [some (.ref mo), some (.int x1), some (.int x2)] [] M := by
  refine md_iload_n (dd D149_ok 0 rfl) rfl ?_
  refine md_if_lt (tgt := 12) (dd D149_ok 1 rfl) (by decide) (fun c1 => ?_) (fun c1 => ?_)
  · refine md_iconst (v := (-1)) (dd D149_ok 6 rfl) (by decide) ?_
    exact md_iret (dd D149_ok 7 rfl) rfl (k.1 c1)
  · refine md_iload_n (dd D149_ok 2 rfl) rfl ?_
    refine md_aload0 (dd D149_ok 3 rfl) rfl ?_
    refine md_getI (dd D149_ok 4 rfl) pl9_153 (by decide) rfl ?_
    refine md_icmp_lt (tgt := 14) (dd D149_ok 5 rfl) (by decide) (fun c2 => ?_) (fun c2 => ?_)
    · refine md_iload_n (dd D149_ok 8 rfl) rfl ?_
      by_cases c3 : x2 = 0
      · refine md_tsw (tgt := 56) (dd D149_ok 9 rfl) (Or.inr ⟨by rw [c3]; decide, by rw [c3]; decide, _, by rw [c3]; rfl, by decide⟩) ?_
        refine md_aload0 (dd D149_ok 10 rfl) rfl ?_
        refine md_getA (dd D149_ok 11 rfl) pl9_94 (by decide) rfl ?_
        refine md_iload_n (dd D149_ok 12 rfl) rfl ?_
        refine md_iald (f := 30) (dd D149_ok 13 rfl) rfl (((k.2 c1).1 c2).1 c3).1 ?_
        exact md_iret (dd D149_ok 14 rfl) rfl (((k.2 c1).1 c2).1 c3).2
      by_cases c4 : x2 = 1
      · refine md_tsw (tgt := 63) (dd D149_ok 9 rfl) (Or.inr ⟨by rw [c4]; decide, by rw [c4]; decide, _, by rw [c4]; rfl, by decide⟩) ?_
        refine md_aload0 (dd D149_ok 15 rfl) rfl ?_
        refine md_getA (dd D149_ok 16 rfl) pl9_103 (by decide) rfl ?_
        refine md_iload_n (dd D149_ok 17 rfl) rfl ?_
        refine md_iald (f := 33) (dd D149_ok 18 rfl) rfl ((((k.2 c1).1 c2).2 c3).1 c4).1 ?_
        exact md_iret (dd D149_ok 19 rfl) rfl ((((k.2 c1).1 c2).2 c3).1 c4).2
      by_cases c5 : x2 = 2
      · refine md_tsw (tgt := 70) (dd D149_ok 9 rfl) (Or.inr ⟨by rw [c5]; decide, by rw [c5]; decide, _, by rw [c5]; rfl, by decide⟩) ?_
        refine md_aload0 (dd D149_ok 20 rfl) rfl ?_
        refine md_getA (dd D149_ok 21 rfl) pl9_106 (by decide) rfl ?_
        refine md_iload_n (dd D149_ok 22 rfl) rfl ?_
        refine md_iald (f := 34) (dd D149_ok 23 rfl) rfl (((((k.2 c1).1 c2).2 c3).2 c4).1 c5).1 ?_
        exact md_iret (dd D149_ok 24 rfl) rfl (((((k.2 c1).1 c2).2 c3).2 c4).1 c5).2
      by_cases c6 : x2 = 3
      · refine md_tsw (tgt := 77) (dd D149_ok 9 rfl) (Or.inr ⟨by rw [c6]; decide, by rw [c6]; decide, _, by rw [c6]; rfl, by decide⟩) ?_
        refine md_aload0 (dd D149_ok 25 rfl) rfl ?_
        refine md_getA (dd D149_ok 26 rfl) pl9_109 (by decide) rfl ?_
        refine md_iload_n (dd D149_ok 27 rfl) rfl ?_
        refine md_iald (f := 35) (dd D149_ok 28 rfl) rfl ((((((k.2 c1).1 c2).2 c3).2 c4).2 c5).1 c6).1 ?_
        exact md_iret (dd D149_ok 29 rfl) rfl ((((((k.2 c1).1 c2).2 c3).2 c4).2 c5).1 c6).2
      by_cases c7 : x2 = 4
      · refine md_tsw (tgt := 84) (dd D149_ok 9 rfl) (Or.inr ⟨by rw [c7]; decide, by rw [c7]; decide, _, by rw [c7]; rfl, by decide⟩) ?_
        refine md_aload0 (dd D149_ok 30 rfl) rfl ?_
        refine md_getA (dd D149_ok 31 rfl) pl9_112 (by decide) rfl ?_
        refine md_iload_n (dd D149_ok 32 rfl) rfl ?_
        refine md_iald (f := 36) (dd D149_ok 33 rfl) rfl (((((((k.2 c1).1 c2).2 c3).2 c4).2 c5).2 c6).1 c7).1 ?_
        exact md_iret (dd D149_ok 34 rfl) rfl (((((((k.2 c1).1 c2).2 c3).2 c4).2 c5).2 c6).1 c7).2
      by_cases c8 : x2 = 5
      · refine md_tsw (tgt := 91) (dd D149_ok 9 rfl) (Or.inr ⟨by rw [c8]; decide, by rw [c8]; decide, _, by rw [c8]; rfl, by decide⟩) ?_
        refine md_aload0 (dd D149_ok 35 rfl) rfl ?_
        refine md_getA (dd D149_ok 36 rfl) pl9_97 (by decide) rfl ?_
        refine md_iload_n (dd D149_ok 37 rfl) rfl ?_
        refine md_iald (f := 31) (dd D149_ok 38 rfl) rfl ((((((((k.2 c1).1 c2).2 c3).2 c4).2 c5).2 c6).2 c7).1 c8).1 ?_
        exact md_iret (dd D149_ok 39 rfl) rfl ((((((((k.2 c1).1 c2).2 c3).2 c4).2 c5).2 c6).2 c7).1 c8).2
      by_cases c9 : x2 = 6
      · refine md_tsw (tgt := 98) (dd D149_ok 9 rfl) (Or.inr ⟨by rw [c9]; decide, by rw [c9]; decide, _, by rw [c9]; rfl, by decide⟩) ?_
        refine md_aload0 (dd D149_ok 40 rfl) rfl ?_
        refine md_getA (dd D149_ok 41 rfl) pl9_100 (by decide) rfl ?_
        refine md_iload_n (dd D149_ok 42 rfl) rfl ?_
        refine md_iald (f := 32) (dd D149_ok 43 rfl) rfl (((((((((k.2 c1).1 c2).2 c3).2 c4).2 c5).2 c6).2 c7).2 c8).1 c9).1 ?_
        exact md_iret (dd D149_ok 44 rfl) rfl (((((((((k.2 c1).1 c2).2 c3).2 c4).2 c5).2 c6).2 c7).2 c8).1 c9).2
      refine md_tsw (tgt := 105) (dd D149_ok 9 rfl) (Or.inl ⟨md_out7_0 c3 c4 c5 c6 c7 c8 c9, by decide⟩) ?_
      refine md_iconst (v := (-1)) (dd D149_ok 45 rfl) (by decide) ?_
      exact md_iret (dd D149_ok 46 rfl) rfl (((((((((k.2 c1).1 c2).2 c3).2 c4).2 c5).2 c6).2 c7).2 c8).2 c9)
    · refine md_iconst (v := (-1)) (dd D149_ok 6 rfl) (by decide) ?_
      exact md_iret (dd D149_ok 7 rfl) rfl ((k.2 c1).2 c2)
theorem c_f_word {xs : List Int32} {mo : Nat} {ad : Nat → Nat} {d : Nat} {M : md_S} {x1 x2 : Int32} (hD : md_D mo ad) (hx : ¬ (x1 < 0) → x1 < (M.1 29) → vp_in x1 3700) : ∀ Q', Q' (some (.int (f_word M x1 x2))) M → md_C xs mo ad (d + 1) 149 [.int x1, .int x2] M Q' := by
  intro Q' hQ
  refine md_intro (ms149 xs) (Nat.le_of_ble_eq_true rfl) (fun h0 => vc149_0 hD ?_)
  unfold f_word at hQ
  refine ⟨fun c1 => ?_, fun c1 => ?_⟩
  · rw [if_pos c1] at hQ
    exact hQ
  · rw [if_neg c1] at hQ
    refine ⟨fun c2 => ?_, fun c2 => ?_⟩
    · rw [if_pos c2] at hQ
      refine ⟨fun c3 => ?_, fun c3 => ?_⟩
      · rw [if_pos c3] at hQ
        refine ⟨hx c1 c2, ?_⟩
        exact hQ
      · rw [if_neg c3] at hQ
        refine ⟨fun c4 => ?_, fun c4 => ?_⟩
        · rw [if_pos c4] at hQ
          refine ⟨hx c1 c2, ?_⟩
          exact hQ
        · rw [if_neg c4] at hQ
          refine ⟨fun c5 => ?_, fun c5 => ?_⟩
          · rw [if_pos c5] at hQ
            refine ⟨hx c1 c2, ?_⟩
            exact hQ
          · rw [if_neg c5] at hQ
            refine ⟨fun c6 => ?_, fun c6 => ?_⟩
            · rw [if_pos c6] at hQ
              refine ⟨hx c1 c2, ?_⟩
              exact hQ
            · rw [if_neg c6] at hQ
              refine ⟨fun c7 => ?_, fun c7 => ?_⟩
              · rw [if_pos c7] at hQ
                refine ⟨hx c1 c2, ?_⟩
                exact hQ
              · rw [if_neg c7] at hQ
                refine ⟨fun c8 => ?_, fun c8 => ?_⟩
                · rw [if_pos c8] at hQ
                  refine ⟨hx c1 c2, ?_⟩
                  exact hQ
                · rw [if_neg c8] at hQ
                  refine ⟨fun c9 => ?_, fun c9 => ?_⟩
                  · rw [if_pos c9] at hQ
                    refine ⟨hx c1 c2, ?_⟩
                    exact hQ
                  · rw [if_neg c9] at hQ
                    exact hQ
    · rw [if_neg c2] at hQ
      exact hQ
set_option maxHeartbeats 1000000 in
theorem vc105_0 {xs : List Int32} {mo : Nat} {ad : Nat → Nat} (hD : md_D mo ad) {h0 : am_H} {d : Nat} {Q : Option Value → md_S → Prop} {M : md_S} 
    (k : md_C xs mo ad (d + 3) 106 [.int 0, .int (-1), .int 0] (md_up1 M 2 1) (fun v N1 => v = none ∧ (md_wp xs mo ad h0 (d + 3) Q I105 19 [some (.ref mo), some (.int 0)] [] (md_up1 N1 29 0)))) :
    md_wp xs mo ad h0 (d + 3) Q I105 0 [some (.ref mo), none] [] M := by
  refine md_aload0 (dd D105_ok 0 rfl) rfl ?_
  refine md_iconst (v := 1) (dd D105_ok 1 rfl) (by decide) ?_
  refine md_putI hD (dd D105_ok 2 rfl) pl9_13 (by decide) rfl rfl rfl ?_
  refine md_aload0 (dd D105_ok 3 rfl) rfl ?_
  refine md_iconst (v := 0) (dd D105_ok 4 rfl) (by decide) ?_
  refine md_iconst (v := (-1)) (dd D105_ok 5 rfl) (by decide) ?_
  refine md_iconst (v := 0) (dd D105_ok 6 rfl) (by decide) ?_
  refine md_call (as := [.int 0, .int (-1), .int 0]) (rest := []) (dd D105_ok 7 rfl) pl9_149 rfl (Nat.le_of_ble_eq_true rfl) (ms106 xs) rfl ((k).mono ?_) rfl
  rintro v N1 ⟨rfl, w1⟩
  refine md_aload0 (dd D105_ok 8 rfl) rfl ?_
  refine md_iconst (v := 0) (dd D105_ok 9 rfl) (by decide) ?_
  refine md_putI hD (dd D105_ok 10 rfl) pl9_153 (by decide) rfl rfl rfl ?_
  refine md_iconst (v := 0) (dd D105_ok 11 rfl) (by decide) ?_
  refine md_istore_n (dd D105_ok 12 rfl) (Nat.le_of_ble_eq_true rfl) ?_
  exact w1
set_option maxHeartbeats 1000000 in
theorem vc105_19 {xs : List Int32} {mo : Nat} {ad : Nat → Nat} (hD : md_D mo ad) {h0 : am_H} {d : Nat} {Q : Option Value → md_S → Prop} {M : md_S} {x1 : Int32}
    (k : ((60 ≤ x1) → Q none M) ∧ (¬ (60 ≤ x1) → (vp_in x1 60) ∧ (md_wp xs mo ad h0 (d + 3) Q I105 19 [some (.ref mo), some (.int (x1 + 1))] [] (md_up2 M 23 x1.toNatClampNeg (0 &&& 1))))) :
    md_wp xs mo ad h0 (d + 3) Q I105 19 [some (.ref mo), some (.int x1)] [] M := by
  refine md_iload_n (dd D105_ok 13 rfl) rfl ?_
  refine md_bipush (v := 60) (dd D105_ok 14 rfl) (by decide) ?_
  refine md_icmp_ge (tgt := 38) (dd D105_ok 15 rfl) (by decide) (fun c1 => ?_) (fun c1 => ?_)
  · exact md_vret (dd D105_ok 23 rfl) rfl (k.1 c1)
  · refine md_aload0 (dd D105_ok 16 rfl) rfl ?_
    refine md_getA (dd D105_ok 17 rfl) pl9_76 (by decide) rfl ?_
    refine md_iload_n (dd D105_ok 18 rfl) rfl ?_
    refine md_iconst (v := 0) (dd D105_ok 19 rfl) (by decide) ?_
    refine md_zast (f := 23) hD (dd D105_ok 20 rfl) rfl (k.2 c1).1 ?_
    refine md_iinc (v := x1 + 1) (dd D105_ok 21 rfl) rfl rfl ?_
    refine md_goto (tgt := 19) (dd D105_ok 22 rfl) (by decide) ?_
    exact (k.2 c1).2
/-- no boxes -/
def md_nohad (M : md_S) (j : Nat) : md_S := (M.1, fun f i => if f = 23 ∧ i < j then 0 else M.2 f i)
theorem md_nohad_0 (M : md_S) : md_nohad M 0 = M := by
  unfold md_nohad
  congr 1
  funext f i
  rw [if_neg (by omega)]
theorem md_nohad_succ (M : md_S) (j : Nat) : md_up2 (md_nohad M j) 23 j 0 = md_nohad M (j + 1) := by
  unfold md_nohad md_up2
  congr 1
  funext f i
  by_cases h : f = 23 ∧ i = j
  · rw [if_pos h, if_pos (by omega)]
  · rw [if_neg h]
    show (if f = 23 ∧ i < j then 0 else M.2 f i) = _
    by_cases h2 : f = 23 ∧ i < j
    · rw [if_pos h2, if_pos (by omega)]
    · rw [if_neg h2, if_neg (by omega)]
theorem c_clear_loop {xs : List Int32} {mo : Nat} {ad : Nat → Nat} (hD : md_D mo ad) {h0 : am_H} {d : Nat} {Q : Option Value → md_S → Prop} {M : md_S} (hQ : Q none (md_nohad M 60)) : ∀ r j, j + r = 60 → md_wp xs mo ad h0 (d + 3) Q I105 19 [some (.ref mo), some (.int (nI j))] [] (md_nohad M j) := by
  intro r
  induction r with
  | zero =>
    intro j hj
    obtain rfl : j = 60 := by omega
    exact vc105_19 hD ⟨fun _ => hQ, fun q => absurd (by decide) q⟩
  | succ r ih =>
    intro j hj
    have hj9 : ¬ (60 : Int32) ≤ nI j := nI_ge (a := j) (b := 60) (by omega) (by decide)
    refine vc105_19 hD ⟨fun q => absurd q hj9, fun _ => ⟨vp_nI (by omega) (by decide), ?_⟩⟩
    rw [nI_clamp (by omega), show ((0 : Int32) &&& 1) = 0 by decide, md_nohad_succ, nI_1]
    exact ih (j + 1) (by omega)
def f_clear_M (M : md_S) : md_S := md_nohad (md_up1 (f_fresh_M (md_up1 M 2 1) 0 (-1) 0) 29 0) 60
theorem c_clear {xs : List Int32} {mo : Nat} {ad : Nat → Nat} {d : Nat} {M : md_S} (hD : md_D mo ad) : ∀ Q', Q' none (f_clear_M M) → md_C xs mo ad (d + 4) 105 [] M Q' := by
  intro Q' hQ
  refine md_intro (ms105 xs) (Nat.le_of_ble_eq_true rfl) (fun h0 => vc105_0 hD ?_)
  refine c_fresh (n := 0) hD (by decide) (fun q => absurd rfl q) _ ⟨rfl, ?_⟩
  have := c_clear_loop (xs := xs) (mo := mo) (ad := ad) (h0 := h0) (d := d) (M := md_up1 (f_fresh_M (md_up1 M 2 1) 0 (-1) 0) 29 0) hD hQ 60 0 rfl
  rw [md_nohad_0] at this
  exact this
set_option maxHeartbeats 1000000 in
theorem vc110_0 {xs : List Int32} {mo : Nat} {ad : Nat → Nat} (hD : md_D mo ad) {h0 : am_H} {d : Nat} {Q : Option Value → md_S → Prop} {M : md_S} {x1 : Int32} {x2 : Int32}
    (k : (((f_there M x1) = 0) → Q (some (.int (-1))) M) ∧ (¬ ((f_there M x1) = 0) → (vp_in x1 60) ∧ (((¬ (M.2 3 x1.toNatClampNeg) = 0) → Q (some (.int (-1))) M) ∧ (¬ (¬ (M.2 3 x1.toNatClampNeg) = 0) → ((x2 < 0) → Q (some (.int (-1))) M) ∧ (¬ (x2 < 0) → ((3 < x2) → Q (some (.int (-1))) M) ∧ (¬ (3 < x2) → (((M.1 2) = 60) → Q (some (.int (-1))) M) ∧ (¬ ((M.1 2) = 60) → ((¬ (M.2 8 x1.toNatClampNeg) = 12) → md_C xs mo ad (d + 3) 106 [.int (M.1 2), .int x1, .int x2] M (fun v N1 => v = none ∧ ((vp_in (N1.1 2) 60) ∧ (Q (some (.int (((md_up1 (md_up2 N1 23 (N1.1 2).toNatClampNeg (0 &&& 1)) 2 (((md_up2 N1 23 (N1.1 2).toNatClampNeg (0 &&& 1)).1 2) + 1)).1 2) - 1))) (md_up1 (md_up2 N1 23 (N1.1 2).toNatClampNeg (0 &&& 1)) 2 (((md_up2 N1 23 (N1.1 2).toNatClampNeg (0 &&& 1)).1 2) + 1)))))) ∧ (¬ (¬ (M.2 8 x1.toNatClampNeg) = 12) → Q (some (.int (-1))) M)))))))) :
    md_wp xs mo ad h0 (d + 3) Q I110 0 [some (.ref mo), some (.int x1), some (.int x2)] [] M := by
  refine md_aload0 (dd D110_ok 0 rfl) rfl ?_
  refine md_iload_n (dd D110_ok 1 rfl) rfl ?_
  refine md_callI (as := [.int x1]) (rest := []) (dd D110_ok 2 rfl) pl9_156 rfl (Nat.le_of_ble_eq_true rfl) (ms111 xs) rfl (c_f_there hD ) rfl ?_
  refine md_if_eq (tgt := 46) (dd D110_ok 3 rfl) (by decide) (fun c1 => ?_) (fun c1 => ?_)
  · refine md_iconst (v := (-1)) (dd D110_ok 24 rfl) (by decide) ?_
    exact md_iret (dd D110_ok 25 rfl) rfl (k.1 c1)
  · refine md_aload0 (dd D110_ok 4 rfl) rfl ?_
    refine md_getA (dd D110_ok 5 rfl) pl9_17 (by decide) rfl ?_
    refine md_iload_n (dd D110_ok 6 rfl) rfl ?_
    refine md_iald (f := 3) (dd D110_ok 7 rfl) rfl (k.2 c1).1 ?_
    refine md_if_ne (tgt := 46) (dd D110_ok 8 rfl) (by decide) (fun c2 => ?_) (fun c2 => ?_)
    · refine md_iconst (v := (-1)) (dd D110_ok 24 rfl) (by decide) ?_
      exact md_iret (dd D110_ok 25 rfl) rfl ((k.2 c1).2.1 c2)
    · refine md_iload_n (dd D110_ok 9 rfl) rfl ?_
      refine md_if_lt (tgt := 46) (dd D110_ok 10 rfl) (by decide) (fun c3 => ?_) (fun c3 => ?_)
      · refine md_iconst (v := (-1)) (dd D110_ok 24 rfl) (by decide) ?_
        exact md_iret (dd D110_ok 25 rfl) rfl (((k.2 c1).2.2 c2).1 c3)
      · refine md_iload_n (dd D110_ok 11 rfl) rfl ?_
        refine md_iconst (v := 3) (dd D110_ok 12 rfl) (by decide) ?_
        refine md_icmp_gt (tgt := 46) (dd D110_ok 13 rfl) (by decide) (fun c4 => ?_) (fun c4 => ?_)
        · refine md_iconst (v := (-1)) (dd D110_ok 24 rfl) (by decide) ?_
          exact md_iret (dd D110_ok 25 rfl) rfl ((((k.2 c1).2.2 c2).2 c3).1 c4)
        · refine md_aload0 (dd D110_ok 14 rfl) rfl ?_
          refine md_getI (dd D110_ok 15 rfl) pl9_13 (by decide) rfl ?_
          refine md_bipush (v := 60) (dd D110_ok 16 rfl) (by decide) ?_
          refine md_icmp_eq (tgt := 46) (dd D110_ok 17 rfl) (by decide) (fun c5 => ?_) (fun c5 => ?_)
          · refine md_iconst (v := (-1)) (dd D110_ok 24 rfl) (by decide) ?_
            exact md_iret (dd D110_ok 25 rfl) rfl (((((k.2 c1).2.2 c2).2 c3).2 c4).1 c5)
          · refine md_aload0 (dd D110_ok 18 rfl) rfl ?_
            refine md_getA (dd D110_ok 19 rfl) pl9_33 (by decide) rfl ?_
            refine md_iload_n (dd D110_ok 20 rfl) rfl ?_
            refine md_iald (f := 8) (dd D110_ok 21 rfl) rfl (k.2 c1).1 ?_
            refine md_bipush (v := 12) (dd D110_ok 22 rfl) (by decide) ?_
            refine md_icmp_ne (tgt := 48) (dd D110_ok 23 rfl) (by decide) (fun c6 => ?_) (fun c6 => ?_)
            · refine md_aload0 (dd D110_ok 26 rfl) rfl ?_
              refine md_aload0 (dd D110_ok 27 rfl) rfl ?_
              refine md_getI (dd D110_ok 28 rfl) pl9_13 (by decide) rfl ?_
              refine md_iload_n (dd D110_ok 29 rfl) rfl ?_
              refine md_iload_n (dd D110_ok 30 rfl) rfl ?_
              refine md_call (as := [.int (M.1 2), .int x1, .int x2]) (rest := []) (dd D110_ok 31 rfl) pl9_149 rfl (Nat.le_of_ble_eq_true rfl) (ms106 xs) rfl ((((((((k.2 c1).2.2 c2).2 c3).2 c4).2 c5).1 c6)).mono ?_) rfl
              rintro v N1 ⟨rfl, w1⟩
              refine md_aload0 (dd D110_ok 32 rfl) rfl ?_
              refine md_getA (dd D110_ok 33 rfl) pl9_76 (by decide) rfl ?_
              refine md_aload0 (dd D110_ok 34 rfl) rfl ?_
              refine md_getI (dd D110_ok 35 rfl) pl9_13 (by decide) rfl ?_
              refine md_iconst (v := 0) (dd D110_ok 36 rfl) (by decide) ?_
              refine md_zast (f := 23) hD (dd D110_ok 37 rfl) rfl w1.1 ?_
              refine md_aload0 (dd D110_ok 38 rfl) rfl ?_
              refine md_dup (dd D110_ok 39 rfl) ?_
              refine md_getI (dd D110_ok 40 rfl) pl9_13 (by decide) rfl ?_
              refine md_iconst (v := 1) (dd D110_ok 41 rfl) (by decide) ?_
              refine md_iadd (dd D110_ok 42 rfl) ?_
              refine md_putI hD (dd D110_ok 43 rfl) pl9_13 (by decide) rfl rfl rfl ?_
              refine md_aload0 (dd D110_ok 44 rfl) rfl ?_
              refine md_getI (dd D110_ok 45 rfl) pl9_13 (by decide) rfl ?_
              refine md_iconst (v := 1) (dd D110_ok 46 rfl) (by decide) ?_
              refine md_isub (dd D110_ok 47 rfl) ?_
              exact md_iret (dd D110_ok 48 rfl) rfl w1.2
            · refine md_iconst (v := (-1)) (dd D110_ok 24 rfl) (by decide) ?_
              exact md_iret (dd D110_ok 25 rfl) rfl ((((((k.2 c1).2.2 c2).2 c3).2 c4).2 c5).2 c6)
theorem f_there_nI {M : md_S} {nn i : Nat} (hn : M.1 2 = nI nn) (h6 : nn ≤ 60) (hi : i < nn) : f_there M (nI i) = 1 := by
  unfold f_there
  rw [hn, if_neg (nI_pos (by omega)), if_neg (nI_ge hi (by omega))]
theorem f_there_of {M : md_S} {nn : Nat} {a : Int32} (hn : M.1 2 = nI nn) (h6 : nn ≤ 60) (h : ¬ f_there M a = 0) : ∃ i, i < nn ∧ a = nI i := by
  unfold f_there at h
  by_cases h1 : a < 0
  · rw [if_pos h1] at h
    exact absurd rfl h
  · rw [if_neg h1] at h
    obtain ⟨j, hj, rfl⟩ := nI_of h1
    by_cases h2 : M.1 2 ≤ nI j
    · rw [if_pos h2] at h
      exact absurd rfl h
    · rw [hn, nI_leI (by omega) hj] at h2
      exact ⟨j, by omega, rfl⟩
