/-! the class: feed (by program and by hand: wip/whole/gen/c51.py) -/
theorem byte_sh (x : Int32) (k : Int32) (hk : k = 24 ∨ k = 16 ∨ k = 8 ∨ k = 0) : (((x.toUInt32 >>> (k.toUInt32 &&& Int32.toUInt32 31)).toInt32).toInt8) = ((x >>> (k &&& 31)).toInt8) := by
  apply Int8.toBitVec_inj.mp
  apply BitVec.eq_of_getLsbD_eq
  intro i hi
  rcases hk with rfl | rfl | rfl | rfl
  · have e1 : ((24 : Int32).toUInt32 &&& Int32.toUInt32 31) = 24 := by decide
    have e2 : ((24 : Int32) &&& 31) = 24 := by decide
    rw [e1, e2]
    simp [Int32.toBitVec_shiftRight, BitVec.getLsbD_sshiftRight]
    have h1 : i < 32 := by omega
    have h2 : 24 + i < 32 := by omega
    rw [BitVec.getLsbD_signExtend, BitVec.getLsbD_signExtend, if_pos h1, if_pos h1, BitVec.getLsbD_ushiftRight, BitVec.getLsbD_sshiftRight, if_pos h2]
    have h3 : ¬ 32 ≤ i := by omega
    simp [h3]
  · have e1 : ((16 : Int32).toUInt32 &&& Int32.toUInt32 31) = 16 := by decide
    have e2 : ((16 : Int32) &&& 31) = 16 := by decide
    rw [e1, e2]
    simp [Int32.toBitVec_shiftRight, BitVec.getLsbD_sshiftRight]
    have h1 : i < 32 := by omega
    have h2 : 16 + i < 32 := by omega
    rw [BitVec.getLsbD_signExtend, BitVec.getLsbD_signExtend, if_pos h1, if_pos h1, BitVec.getLsbD_ushiftRight, BitVec.getLsbD_sshiftRight, if_pos h2]
    have h3 : ¬ 32 ≤ i := by omega
    simp [h3]
  · have e1 : ((8 : Int32).toUInt32 &&& Int32.toUInt32 31) = 8 := by decide
    have e2 : ((8 : Int32) &&& 31) = 8 := by decide
    rw [e1, e2]
    simp [Int32.toBitVec_shiftRight, BitVec.getLsbD_sshiftRight]
    have h1 : i < 32 := by omega
    have h2 : 8 + i < 32 := by omega
    rw [BitVec.getLsbD_signExtend, BitVec.getLsbD_signExtend, if_pos h1, if_pos h1, BitVec.getLsbD_ushiftRight, BitVec.getLsbD_sshiftRight, if_pos h2]
    have h3 : ¬ 32 ≤ i := by omega
    simp [h3]
  · have e1 : ((0 : Int32).toUInt32 &&& Int32.toUInt32 31) = 0 := by decide
    have e2 : ((0 : Int32) &&& 31) = 0 := by decide
    rw [e1, e2]
    simp
set_option maxHeartbeats 1000000 in
theorem vc13_0 {xs : List Int32} {K : Nat → Prop} {h0 : am_H} {d : Nat} {Q : Option Value → cl_A → cl_S → Prop} {A : cl_A} {S : cl_S} {x1 : Int32}
    (k : cl_wp xs K h0 d Q I13 3 [some (cl_rf A 8 0), some (.int x1), some (.int 24)] [] A S) :
    cl_wp xs K h0 d Q I13 0 [some (cl_rf A 8 0), some (.int x1), none] [] A S := by
  refine cl_bipush (v := 24) (dd D13_ok 0 rfl) (by decide) ?_
  refine cl_istore_n (dd D13_ok 1 rfl) (Nat.le_of_ble_eq_true rfl) ?_
  exact k
set_option maxHeartbeats 1000000 in
theorem vc13_3 {xs : List Int32} {K : Nat → Prop} {h0 : am_H} {d : Nat} {Q : Option Value → cl_A → cl_S → Prop} {A : cl_A} {S : cl_S} {x1 : Int32} {x2 : Int32}
    (k : ((x2 < 0) → Q none A S) ∧ (¬ (x2 < 0) → (cl_z S) ∧ (((400 ≤ (S.2.1 801 0)) → Q none A S) ∧ (¬ (400 ≤ (S.2.1 801 0)) → (∀ j, S.1 20 j → j = 0) ∧ ((vp_in (S.2.1 801 0) 400) ∧ (cl_wp xs K h0 d Q I13 3 [some (cl_rf A 8 0), some (.int x1), some (.int (x2 + (-8)))] [] A (cl_up (cl_up S 2000 (S.2.1 801 0).toNatClampNeg ((((x1.toUInt32 >>> (x2.toUInt32 &&& Int32.toUInt32 31)).toInt32).toInt8.toInt32).toInt8.toInt32)) 801 0 ((S.2.1 801 0) + 1)))))))) :
    cl_wp xs K h0 d Q I13 3 [some (cl_rf A 8 0), some (.int x1), some (.int x2)] [] A S := by
  refine cl_iload_n (dd D13_ok 2 rfl) rfl ?_
  refine cl_if_lt (tgt := 48) (dd D13_ok 3 rfl) (by decide) (fun c1 => ?_) (fun c1 => ?_)
  · exact cl_vret (dd D13_ok 27 rfl) rfl (k.1 c1)
  · refine cl_aload_n (dd D13_ok 4 rfl) rfl ?_
    refine cl_gI (g := 801) (e := S.2.1 801 0) (dd D13_ok 5 rfl) pl8_29 (by decide) (by decide) (by decide) rfl rfl (k.2 c1).1.l8 rfl ?_
    refine cl_aload_n (dd D13_ok 6 rfl) rfl ?_
    refine cl_getO (g := 20) (dd D13_ok 7 rfl) pl8_9 (by decide) (by decide) (by decide) rfl (k.2 c1).1.l8 ?_
    refine cl_len (f := 20) (n := 400) (dd D13_ok 8 rfl) (by decide) (k.2 c1).1.l20 (Or.inr (Or.inl rfl)) (by show ((List.range 400).map _).length = 400; simp) ?_
    rw [show (nI 400 : Int32) = 400 from rfl]
    refine cl_icmp_ge (tgt := 48) (dd D13_ok 9 rfl) (by decide) (fun c2 => ?_) (fun c2 => ?_)
    · exact cl_vret (dd D13_ok 27 rfl) rfl ((k.2 c1).2.1 c2)
    · refine cl_aload_n (dd D13_ok 10 rfl) rfl ?_
      refine cl_getO (g := 20) (dd D13_ok 11 rfl) pl8_9 (by decide) (by decide) (by decide) rfl (k.2 c1).1.l8 ?_
      refine cl_aload_n (dd D13_ok 12 rfl) rfl ?_
      refine cl_gI (g := 801) (e := S.2.1 801 0) (dd D13_ok 13 rfl) pl8_29 (by decide) (by decide) (by decide) rfl rfl (k.2 c1).1.l8 rfl ?_
      refine cl_iload_n (dd D13_ok 14 rfl) rfl ?_
      refine cl_iload_n (dd D13_ok 15 rfl) rfl ?_
      refine cl_iushr (dd D13_ok 16 rfl) ?_
      refine cl_i2b (dd D13_ok 17 rfl) ?_
      refine cl_bas (dd D13_ok 18 rfl) (k.2 c1).1 ((k.2 c1).2.2 c2).1 ((k.2 c1).2.2 c2).2.1 ?_
      refine cl_aload_n (dd D13_ok 19 rfl) rfl ?_
      refine cl_dup (dd D13_ok 20 rfl) ?_
      refine cl_gI (g := 801) (e := S.2.1 801 0) (dd D13_ok 21 rfl) pl8_29 (by decide) (by decide) (by decide) rfl rfl (k.2 c1).1.l8 (by first | rfl | simp [cl_up]) ?_
      refine cl_iconst (v := 1) (dd D13_ok 22 rfl) (by decide) ?_
      refine cl_iadd (dd D13_ok 23 rfl) ?_
      refine cl_pI (g := 801) (dd D13_ok 24 rfl) pl8_29 (by decide) (by decide) rfl rfl rfl rfl rfl (k.2 c1).1.l8 ?_
      refine cl_iinc (v := x2 + (-8)) (dd D13_ok 25 rfl) rfl rfl ?_
      refine cl_goto (tgt := 3) (dd D13_ok 26 rfl) (by decide) ?_
      exact ((k.2 c1).2.2 c2).2.2
set_option maxHeartbeats 1000000 in
theorem vc12_0 {xs : List Int32} {K : Nat → Prop} {h0 : am_H} {d : Nat} {Q : Option Value → cl_A → cl_S → Prop} {A : cl_A} {S : cl_S} {x1 : Int32} {x2 : Int32} {x3 : Int32} {x4 : Int32} {x5 : Int32}
    (k : (cl_z S) ∧ (((((S.2.1 801 0) + 20) ≤ 400) → cl_C xs K (d + 1) 13 [cl_rf A 8 0, .int x1] A S (fun v A' N1 => A' = A ∧ N1.1 = S.1 ∧ v = none ∧ (cl_C xs K (d + 1) 13 [cl_rf A 8 0, .int x2] A N1 (fun v A' N2 => A' = A ∧ N2.1 = N1.1 ∧ v = none ∧ (cl_C xs K (d + 1) 13 [cl_rf A 8 0, .int x3] A N2 (fun v A' N3 => A' = A ∧ N3.1 = N2.1 ∧ v = none ∧ (cl_C xs K (d + 1) 13 [cl_rf A 8 0, .int x4] A N3 (fun v A' N4 => A' = A ∧ N4.1 = N3.1 ∧ v = none ∧ (cl_C xs K (d + 1) 13 [cl_rf A 8 0, .int x5] A N4 (fun v A' N5 => A' = A ∧ N5.1 = N4.1 ∧ v = none ∧ (Q (some (.int (N5.2.1 801 0))) A N5))))))))))) ∧ (¬ (((S.2.1 801 0) + 20) ≤ 400) → Q (some (.int (-1))) A S))) :
    cl_wp xs K h0 (d + 1) Q I12 0 [some (cl_rf A 8 0), some (.int x1), some (.int x2), some (.int x3), some (.int x4), some (.int x5)] [] A S := by
  refine cl_aload_n (dd D12_ok 0 rfl) rfl ?_
  refine cl_gI (g := 801) (e := S.2.1 801 0) (dd D12_ok 1 rfl) pl8_29 (by decide) (by decide) (by decide) rfl rfl k.1.l8 rfl ?_
  refine cl_bipush (v := 20) (dd D12_ok 2 rfl) (by decide) ?_
  refine cl_iadd (dd D12_ok 3 rfl) ?_
  refine cl_sipush (v := 400) (dd D12_ok 4 rfl) (by decide) ?_
  refine cl_icmp_le (tgt := 15) (dd D12_ok 5 rfl) (by decide) (fun c1 => ?_) (fun c1 => ?_)
  · refine cl_aload_n (dd D12_ok 8 rfl) rfl ?_
    refine cl_iload_n (dd D12_ok 9 rfl) rfl ?_
    refine cl_call (as := [.int x1]) (rest := []) (v := 0) (dd D12_ok 10 rfl) pl8_33 rfl (Nat.le_of_ble_eq_true rfl) (ms13 xs) rfl (by decide) k.1.l8 (((k.2.1 c1)).mono ?_) rfl
    rintro v A N1 ⟨rfl, e1, rfl, w1⟩
    refine cl_aload_n (dd D12_ok 11 rfl) rfl ?_
    refine cl_iload_n (dd D12_ok 12 rfl) rfl ?_
    refine cl_call (as := [.int x2]) (rest := []) (v := 0) (dd D12_ok 13 rfl) pl8_33 rfl (Nat.le_of_ble_eq_true rfl) (ms13 xs) rfl (by decide) (k.1.mv e1).l8 ((w1).mono ?_) rfl
    rintro v A N2 ⟨rfl, e2, rfl, w2⟩
    refine cl_aload_n (dd D12_ok 14 rfl) rfl ?_
    refine cl_iload_n (dd D12_ok 15 rfl) rfl ?_
    refine cl_call (as := [.int x3]) (rest := []) (v := 0) (dd D12_ok 16 rfl) pl8_33 rfl (Nat.le_of_ble_eq_true rfl) (ms13 xs) rfl (by decide) ((k.1.mv e1).mv e2).l8 ((w2).mono ?_) rfl
    rintro v A N3 ⟨rfl, e3, rfl, w3⟩
    refine cl_aload_n (dd D12_ok 17 rfl) rfl ?_
    refine cl_iload (dd D12_ok 18 rfl) rfl ?_
    refine cl_call (as := [.int x4]) (rest := []) (v := 0) (dd D12_ok 19 rfl) pl8_33 rfl (Nat.le_of_ble_eq_true rfl) (ms13 xs) rfl (by decide) (((k.1.mv e1).mv e2).mv e3).l8 ((w3).mono ?_) rfl
    rintro v A N4 ⟨rfl, e4, rfl, w4⟩
    refine cl_aload_n (dd D12_ok 20 rfl) rfl ?_
    refine cl_iload (dd D12_ok 21 rfl) rfl ?_
    refine cl_call (as := [.int x5]) (rest := []) (v := 0) (dd D12_ok 22 rfl) pl8_33 rfl (Nat.le_of_ble_eq_true rfl) (ms13 xs) rfl (by decide) ((((k.1.mv e1).mv e2).mv e3).mv e4).l8 ((w4).mono ?_) rfl
    rintro v A N5 ⟨rfl, e5, rfl, w5⟩
    refine cl_aload_n (dd D12_ok 23 rfl) rfl ?_
    refine cl_gI (g := 801) (e := N5.2.1 801 0) (dd D12_ok 24 rfl) pl8_29 (by decide) (by decide) (by decide) rfl rfl (((((k.1.mv e1).mv e2).mv e3).mv e4).mv e5).l8 rfl ?_
    exact cl_iret (dd D12_ok 25 rfl) rfl w5
  · refine cl_iconst (v := (-1)) (dd D12_ok 6 rfl) (by decide) ?_
    exact cl_iret (dd D12_ok 7 rfl) rfl (k.2.2 c1)

def X_fd : List Nat := [801, 2000]
/-- what the tape holds are bytes -/
def TB (S : cl_S) : Prop := ∀ p, ∃ x : Int32, S.2.1 2000 p = x.toInt8.toInt32
/-- the one tape, the one array of nodes -/
def sg (S : cl_S) : Prop := (∀ j, S.1 20 j → j = 0) ∧ ∀ j, S.1 21 j → j = 0
section CR4
variable {xs : List Int32} {Kp : Nat → Prop} {A : cl_A} {S S' : cl_S} {M M' : md_S} {K : bt} {nn W t : Nat}
theorem CR.pf1 (h : CR S M K nn W t) (ht : t + 1 ≤ 400) (b : Int32) : CR (cl_up (cl_up S 2000 t b) 801 0 (nI (t + 1))) (f_pf1 M t b) K nn W (t + 1) := by
  obtain ⟨h1, h2, h3, h4, ⟨a1, a2, a3, a4⟩, ⟨Wp, h6, h6'⟩, h7, h8, h9, h10, h11⟩ := h
  have e : cl_X [2000, 801] S (cl_up (cl_up S 2000 t b) 801 0 (nI (t + 1))) := (cl_X.rf.up (by decide) _ _).up (by decide) _ _
  have e' : ∀ g, g ∉ [2000, 801] → (cl_up (cl_up S 2000 t b) 801 0 (nI (t + 1))).2.1 g = S.2.1 g := e.2.2
  have m2 : ∀ f, f ≠ 0 → (f_pf1 M t b).2 f = M.2 f := fun f hf => by
    funext i
    unfold f_pf1
    rw [md_up1_2, md_up2_ne _ hf]
  have m1 : ∀ f, f ≠ 1 → (f_pf1 M t b).1 f = M.1 f := fun f hf => by
    unfold f_pf1
    rw [md_up1_ne _ hf, md_up2_1]
  refine ⟨h1.m (m1 2 (by decide)) (fun f _ _ => m2 f (by omega)), (h2.x e (by decide)).mm (fun f _ _ => m2 f (by omega)), by rw [e' 803 (by decide)]; exact h3, by rw [e' 2100 (by decide)]; exact h4, ⟨cl_up_at _ _ _ _, md_up1_at _ _ _, ht, fun p hp => ?_⟩, ⟨Wp, h6.x e (by decide), h6'⟩, by rw [e' 301 (by decide)]; exact h7, by rw [m1 29 (by decide)]; exact h8, h9, ?_, ?_⟩
  · rw [cl_up_off _ _ (by omega)]
    unfold f_pf1
    rw [md_up1_2]
    by_cases c : p = t
    · subst c
      rw [cl_up_at, md_up2_at]
    · rw [cl_up_off _ _ (by omega), md_up2_off _ _ (by omega)]
      exact a4 p (by omega)
  · unfold bx_eq at h10 ⊢
    rw [m2 23 (by decide), m2 24 (by decide), m2 25 (by decide), m2 26 (by decide), m2 27 (by decide), e' 511 (by decide), e' 0 (by decide), e' 1 (by decide), e' 2 (by decide), e' 3 (by decide)]
    exact h10
  · unfold wd_eq at h11 ⊢
    rw [m2 30 (by decide), m2 31 (by decide), m2 32 (by decide), m2 33 (by decide), m2 34 (by decide), m2 35 (by decide), m2 36 (by decide), e' 700 (by decide), e' 701 (by decide), e' 702 (by decide), e' 0 (by decide), e' 1 (by decide), e' 2 (by decide), e' 3 (by decide)]
    exact h11
theorem kk_pf1 {h0 : am_H} {d : Nat} {Q : Option Value → cl_A → cl_S → Prop} (h : CR S M K nn W t) (hs : sg S) (ht : t + 1 ≤ 400) {v k k' : Int32} (hk : k = 24 ∨ k = 16 ∨ k = 8 ∨ k = 0) (hk' : k + (-8) = k') (hn : ∀ S', CR S' (f_pf1 M t (f_byte v k)) K nn W (t + 1) → cl_X X_fd S S' → (TB S → TB S') → cl_wp xs Kp h0 d Q I13 3 [some (cl_rf A 8 0), some (.int v), some (.int k')] [] A S') : cl_wp xs Kp h0 d Q I13 3 [some (cl_rf A 8 0), some (.int v), some (.int k)] [] A S := by
  have hn := hn _ (h.pf1 ht (f_byte v k)) ((cl_X.rf.up (by decide) _ _).up (by decide) _ _) (fun hT p => by
    rw [cl_up_off _ _ (by omega)]
    by_cases c : p = t
    · subst c
      rw [cl_up_at]
      exact ⟨_, rfl⟩
    · rw [cl_up_off _ _ (by omega)]
      exact hT p)
  subst hk'
  have hk0 : ¬ k < 0 := by rcases hk with rfl | rfl | rfl | rfl <;> decide
  have a1 := h.2.2.2.2.1.1
  refine vc13_3 ⟨fun q => absurd q hk0, fun _ => ⟨h.2.1.2.1, fun c => ?_, fun c => ⟨hs.1, ?_, ?_⟩⟩⟩
  · rw [a1] at c
    exact absurd c (nI_ge (a := t) (b := 400) (by omega) (by omega))
  · rw [a1]
    exact vp_nI (by omega) (by decide)
  · rw [a1, nI_clamp (by omega), nI_1, byte_sh _ _ hk]
    exact hn
theorem kk_put (h : CR S M K nn W t) (hs : sg S) (ht : t + 4 ≤ 400) {d : Nat} {v : Int32} : ∀ Q', (∀ S', CR S' (f_pf M t v) K nn W (t + 4) → cl_X X_fd S S' → (TB S → TB S') → Q' none A S') → cl_C xs Kp (d + 1) 13 [cl_rf A 8 0, .int v] A S Q' := by
  intro Q' hQ
  refine cl_intro (ms13 xs) (Nat.le_of_ble_eq_true rfl) (fun h0 => vc13_0 ?_)
  refine kk_pf1 h hs (by omega) (by simp) (show (24 : Int32) + (-8) = 16 by decide) (fun S1 q1 l1 b1 => ?_)
  refine kk_pf1 q1 (by unfold sg; rw [l1.1]; exact hs) (by omega) (by simp) (show (16 : Int32) + (-8) = 8 by decide) (fun S2 q2 l2 b2 => ?_)
  refine kk_pf1 q2 (by unfold sg; rw [l2.1, l1.1]; exact hs) (by omega) (by simp) (show (8 : Int32) + (-8) = 0 by decide) (fun S3 q3 l3 b3 => ?_)
  refine kk_pf1 q3 (by unfold sg; rw [l3.1, l2.1, l1.1]; exact hs) (by omega) (by simp) (show (0 : Int32) + (-8) = -8 by decide) (fun S4 q4 l4 b4 => ?_)
  exact vc13_3 ⟨fun _ => hQ S4 q4 (((l1.tr l2).tr l3).tr l4) (fun z => b4 (b3 (b2 (b1 z)))), fun q => absurd (by decide) q⟩
theorem kk_feed (h : CR S M K nn W t) (hs : sg S) {d : Nat} {a b c e f : Int32} : ∀ Q', (∀ S' t', CR S' (if t ≤ 380 then f_feed_M M t a b c e f else M) K nn W t' → cl_X X_fd S S' → (TB S → TB S') → Q' (some (.int (if t ≤ 380 then nI (t + 20) else -1))) A S') → cl_C xs Kp (d + 2) 12 [cl_rf A 8 0, .int a, .int b, .int c, .int e, .int f] A S Q' := by
  intro Q' hQ
  have a1 := h.2.2.2.2.1.1
  have a3 := h.2.2.2.2.1.2.2.1
  have hc : S.2.1 801 0 + 20 ≤ 400 ↔ t ≤ 380 := by
    rw [a1, show (20 : Int32) = nI 20 from rfl, show (400 : Int32) = nI 400 from rfl, nI_add, nI_leI (by omega) (by omega)]
    omega
  refine cl_intro (ms12 xs) (Nat.le_of_ble_eq_true rfl) (fun h0 => vc12_0 ⟨h.2.1.2.1, ?_⟩)
  rw [hc]
  refine ⟨fun q => ?_, fun q => ?_⟩
  · rw [if_pos q, if_pos q] at hQ
    refine kk_put h hs (by omega) _ (fun S1 q1 l1 b1 => ⟨rfl, l1.1, rfl, ?_⟩)
    refine kk_put q1 (by unfold sg; rw [l1.1]; exact hs) (by omega) _ (fun S2 q2 l2 b2 => ⟨rfl, l2.1, rfl, ?_⟩)
    refine kk_put q2 (by unfold sg; rw [l2.1, l1.1]; exact hs) (by omega) _ (fun S3 q3 l3 b3 => ⟨rfl, l3.1, rfl, ?_⟩)
    refine kk_put q3 (by unfold sg; rw [l3.1, l2.1, l1.1]; exact hs) (by omega) _ (fun S4 q4 l4 b4 => ⟨rfl, l4.1, rfl, ?_⟩)
    refine kk_put q4 (by unfold sg; rw [l4.1, l3.1, l2.1, l1.1]; exact hs) (by omega) _ (fun S5 q5 l5 b5 => ⟨rfl, l5.1, rfl, ?_⟩)
    have := hQ S5 _ q5 ((((l1.tr l2).tr l3).tr l4).tr l5) (fun z => b5 (b4 (b3 (b2 (b1 z)))))
    rw [q5.2.2.2.2.1.1]
    exact this
  · rw [if_neg q, if_neg q] at hQ
    exact hQ S t h cl_X.rf id
end CR4
