/-! the reference: node, text, set (by program and hand: wip/whole/gen/m8.py) -/
theorem f_fr3_1 (M : md_S) (n : Nat) (q : Int32) : (f_fr3 M n q).1 = M.1 := by
  unfold f_fr3
  split
  · rfl
  · split <;> rfl
theorem f_fresh_1 (M : md_S) (n : Nat) (q k : Int32) : (f_fresh_M M n q k).1 = M.1 := by
  unfold f_fresh_M
  rw [f_fr3_1]
  rfl
theorem f_fr2_ne (M : md_S) (n : Nat) (k : Int32) {g : Nat} (h : g ≠ 9) : (f_fr2 M n k).2 g = M.2 g := by
  unfold f_fr2
  rw [md_up2_ne _ h, md_up2_ne _ h, md_up2_ne _ h, md_up2_ne _ h]
  funext j
  show (if g = 9 ∧ _ then (0 : Int32) else M.2 g j) = _
  rw [if_neg (fun q => h q.1)]
def f_node_ok (M : md_S) (a k : Int32) : Prop := ¬ f_there M a = 0 ∧ ¬ ¬ M.2 3 a.toNatClampNeg = 0 ∧ ¬ k < 0 ∧ ¬ 3 < k ∧ ¬ M.1 2 = 60 ∧ ¬ M.2 8 a.toNatClampNeg = 12
def f_node_M (M : md_S) (nn : Nat) (a k : Int32) : md_S := md_up1 (md_up2 (f_fresh_M M nn a k) 23 nn 0) 2 (nI (nn + 1))
theorem c_node {xs : List Int32} {mo : Nat} {ad : Nat → Nat} {d : Nat} {M : md_S} {nn : Nat} {a k : Int32} (hD : md_D mo ad) (hn : M.1 2 = nI nn) (h6 : nn ≤ 60) (hL : ∀ i, i < nn → ¬ M.2 6 i = -1 → vp_in (M.2 6 i) 60) : ∀ Q', (f_node_ok M a k → Q' (some (.int (nI nn))) (f_node_M M nn a k)) → (¬ f_node_ok M a k → Q' (some (.int (-1))) M) → md_C xs mo ad (d + 4) 110 [.int a, .int k] M Q' := by
  intro Q' hY hN
  refine md_intro (ms110 xs) (Nat.le_of_ble_eq_true rfl) (fun h0 => vc110_0 hD ?_)
  refine ⟨fun c => hN (fun o => o.1 c), fun c1 => ?_⟩
  obtain ⟨i, hi, rfl⟩ := f_there_of hn h6 c1
  refine ⟨vp_nI (by omega) (by decide), fun c => hN (fun o => o.2.1 c), fun c2 => ⟨fun c => hN (fun o => o.2.2.1 c), fun c3 => ⟨fun c => hN (fun o => o.2.2.2.1 c), fun c4 => ⟨fun c => hN (fun o => o.2.2.2.2.1 c), fun c5 => ⟨fun c6 => ?_, fun c => hN (fun o => c o.2.2.2.2.2)⟩⟩⟩⟩⟩
  have hY := hY ⟨c1, c2, c3, c4, c5, c6⟩
  have h60 : nn < 60 := by
    rcases Nat.lt_or_ge nn 60 with h | h
    · exact h
    · obtain rfl : nn = 60 := by omega
      exact absurd hn c5
  rw [hn]
  have hpre : ¬ nI i = -1 → vp_in (nI i) 60 ∧ (¬ (f_fr2 (f_fr1 M nn (nI i) k) nn k).2 6 (nI i).toNatClampNeg = -1 → vp_in ((f_fr2 (f_fr1 M nn (nI i) k) nn k).2 6 (nI i).toNatClampNeg) 60) := by
    intro _
    have e : (f_fr2 (f_fr1 M nn (nI i) k) nn k).2 6 (nI i).toNatClampNeg = M.2 6 i := by
      rw [f_fr2_ne _ _ _ (by decide), nI_clamp (by omega)]
      unfold f_fr1
      rw [md_up2_ne _ (by decide), md_up2_ne _ (by decide), md_up2_ne _ (by decide), md_up2_off _ _ (by omega), md_up2_ne _ (by decide), md_up2_ne _ (by decide), md_up2_ne _ (by decide)]
    rw [e]
    exact ⟨vp_nI (by omega) (by decide), hL i hi⟩
  refine c_fresh hD h60 hpre _ ⟨rfl, ?_⟩
  have e2 : (f_fresh_M M nn (nI i) k).1 2 = nI nn := by rw [f_fresh_1]; exact hn
  rw [show ((0 : Int32) &&& 1) = 0 by decide, md_up2_1, md_up1_at, e2, nI_clamp (by omega), nI_1, nI_pred]
  exact ⟨vp_nI h60 (by decide), hY⟩
set_option maxHeartbeats 1000000 in
theorem vc112_0 {xs : List Int32} {mo : Nat} {ad : Nat → Nat} (hD : md_D mo ad) {h0 : am_H} {d : Nat} {Q : Option Value → md_S → Prop} {M : md_S} {x1 : Int32}
    (k : (((f_there M x1) = 0) → Q (some (.int (-1))) M) ∧ (¬ ((f_there M x1) = 0) → (vp_in x1 60) ∧ (((¬ (M.2 3 x1.toNatClampNeg) = 1) → Q (some (.int (-1))) M) ∧ (¬ (¬ (M.2 3 x1.toNatClampNeg) = 1) → (((M.1 1) ≤ 120) → md_wp xs mo ad h0 (d + 1) Q I112 31 [some (.ref mo), some (.int x1), some (.int 0)] [] M) ∧ (¬ ((M.1 1) ≤ 120) → Q (some (.int (-1))) M))))) :
    md_wp xs mo ad h0 (d + 1) Q I112 0 [some (.ref mo), some (.int x1), none] [] M := by
  refine md_aload0 (dd D112_ok 0 rfl) rfl ?_
  refine md_iload_n (dd D112_ok 1 rfl) rfl ?_
  refine md_callI (as := [.int x1]) (rest := []) (dd D112_ok 2 rfl) pl9_156 rfl (Nat.le_of_ble_eq_true rfl) (ms111 xs) rfl (c_f_there hD ) rfl ?_
  refine md_if_eq (tgt := 27) (dd D112_ok 3 rfl) (by decide) (fun c1 => ?_) (fun c1 => ?_)
  · refine md_iconst (v := (-1)) (dd D112_ok 14 rfl) (by decide) ?_
    exact md_iret (dd D112_ok 15 rfl) rfl (k.1 c1)
  · refine md_aload0 (dd D112_ok 4 rfl) rfl ?_
    refine md_getA (dd D112_ok 5 rfl) pl9_17 (by decide) rfl ?_
    refine md_iload_n (dd D112_ok 6 rfl) rfl ?_
    refine md_iald (f := 3) (dd D112_ok 7 rfl) rfl (k.2 c1).1 ?_
    refine md_iconst (v := 1) (dd D112_ok 8 rfl) (by decide) ?_
    refine md_icmp_ne (tgt := 27) (dd D112_ok 9 rfl) (by decide) (fun c2 => ?_) (fun c2 => ?_)
    · refine md_iconst (v := (-1)) (dd D112_ok 14 rfl) (by decide) ?_
      exact md_iret (dd D112_ok 15 rfl) rfl ((k.2 c1).2.1 c2)
    · refine md_aload0 (dd D112_ok 10 rfl) rfl ?_
      refine md_getI (dd D112_ok 11 rfl) pl9_142 (by decide) rfl ?_
      refine md_bipush (v := 120) (dd D112_ok 12 rfl) (by decide) ?_
      refine md_icmp_le (tgt := 29) (dd D112_ok 13 rfl) (by decide) (fun c3 => ?_) (fun c3 => ?_)
      · refine md_iconst (v := 0) (dd D112_ok 16 rfl) (by decide) ?_
        refine md_istore_n (dd D112_ok 17 rfl) (Nat.le_of_ble_eq_true rfl) ?_
        exact (((k.2 c1).2.2 c2).1 c3)
      · refine md_iconst (v := (-1)) (dd D112_ok 14 rfl) (by decide) ?_
        exact md_iret (dd D112_ok 15 rfl) rfl (((k.2 c1).2.2 c2).2 c3)
set_option maxHeartbeats 1000000 in
theorem vc112_31 {xs : List Int32} {mo : Nat} {ad : Nat → Nat} (hD : md_D mo ad) {h0 : am_H} {d : Nat} {Q : Option Value → md_S → Prop} {M : md_S} {x1 : Int32} {x2 : Int32}
    (k : (((M.1 1) ≤ x2) → (vp_in x1 60) ∧ (Q (some (.int ((md_up1 (md_up2 M 11 x1.toNatClampNeg (M.1 1)) 1 0).2 11 x1.toNatClampNeg))) (md_up1 (md_up2 M 11 x1.toNatClampNeg (M.1 1)) 1 0))) ∧ (¬ ((M.1 1) ≤ x2) → (vp_in x2 400) ∧ ((vp_in ((120 * x1) + x2) 7200) ∧ (md_wp xs mo ad h0 (d + 1) Q I112 31 [some (.ref mo), some (.int x1), some (.int (x2 + 1))] [] (md_up2 M 10 ((120 * x1) + x2).toNatClampNeg (M.2 0 x2.toNatClampNeg).toInt8.toInt32))))) :
    md_wp xs mo ad h0 (d + 1) Q I112 31 [some (.ref mo), some (.int x1), some (.int x2)] [] M := by
  refine md_iload_n (dd D112_ok 18 rfl) rfl ?_
  refine md_aload0 (dd D112_ok 19 rfl) rfl ?_
  refine md_getI (dd D112_ok 20 rfl) pl9_142 (by decide) rfl ?_
  refine md_icmp_ge (tgt := 62) (dd D112_ok 21 rfl) (by decide) (fun c1 => ?_) (fun c1 => ?_)
  · refine md_aload0 (dd D112_ok 36 rfl) rfl ?_
    refine md_getA (dd D112_ok 37 rfl) pl9_42 (by decide) rfl ?_
    refine md_iload_n (dd D112_ok 38 rfl) rfl ?_
    refine md_aload0 (dd D112_ok 39 rfl) rfl ?_
    refine md_getI (dd D112_ok 40 rfl) pl9_142 (by decide) rfl ?_
    refine md_iast (f := 11) hD (dd D112_ok 41 rfl) rfl (k.1 c1).1 ?_
    refine md_aload0 (dd D112_ok 42 rfl) rfl ?_
    refine md_iconst (v := 0) (dd D112_ok 43 rfl) (by decide) ?_
    refine md_putI hD (dd D112_ok 44 rfl) pl9_142 (by decide) rfl rfl rfl ?_
    refine md_aload0 (dd D112_ok 45 rfl) rfl ?_
    refine md_getA (dd D112_ok 46 rfl) pl9_42 (by decide) rfl ?_
    refine md_iload_n (dd D112_ok 47 rfl) rfl ?_
    refine md_iald (f := 11) (dd D112_ok 48 rfl) rfl (k.1 c1).1 ?_
    exact md_iret (dd D112_ok 49 rfl) rfl (k.1 c1).2
  · refine md_aload0 (dd D112_ok 22 rfl) rfl ?_
    refine md_getA (dd D112_ok 23 rfl) pl9_39 (by decide) rfl ?_
    refine md_bipush (v := 120) (dd D112_ok 24 rfl) (by decide) ?_
    refine md_iload_n (dd D112_ok 25 rfl) rfl ?_
    refine md_imul (dd D112_ok 26 rfl) ?_
    refine md_iload_n (dd D112_ok 27 rfl) rfl ?_
    refine md_iadd (dd D112_ok 28 rfl) ?_
    refine md_aload0 (dd D112_ok 29 rfl) rfl ?_
    refine md_getA (dd D112_ok 30 rfl) pl9_7 (by decide) rfl ?_
    refine md_iload_n (dd D112_ok 31 rfl) rfl ?_
    refine md_bald (f := 0) (dd D112_ok 32 rfl) rfl (Or.inl rfl) (k.2 c1).1 ?_
    refine md_bast (f := 10) hD (dd D112_ok 33 rfl) rfl (k.2 c1).2.1 ?_
    refine md_iinc (v := x2 + 1) (dd D112_ok 34 rfl) rfl rfl ?_
    refine md_goto (tgt := 31) (dd D112_ok 35 rfl) (by decide) ?_
    exact (k.2 c1).2.2
/-- j bytes of the tape, in text n -/
def md_cp (M : md_S) (n j : Nat) : md_S := (M.1, fun f i => if f = 10 ∧ 120 * n ≤ i ∧ i < 120 * n + j then (M.2 0 (i - 120 * n)).toInt8.toInt32 else M.2 f i)
theorem md_cp_0 (M : md_S) (n : Nat) : md_cp M n 0 = M := by
  unfold md_cp
  congr 1
  funext f i
  rw [if_neg (by omega)]
theorem md_cp_succ (M : md_S) (n j : Nat) : md_up2 (md_cp M n j) 10 (120 * n + j) (M.2 0 j).toInt8.toInt32 = md_cp M n (j + 1) := by
  unfold md_cp md_up2
  congr 1
  funext f i
  by_cases h : f = 10 ∧ i = 120 * n + j
  · rw [if_pos h, if_pos (by omega), h.2, Nat.add_sub_cancel_left]
  · rw [if_neg h]
    show (if f = 10 ∧ 120 * n ≤ i ∧ i < 120 * n + j then _ else M.2 f i) = _
    by_cases h2 : f = 10 ∧ 120 * n ≤ i ∧ i < 120 * n + j
    · rw [if_pos h2, if_pos (by omega)]
    · rw [if_neg h2, if_neg (by omega)]
def f_text_ok (M : md_S) (a : Int32) : Prop := ¬ f_there M a = 0 ∧ ¬ ¬ M.2 3 a.toNatClampNeg = 1 ∧ M.1 1 ≤ 120
def f_text_M (M : md_S) (n t : Nat) : md_S := md_up1 (md_up2 (md_cp M n t) 11 n (nI t)) 1 0
theorem c_text_loop {xs : List Int32} {mo : Nat} {ad : Nat → Nat} (hD : md_D mo ad) {h0 : am_H} {d : Nat} {Q : Option Value → md_S → Prop} {M : md_S} {n t : Nat} (hn : n < 60) (ht : M.1 1 = nI t) (h4 : t ≤ 120) (hQ : Q (some (.int (nI t))) (f_text_M M n t)) : ∀ r j, j + r = t → md_wp xs mo ad h0 (d + 1) Q I112 31 [some (.ref mo), some (.int (nI n)), some (.int (nI j))] [] (md_cp M n j) := by
  intro r
  induction r with
  | zero =>
    intro j hj
    obtain rfl : j = t := by omega
    have e : (md_cp M n j).1 1 = nI j := ht
    refine vc112_31 hD ⟨fun _ => ⟨vp_nI hn (by decide), ?_⟩, fun q => absurd (by rw [e]; exact nI_le (Nat.le_refl _) (by omega)) q⟩
    rw [md_up1_2, md_up2_at, e, nI_clamp (by omega)]
    exact hQ
  | succ r ih =>
    intro j hj
    have e : (md_cp M n j).1 1 = nI t := ht
    have hj9 : ¬ (md_cp M n j).1 1 ≤ nI j := by rw [e]; exact nI_ge (by omega) (by omega)
    have e2 : (120 : Int32) * nI n + nI j = nI (120 * n + j) := by rw [show (120 : Int32) = nI 120 from rfl, pk_mul, nI_add]
    refine vc112_31 hD ⟨fun q => absurd q hj9, fun _ => ?_⟩
    rw [e2, nI_clamp (by omega), nI_clamp (by omega), nI_1]
    refine ⟨vp_nI (by omega) (by decide), vp_nI (by omega) (by decide), ?_⟩
    have e3 : (md_cp M n j).2 0 j = M.2 0 j := by
      simp [md_cp]
    rw [e3, md_cp_succ]
    exact ih (j + 1) (by omega)
theorem c_text {xs : List Int32} {mo : Nat} {ad : Nat → Nat} {d : Nat} {M : md_S} {nn t : Nat} {a : Int32} (hD : md_D mo ad) (hn : M.1 2 = nI nn) (h6 : nn ≤ 60) (ht : M.1 1 = nI t) (h4 : t ≤ 400) : ∀ Q', (f_text_ok M a → Q' (some (.int (nI t))) (f_text_M M a.toNatClampNeg t)) → (¬ f_text_ok M a → Q' (some (.int (-1))) M) → md_C xs mo ad (d + 2) 112 [.int a] M Q' := by
  intro Q' hY hN
  refine md_intro (ms112 xs) (Nat.le_of_ble_eq_true rfl) (fun h0 => vc112_0 hD ?_)
  refine ⟨fun c => hN (fun o => o.1 c), fun c1 => ?_⟩
  obtain ⟨i, hi, rfl⟩ := f_there_of hn h6 c1
  refine ⟨vp_nI (by omega) (by decide), fun c => hN (fun o => o.2.1 c), fun c2 => ⟨fun c3 => ?_, fun c => hN (fun o => c o.2.2)⟩⟩
  have hY := hY ⟨c1, c2, c3⟩
  rw [nI_clamp (by omega)] at hY
  have h12 : t ≤ 120 := by
    rw [ht, show (120 : Int32) = nI 120 from rfl, nI_leI (by omega) (by omega)] at c3
    exact c3
  have := c_text_loop (xs := xs) (mo := mo) (ad := ad) (h0 := h0) (d := d) hD (show i < 60 by omega) ht h12 hY t 0 (by omega)
  rw [md_cp_0] at this
  exact this
set_option maxHeartbeats 1000000 in
theorem vc113_0 {xs : List Int32} {mo : Nat} {ad : Nat → Nat} (hD : md_D mo ad) {h0 : am_H} {d : Nat} {Q : Option Value → md_S → Prop} {M : md_S} {x1 : Int32} {x2 : Int32} {x3 : Int32}
    (k : (((f_there M x1) = 0) → Q (some (.int (-2))) M) ∧ (¬ ((f_there M x1) = 0) → (vp_in x1 60) ∧ (((¬ (f_mayBe M x1 x2 x3) = 0) → (vp_in ((9 * x1) + x2) 540) ∧ (Q (some (.int (M.2 9 ((9 * x1) + x2).toNatClampNeg))) (md_up2 M 9 ((9 * x1) + x2).toNatClampNeg x3))) ∧ (¬ (¬ (f_mayBe M x1 x2 x3) = 0) → Q (some (.int (-2))) M)))) :
    md_wp xs mo ad h0 (d + 1) Q I113 0 [some (.ref mo), some (.int x1), some (.int x2), some (.int x3), none] [] M := by
  refine md_aload0 (dd D113_ok 0 rfl) rfl ?_
  refine md_iload_n (dd D113_ok 1 rfl) rfl ?_
  refine md_callI (as := [.int x1]) (rest := []) (dd D113_ok 2 rfl) pl9_156 rfl (Nat.le_of_ble_eq_true rfl) (ms111 xs) rfl (c_f_there hD ) rfl ?_
  refine md_if_eq (tgt := 18) (dd D113_ok 3 rfl) (by decide) (fun c1 => ?_) (fun c1 => ?_)
  · refine md_bipush (v := (-2)) (dd D113_ok 10 rfl) (by decide) ?_
    exact md_iret (dd D113_ok 11 rfl) rfl (k.1 c1)
  · refine md_aload0 (dd D113_ok 4 rfl) rfl ?_
    refine md_iload_n (dd D113_ok 5 rfl) rfl ?_
    refine md_iload_n (dd D113_ok 6 rfl) rfl ?_
    refine md_iload_n (dd D113_ok 7 rfl) rfl ?_
    refine md_callI (as := [.int x1, .int x2, .int x3]) (rest := []) (dd D113_ok 8 rfl) pl9_160 rfl (Nat.le_of_ble_eq_true rfl) (ms114 xs) rfl (c_f_mayBe hD (k.2 c1).1) rfl ?_
    refine md_if_ne (tgt := 21) (dd D113_ok 9 rfl) (by decide) (fun c2 => ?_) (fun c2 => ?_)
    · refine md_aload0 (dd D113_ok 12 rfl) rfl ?_
      refine md_getA (dd D113_ok 13 rfl) pl9_36 (by decide) rfl ?_
      refine md_bipush (v := 9) (dd D113_ok 14 rfl) (by decide) ?_
      refine md_iload_n (dd D113_ok 15 rfl) rfl ?_
      refine md_imul (dd D113_ok 16 rfl) ?_
      refine md_iload_n (dd D113_ok 17 rfl) rfl ?_
      refine md_iadd (dd D113_ok 18 rfl) ?_
      refine md_iald (f := 9) (dd D113_ok 19 rfl) rfl ((k.2 c1).2.1 c2).1 ?_
      refine md_istore (dd D113_ok 20 rfl) (Nat.le_of_ble_eq_true rfl) ?_
      refine md_aload0 (dd D113_ok 21 rfl) rfl ?_
      refine md_getA (dd D113_ok 22 rfl) pl9_36 (by decide) rfl ?_
      refine md_bipush (v := 9) (dd D113_ok 23 rfl) (by decide) ?_
      refine md_iload_n (dd D113_ok 24 rfl) rfl ?_
      refine md_imul (dd D113_ok 25 rfl) ?_
      refine md_iload_n (dd D113_ok 26 rfl) rfl ?_
      refine md_iadd (dd D113_ok 27 rfl) ?_
      refine md_iload_n (dd D113_ok 28 rfl) rfl ?_
      refine md_iast (f := 9) hD (dd D113_ok 29 rfl) rfl ((k.2 c1).2.1 c2).1 ?_
      refine md_iload (dd D113_ok 30 rfl) rfl ?_
      exact md_iret (dd D113_ok 31 rfl) rfl ((k.2 c1).2.1 c2).2
    · refine md_bipush (v := (-2)) (dd D113_ok 10 rfl) (by decide) ?_
      exact md_iret (dd D113_ok 11 rfl) rfl ((k.2 c1).2.2 c2)
def f_set_ok (M : md_S) (a w v : Int32) : Prop := ¬ f_there M a = 0 ∧ ¬ f_mayBe M a w v = 0
theorem f_mayBe_w {M : md_S} {a w v : Int32} (h : ¬ f_mayBe M a w v = 0) : vp_in w 9 := by
  by_cases h0 : w = 0
  · subst h0; exact md_vl (by decide)
  by_cases h1 : w = 1
  · subst h1; exact md_vl (by decide)
  by_cases h2 : w = 2
  · subst h2; exact md_vl (by decide)
  by_cases h3 : w = 3
  · subst h3; exact md_vl (by decide)
  by_cases h4 : w = 4
  · subst h4; exact md_vl (by decide)
  by_cases h5 : w = 5
  · subst h5; exact md_vl (by decide)
  by_cases h6 : w = 6
  · subst h6; exact md_vl (by decide)
  by_cases h7 : w = 7
  · subst h7; exact md_vl (by decide)
  by_cases h8 : w = 8
  · subst h8; exact md_vl (by decide)
  unfold f_mayBe at h
  rw [if_neg h0, if_neg h1, if_neg h2, if_neg h3, if_neg h4, if_neg h5, if_neg h6, if_neg h7, if_neg h8] at h
  exact absurd rfl h
def f_set_M (M : md_S) (n p : Nat) (v : Int32) : md_S := md_up2 M 9 (9 * n + p) v
theorem c_set {xs : List Int32} {mo : Nat} {ad : Nat → Nat} {d : Nat} {M : md_S} {nn : Nat} {a w v : Int32} (hD : md_D mo ad) (hn : M.1 2 = nI nn) (h6 : nn ≤ 60) : ∀ Q', (f_set_ok M a w v → Q' (some (.int (M.2 9 (9 * a.toNatClampNeg + w.toNatClampNeg)))) (f_set_M M a.toNatClampNeg w.toNatClampNeg v)) → (¬ f_set_ok M a w v → Q' (some (.int (-2))) M) → md_C xs mo ad (d + 2) 113 [.int a, .int w, .int v] M Q' := by
  intro Q' hY hN
  refine md_intro (ms113 xs) (Nat.le_of_ble_eq_true rfl) (fun h0 => vc113_0 hD ?_)
  refine ⟨fun c => hN (fun o => o.1 c), fun c1 => ?_⟩
  obtain ⟨i, hi, rfl⟩ := f_there_of hn h6 c1
  refine ⟨vp_nI (by omega) (by decide), fun c2 => ?_, fun c => hN (fun o => c o.2)⟩
  have hY := hY ⟨c1, c2⟩
  obtain ⟨p, hp, rfl⟩ := vp_in_of (f_mayBe_w c2) (by decide)
  rw [nI_9, nI_clamp (by omega)]
  rw [nI_clamp (by omega), nI_clamp (by omega)] at hY
  exact ⟨vp_nI (by omega) (by decide), hY⟩
