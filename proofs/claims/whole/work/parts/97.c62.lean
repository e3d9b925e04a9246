/-! the class: node (by program and by hand: wip/whole/gen/c62.py) -/
set_option maxHeartbeats 1000000 in
theorem vc20_0 {xs : List Int32} {K : Nat → Prop} {h0 : am_H} {d : Nat} {Q : Option Value → cl_A → cl_S → Prop} {A : cl_A} {S : cl_S} {x0 : Int32} {x1 : Int32}
    (k : (cl_n S x0) ∧ (((¬ (S.2.1 506 x0.toNatClampNeg) = -1) → (cl_n S (S.2.1 506 x0.toNatClampNeg)) ∧ (Q none A (cl_up (cl_up S 507 (S.2.1 506 x0.toNatClampNeg).toNatClampNeg x1) 506 x0.toNatClampNeg x1))) ∧ (¬ (¬ (S.2.1 506 x0.toNatClampNeg) = -1) → Q none A (cl_up (cl_up S 505 x0.toNatClampNeg x1) 506 x0.toNatClampNeg x1)))) :
    cl_wp xs K h0 d Q I20 0 [some (cl_rf A 5 x0), some (cl_rf A 5 x1)] [] A S := by
  refine cl_aload_n (dd D20_ok 0 rfl) rfl ?_
  refine cl_gR (g := 506) (f := 5) (e := S.2.1 506 x0.toNatClampNeg) (dd D20_ok 1 rfl) pl5_46 (by decide) (by decide) (by decide) rfl rfl k.1.l5 rfl ?_
  refine cl_ifnonnull (tgt := 15) (dd D20_ok 2 rfl) (by decide) (fun c1 => ?_) (fun c1 => ?_)
  · refine cl_aload_n (dd D20_ok 7 rfl) rfl ?_
    refine cl_gR (g := 506) (f := 5) (e := S.2.1 506 x0.toNatClampNeg) (dd D20_ok 8 rfl) pl5_46 (by decide) (by decide) (by decide) rfl rfl k.1.l5 rfl ?_
    refine cl_aload_n (dd D20_ok 9 rfl) rfl ?_
    refine cl_pR (g := 507) (f := 5) (dd D20_ok 10 rfl) pl5_52 (by decide) (by decide) rfl rfl rfl ⟨_, rfl⟩ rfl (k.2.1 c1).1.l5 ?_
    refine cl_aload_n (dd D20_ok 11 rfl) rfl ?_
    refine cl_aload_n (dd D20_ok 12 rfl) rfl ?_
    refine cl_pR (g := 506) (f := 5) (dd D20_ok 13 rfl) pl5_46 (by decide) (by decide) rfl rfl rfl ⟨_, rfl⟩ rfl k.1.l5 ?_
    exact cl_vret (dd D20_ok 14 rfl) rfl (k.2.1 c1).2
  · refine cl_aload_n (dd D20_ok 3 rfl) rfl ?_
    refine cl_aload_n (dd D20_ok 4 rfl) rfl ?_
    refine cl_pR (g := 505) (f := 5) (dd D20_ok 5 rfl) pl5_49 (by decide) (by decide) rfl rfl rfl ⟨_, rfl⟩ rfl k.1.l5 ?_
    refine cl_goto (tgt := 23) (dd D20_ok 6 rfl) (by decide) ?_
    refine cl_aload_n (dd D20_ok 11 rfl) rfl ?_
    refine cl_aload_n (dd D20_ok 12 rfl) rfl ?_
    refine cl_pR (g := 506) (f := 5) (dd D20_ok 13 rfl) pl5_46 (by decide) (by decide) rfl rfl rfl ⟨_, rfl⟩ rfl k.1.l5 ?_
    exact cl_vret (dd D20_ok 14 rfl) rfl (k.2.2 c1)
set_option maxHeartbeats 1000000 in
theorem vc17_0 {xs : List Int32} {K : Nat → Prop} {h0 : am_H} {d : Nat} {Q : Option Value → cl_A → cl_S → Prop} {A : cl_A} {S : cl_S} {x1 : Int32} {x2 : Int32}
    (k : (cl_z S) ∧ (cl_C xs K (d + 3) 18 [cl_rf A 8 0, .int x1] A S (fun v A' N1 => A' = A ∧ N1.1 = S.1 ∧ ∃ y1, v = some (cl_rf A 5 y1) ∧ (((y1 = -1) → Q (some (.int (-1))) A N1) ∧ (¬ (y1 = -1) → ((x2 < 0) → Q (some (.int (-1))) A N1) ∧ (¬ (x2 < 0) → ((x2 ≤ 3) → ((60 ≤ (N1.2.1 803 0)) → Q (some (.int (-1))) A N1) ∧ (¬ (60 ≤ (N1.2.1 803 0)) → (cl_n N1 y1) ∧ ((((N1.2.1 503 y1.toNatClampNeg) < 12) → cl_wp xs K h0 (d + 3) Q I17 56 [some (cl_rf A 8 0), some (.int x1), some (.int x2), some (cl_rf A 5 y1), some (.int (N1.2.1 803 0))] [.int (N1.2.1 803 0), cl_rf A 21 0] A N1) ∧ (¬ ((N1.2.1 503 y1.toNatClampNeg) < 12) → Q (some (.int (-1))) A N1)))) ∧ (¬ (x2 ≤ 3) → Q (some (.int (-1))) A N1))))))) :
    cl_wp xs K h0 (d + 3) Q I17 0 [some (cl_rf A 8 0), some (.int x1), some (.int x2), none, none] [] A S := by
  refine cl_aload_n (dd D17_ok 0 rfl) rfl ?_
  refine cl_iload_n (dd D17_ok 1 rfl) rfl ?_
  refine cl_call (as := [.int x1]) (rest := []) (v := 0) (dd D17_ok 2 rfl) pl8_40 rfl (Nat.le_of_ble_eq_true rfl) (ms18 xs) rfl (by decide) k.1.l8 ((k.2).mono ?_) rfl
  rintro v A N1 ⟨rfl, e1, y1, rfl, w1⟩
  refine cl_astore_n (dd D17_ok 3 rfl) (Nat.le_of_ble_eq_true rfl) ?_
  refine cl_aload_n (dd D17_ok 4 rfl) rfl ?_
  refine cl_ifnull (tgt := 19) (dd D17_ok 5 rfl) (by decide) (fun c1 => ?_) (fun c1 => ?_)
  · refine cl_iconst (v := (-1)) (dd D17_ok 11 rfl) (by decide) ?_
    exact cl_iret (dd D17_ok 12 rfl) rfl (w1.1 c1)
  · refine cl_iload_n (dd D17_ok 6 rfl) rfl ?_
    refine cl_if_lt (tgt := 19) (dd D17_ok 7 rfl) (by decide) (fun c2 => ?_) (fun c2 => ?_)
    · refine cl_iconst (v := (-1)) (dd D17_ok 11 rfl) (by decide) ?_
      exact cl_iret (dd D17_ok 12 rfl) rfl ((w1.2 c1).1 c2)
    · refine cl_iload_n (dd D17_ok 8 rfl) rfl ?_
      refine cl_iconst (v := 3) (dd D17_ok 9 rfl) (by decide) ?_
      refine cl_icmp_le (tgt := 21) (dd D17_ok 10 rfl) (by decide) (fun c3 => ?_) (fun c3 => ?_)
      · refine cl_aload_n (dd D17_ok 13 rfl) rfl ?_
        refine cl_gI (g := 803) (e := N1.2.1 803 0) (dd D17_ok 14 rfl) pl8_44 (by decide) (by decide) (by decide) rfl rfl (k.1.mv e1).l8 rfl ?_
        refine cl_aload_n (dd D17_ok 15 rfl) rfl ?_
        refine cl_getO (g := 21) (dd D17_ok 16 rfl) pl8_15 (by decide) (by decide) (by decide) rfl (k.1.mv e1).l8 ?_
        refine cl_len (f := 21) (n := 60) (dd D17_ok 17 rfl) (by decide) (k.1.mv e1).l21 (Or.inr (Or.inr (Or.inr ⟨_, by decide, rfl⟩))) (by show ((List.range 60).map _).length = 60; simp) ?_
        rw [show (nI 60 : Int32) = 60 from rfl]
        refine cl_icmp_ge (tgt := 42) (dd D17_ok 18 rfl) (by decide) (fun c4 => ?_) (fun c4 => ?_)
        · refine cl_iconst (v := (-1)) (dd D17_ok 23 rfl) (by decide) ?_
          exact cl_iret (dd D17_ok 24 rfl) rfl ((((w1.2 c1).2 c2).1 c3).1 c4)
        · refine cl_aload_n (dd D17_ok 19 rfl) rfl ?_
          refine cl_gI (g := 503) (e := N1.2.1 503 y1.toNatClampNeg) (dd D17_ok 20 rfl) pl8_47 (by decide) (by decide) (by decide) rfl rfl ((((w1.2 c1).2 c2).1 c3).2 c4).1.l5 rfl ?_
          refine cl_bipush (v := 12) (dd D17_ok 21 rfl) (by decide) ?_
          refine cl_icmp_lt (tgt := 44) (dd D17_ok 22 rfl) (by decide) (fun c5 => ?_) (fun c5 => ?_)
          · refine cl_aload_n (dd D17_ok 25 rfl) rfl ?_
            refine cl_gI (g := 803) (e := N1.2.1 803 0) (dd D17_ok 26 rfl) pl8_44 (by decide) (by decide) (by decide) rfl rfl (k.1.mv e1).l8 rfl ?_
            refine cl_istore (dd D17_ok 27 rfl) (Nat.le_of_ble_eq_true rfl) ?_
            refine cl_aload_n (dd D17_ok 28 rfl) rfl ?_
            refine cl_getO (g := 21) (dd D17_ok 29 rfl) pl8_15 (by decide) (by decide) (by decide) rfl (k.1.mv e1).l8 ?_
            refine cl_iload (dd D17_ok 30 rfl) rfl ?_
            exact (((((w1.2 c1).2 c2).1 c3).2 c4).2.1 c5)
          · refine cl_iconst (v := (-1)) (dd D17_ok 23 rfl) (by decide) ?_
            exact cl_iret (dd D17_ok 24 rfl) rfl (((((w1.2 c1).2 c2).1 c3).2 c4).2.2 c5)
      · refine cl_iconst (v := (-1)) (dd D17_ok 11 rfl) (by decide) ?_
        exact cl_iret (dd D17_ok 12 rfl) rfl (((w1.2 c1).2 c2).2 c3)
set_option maxHeartbeats 1000000 in
theorem vc17_67 {xs : List Int32} {K : Nat → Prop} {h0 : am_H} {d : Nat} {Q : Option Value → cl_A → cl_S → Prop} {A : cl_A} {S : cl_S} {x1 : Int32} {x2 : Int32} {x3 : Int32} {x4 : Int32} {y0 : Int32}
    (k : (∀ j, S.1 21 j → j = 0) ∧ ((vp_in x4 60) ∧ ((y0 = -1 ∨ S.1 5 y0.toNatClampNeg) ∧ ((cl_z S) ∧ ((cl_n S x3) ∧ (cl_C xs K (d + 3) 20 [cl_rf A 5 x3, cl_rf A 5 y0] A (cl_up S 2100 x4.toNatClampNeg y0) (fun v A' N1 => A' = A ∧ N1.1 = S.1 ∧ v = none ∧ (Q (some (.int x4)) A (cl_up N1 803 0 ((N1.2.1 803 0) + 1)))))))))) :
    cl_wp xs K h0 (d + 3) Q I17 67 [some (cl_rf A 8 0), some (.int x1), some (.int x2), some (cl_rf A 5 x3), some (.int x4)] [cl_rf A 5 y0, .int x4, cl_rf A 21 0] A S := by
  refine cl_aas (dd D17_ok 37 rfl) k.2.2.2.1 k.1 k.2.1 k.2.2.1 ?_
  refine cl_aload_n (dd D17_ok 38 rfl) rfl ?_
  refine cl_aload_n (dd D17_ok 39 rfl) rfl ?_
  refine cl_getO (g := 21) (dd D17_ok 40 rfl) pl8_15 (by decide) (by decide) (by decide) rfl k.2.2.2.1.l8 ?_
  refine cl_iload (dd D17_ok 41 rfl) rfl ?_
  refine cl_ndv (e := y0) (dd D17_ok 42 rfl) k.2.2.2.1 k.2.1 (by first | rfl | simp [cl_up]) ?_
  refine cl_call (as := [cl_rf A 5 y0]) (rest := []) (v := x3) (dd D17_ok 43 rfl) pl8_53 rfl (Nat.le_of_ble_eq_true rfl) (ms20 xs) rfl (by decide) k.2.2.2.2.1.l5 ((k.2.2.2.2.2).mono ?_) rfl
  rintro v A N1 ⟨rfl, e1, rfl, w1⟩
  refine cl_aload_n (dd D17_ok 44 rfl) rfl ?_
  refine cl_dup (dd D17_ok 45 rfl) ?_
  refine cl_gI (g := 803) (e := N1.2.1 803 0) (dd D17_ok 46 rfl) pl8_44 (by decide) (by decide) (by decide) rfl rfl (k.2.2.2.1.mv e1).l8 rfl ?_
  refine cl_iconst (v := 1) (dd D17_ok 47 rfl) (by decide) ?_
  refine cl_iadd (dd D17_ok 48 rfl) ?_
  refine cl_pI (g := 803) (dd D17_ok 49 rfl) pl8_44 (by decide) (by decide) rfl rfl rfl rfl rfl (k.2.2.2.1.mv e1).l8 ?_
  refine cl_iload (dd D17_ok 50 rfl) rfl ?_
  exact cl_iret (dd D17_ok 51 rfl) rfl w1
/-- a link more -/
def apS (S : cl_S) (p : Nat) (c : Int32) : cl_S := if S.2.1 506 p = -1 then cl_up (cl_up S 505 p c) 506 p c else cl_up (cl_up S 507 (S.2.1 506 p).toNatClampNeg c) 506 p c
theorem apS_X (S : cl_S) (p : Nat) (c : Int32) : cl_X [505, 506, 507] S (apS S p c) := by
  unfold apS
  split
  · exact (cl_X.rf.up (by decide) _ _).up (by decide) _ _
  · exact (cl_X.rf.up (by decide) _ _).up (by decide) _ _
section CL62
variable {xs : List Int32} {Kp : Nat → Prop} {h0 : am_H} {A : cl_A} {S S2 : cl_S} {M : md_S} {K : bt} {nn W t Wp d : Nat} {Q : Option Value → cl_A → cl_S → Prop}
theorem kk_append {p : Nat} {c : Int32} (hn : cl_n S (nI p)) (hp : p < 60) (hl : ¬ S.2.1 506 p = -1 → cl_n S (S.2.1 506 p)) : ∀ Q', Q' none A (apS S p c) → cl_C xs Kp (d + 1) 20 [cl_rf A 5 (nI p), cl_rf A 5 c] A S Q' := by
  intro Q' hQ
  have cp : (nI p).toNatClampNeg = p := nI_clamp (by omega)
  unfold apS at hQ
  refine cl_intro (ms20 xs) (Nat.le_of_ble_eq_true rfl) (fun h0 => vc20_0 ⟨hn, ?_⟩)
  rw [cp]
  refine ⟨fun q => ⟨hl q, ?_⟩, fun q => ?_⟩
  · rw [if_neg q] at hQ
    exact hQ
  · rw [if_pos (Classical.not_not.mp q)] at hQ
    exact hQ
theorem node_mid {x1 k : Int32} {p n : Nat} (hG : GA A) (hfm : ∀ f i, S.1 f i → f ≤ 25) (hK : ∀ a, Kp a → a < S.2.2.1) (hp : p < n) (hn : n < 60) (hl : S.1 5 p) (k' : cl_wp xs Kp h0 (d + 2) Q I17 67 [some (cl_rf (nA A n S.2.2.1) 8 0), some (.int x1), some (.int k), some (cl_rf (nA A n S.2.2.1) 5 (nI p)), some (.int (nI n))] [cl_rf (nA A n S.2.2.1) 5 (nI n), .int (nI n), cl_rf (nA A n S.2.2.1) 21 0] (nA A n S.2.2.1) (nS A S n k (nI p) (S.2.1 503 p + 1))) : cl_wp xs Kp h0 (d + 2) Q I17 56 [some (cl_rf A 8 0), some (.int x1), some (.int k), some (cl_rf A 5 (nI p)), some (.int (nI n))] [.int (nI n), cl_rf A 21 0] A S := by
  intro h hR hF
  have cp : (nI p).toNatClampNeg = p := nI_clamp (by omega)
  have hlen := hR.2.2.1
  have hq : nI p = -1 ∨ ¬ (nI p).toNatClampNeg = n := Or.inr (by rw [cp]; omega)
  have hnew := nS_new (n := n) (k := k) (q := nI p) (e := S.2.1 503 p + 1) hR (fun a ha => by rw [hlen]; exact hK a ha) hG hn hfm hq
  rw [hlen] at hnew
  have k2 := k' _ hnew.1 (hF.tr hnew.2)
  rw [rf_o (f := 8) (by decide) (by decide) (by decide), rf_o (f := 21) (by decide) (by decide) (by decide), rf_n hn, cl_rf_nA hq, ← hlen] at k2
  refine ax_new (dd D17_ok 31 rfl) pl8_13 rfl rfl rfl ?_
  refine ax_dup (dd D17_ok 32 rfl) ?_
  refine ax_iload (dd D17_ok 33 rfl) rfl ?_
  refine ax_iload_n (dd D17_ok 34 rfl) rfl ?_
  refine ax_aload_n (dd D17_ok 35 rfl) rfl (cl_isR _ _ _) ?_
  exact ax_init (as := [.int (nI n), .int k, cl_rf A 5 (nI p)]) (b := h.length) (dd D17_ok 36 rfl) pl8_50 (Or.inl rfl) rfl (Nat.le_of_ble_eq_true rfl) rfl (r_node (n := n) (k := k) (q := nI p) (e := S.2.1 503 p + 1) hR (Or.inr ⟨nI_ne_m1 (by omega), by rw [cp]; exact hl, by rw [cp]⟩) _ ⟨rfl, k2⟩)
/-- the reference with the new node, not yet linked -/
def nM1 (M N : md_S) (nn : Nat) : md_S := (N.1, fun f x => if f = 5 ∨ f = 6 ∨ f = 7 then (if x = nn then -1 else M.2 f x) else N.2 f x)
def ndS (A : cl_A) (S : cl_S) (nn p : Nat) (k : Int32) : cl_S := cl_up (apS (cl_up (nS A S nn k (nI p) (S.2.1 503 p + 1)) 2100 nn (nI nn)) p (nI nn)) 803 0 (nI nn + 1)
theorem kids_lt (h : CR S M K nn W t) (hL : LK (M.2 6) (bt_root K)) {i : Nat} (hi : i < nn) : ∀ f ∈ [4, 5, 6, 7], M.2 f i = -1 ∨ ∃ j, j < nn ∧ M.2 f i = nI j := by
  have hiff := md_N_iff h.1.1
  obtain ⟨⟨⟨n1, ⟨n2, n3, n4, n5⟩, n6⟩, hv⟩, _⟩ := h
  have hmem := (hiff i).mp hi
  intro f hf
  simp only [List.mem_cons, List.not_mem_nil, or_false] at hf
  obtain ⟨p', s', hR, hnot, hsub, hnd⟩ := bt_kids_R n2 n3 hmem
  rcases hf with rfl | rfl | rfl | rfl
  · by_cases c : i = 0
    · subst c
      exact Or.inl ((hv 0 hi).1 rfl).1
    · obtain ⟨q, e, h1, _, h3, _⟩ := (hv i hi).2.1 c
      exact Or.inr ⟨q, by omega, h3⟩
  · rw [hR.2.2.1]
    cases hk : bt_kids (bt_root K) i with
    | leaf u => exact Or.inl rfl
    | branch j k2 s2 => exact Or.inr ⟨j, (hiff j).mpr (hsub j (by rw [hk]; simp [bt_pre])), rfl⟩
  · rw [LK_kids hL hmem]
    rcases lst_mem (bt_kids (bt_root K) i) with ⟨u, q⟩ | ⟨y, hy, ey⟩
    · rw [q]
      exact Or.inl rfl
    · exact Or.inr ⟨y, (hiff y).mpr (hsub y hy), ey⟩
  · -- the next one
    have gen : ∀ (t : bt) (q : Int32), bt_R (M.2 4) (M.2 5) (M.2 7) q t → (∀ x ∈ bt_pre t, x < nn) → ∀ x ∈ bt_pre t, M.2 7 x = -1 ∨ ∃ j, j < nn ∧ M.2 7 x = nI j := by
      intro t
      induction t with
      | leaf u => intro _ _ _ x hx; cases hx
      | branch a k s ihk ihs =>
        rintro q ⟨r1, r2, r3, r4, r5, r6⟩ hlt x hx
        simp only [bt_pre, List.mem_cons, List.mem_append] at hx
        rcases hx with rfl | hx | hx
        · rw [r4]
          cases s with
          | leaf u => exact Or.inl rfl
          | branch j k2 s2 => exact Or.inr ⟨j, hlt j (by simp [bt_pre]), rfl⟩
        · exact ihk _ r5 (fun y hy => hlt y (by simp [bt_pre, hy])) x hx
        · exact ihs _ r6 (fun y hy => hlt y (by simp [bt_pre, hy])) x hx
    exact gen _ _ n2 (fun x hx => (hiff x).mpr hx) i hmem
theorem node_INV (h : INV A S M K nn W t Wp) (hcap : S.2.2.1 + 2 < 2000000) {p : Nat} {k : Int32} (hp : p < nn) (h60 : nn < 60) (h3 : M.2 3 p = 0) (hk1 : ¬ k < 0) (hk2 : ¬ 3 < k) (h8 : ¬ M.2 8 p = 12) : ∃ K', INV (nA A nn S.2.2.1) (ndS A S nn p k) (f_node_M M nn (nI p) k) K' (nn + 1) W t Wp := by
  obtain ⟨hCR, hL, ⟨w1, w2, w3⟩, hce⟩ := h
  have hlt := fun i hi => kids_lt hCR hL (i := i) hi
  have hd : S.2.1 503 p = M.2 8 p := (hCR.2.1.2.2.2 p hp).2.2.2.2.1
  obtain ⟨K', iv1, iv2⟩ := hCR.1.node hL hp h60 h3 hk1 hk2 h8
  obtain ⟨⟨g1, g1'⟩, g3, g4, g5, g6, g7, g8, g9, g11, g23, go⟩ := node_f (M := M) (k := k) hp h60
  refine ⟨K', ?_⟩
  generalize f_node_M M nn (nI p) k = N at *
  obtain ⟨c1, ⟨c2a, c2b, c2c, c2d⟩, c3, c4, ⟨c5a, c5b, c5c, c5d⟩, c6, c7, c8, c9, c10, c11⟩ := hCR
  have e1 : cl_X [2100, 505, 506, 507, 803] (nS A S nn k (nI p) (S.2.1 503 p + 1)) (ndS A S nn p k) := (((cl_X.rf.up (by decide) _ _ : cl_X [2100, 505, 506, 507, 803] _ _)).tr ((apS_X _ p (nI nn)).sub (by decide))).up (by decide) _ _
  -- the nodes before they are linked
  have nm : ∀ f x, ¬ f = 5 → ¬ f = 6 → ¬ f = 7 → (nM1 M N nn).2 f x = N.2 f x := fun f x h5 h6 h7 => if_neg (by omega)
  have nl : ∀ f x, f = 5 ∨ f = 6 ∨ f = 7 → (nM1 M N nn).2 f x = if x = nn then -1 else M.2 f x := fun f x hf => if_pos hf
  have hT1 : ∀ i, i < nn + 1 → cl_nt (nS A S nn k (nI p) (S.2.1 503 p + 1)) (nM1 M N nn) i := by
    intro i hi
    by_cases c : i = nn
    · subst c
      refine nS_nn h60 ?_ ?_ ?_ ?_ ?_ ?_ ?_ (fun j hj => ?_)
      · rw [nm 3 _ (by decide) (by decide) (by decide), g3, if_pos rfl]
      · rw [nm 4 _ (by decide) (by decide) (by decide), g4, if_pos rfl]
      · rw [nm 8 _ (by decide) (by decide) (by decide), g8, if_pos rfl, hd]
      · rw [nl 5 _ (by decide), if_pos rfl]
      · rw [nl 6 _ (by decide), if_pos rfl]
      · rw [nl 7 _ (by decide), if_pos rfl]
      · rw [nm 11 _ (by decide) (by decide) (by decide), g11, if_pos rfl]
      · rw [nm 9 _ (by decide) (by decide) (by decide), g9 _ j hj, if_pos rfl]
    · have hin : i < nn := by omega
      refine nS_nt hin h60 (c2d i hin) ?_ ?_ ?_ ?_ ?_ ?_ ?_ (fun k' _ => ?_) (fun j hj => ?_) (hlt i hin)
      · rw [nm 3 _ (by decide) (by decide) (by decide), g3, if_neg c]
      · rw [nm 4 _ (by decide) (by decide) (by decide), g4, if_neg c]
      · rw [nm 8 _ (by decide) (by decide) (by decide), g8, if_neg c]
      · rw [nl 5 _ (by decide), if_neg c]
      · rw [nl 6 _ (by decide), if_neg c]
      · rw [nl 7 _ (by decide), if_neg c]
      · rw [nm 11 _ (by decide) (by decide) (by decide), g11, if_neg c]
      · rw [nm 10 _ (by decide) (by decide) (by decide), go 10 (by decide)]
      · rw [nm 9 _ (by decide) (by decide) (by decide), g9 _ j hj, if_neg c]
  have hl6 : (nS A S nn k (nI p) (S.2.1 503 p + 1)).2.1 506 p = M.2 6 p := by
    rw [(hT1 p (by omega)).2.2.2.2.2.2.1, nl 6 _ (by decide), if_neg (by omega)]
  have hnd : ∀ g i, g = 505 ∨ g = 506 ∨ g = 507 → (ndS A S nn p k).2.1 g i = (apS (cl_up (nS A S nn k (nI p) (S.2.1 503 p + 1)) 2100 nn (nI nn)) p (nI nn)).2.1 g i := fun g i hg => by
    unfold ndS
    rw [cl_up_off _ _ (by omega)]
  have h506' : (cl_up (nS A S nn k (nI p) (S.2.1 503 p + 1)) 2100 nn (nI nn)).2.1 506 p = M.2 6 p := by
    rw [cl_up_off _ _ (by omega)]
    exact hl6
  have lk : ∀ i, i < nn + 1 → (ndS A S nn p k).2.1 505 i = N.2 5 i ∧ (ndS A S nn p k).2.1 506 i = N.2 6 i ∧ (ndS A S nn p k).2.1 507 i = N.2 7 i := by
    intro i hi
    obtain ⟨_, _, _, _, _, t5, t6, t7, _⟩ := hT1 i hi
    rw [nl 5 _ (by decide)] at t5
    rw [nl 6 _ (by decide)] at t6
    rw [nl 7 _ (by decide)] at t7
    rw [hnd 505 i (by simp), hnd 506 i (by simp), hnd 507 i (by simp), g5, g6, g7]
    unfold apS
    rw [h506']
    by_cases cl : M.2 6 p = -1
    · rw [if_pos cl]
      refine ⟨?_, ?_, ?_⟩
      · rw [cl_up_off _ _ (by omega)]
        by_cases ci : i = p
        · rw [ci, cl_up_at, if_neg (by omega), if_pos ⟨rfl, cl⟩]
        · rw [cl_up_off _ _ (by omega), cl_up_off _ _ (by omega), t5]
          by_cases cn : i = nn
          · rw [if_pos cn, if_pos cn]
          · rw [if_neg cn, if_neg cn, if_neg (fun q => ci q.1)]
      · by_cases ci : i = p
        · rw [ci, cl_up_at, if_pos rfl]
        · rw [cl_up_off _ _ (by omega), cl_up_off _ _ (by omega), cl_up_off _ _ (by omega), t6, if_neg ci]
      · rw [cl_up_off _ _ (by omega), cl_up_off _ _ (by omega), cl_up_off _ _ (by omega), t7, if_neg (show ¬ (¬ M.2 6 p = -1 ∧ i = (M.2 6 p).toNatClampNeg) from fun q => q.1 cl)]
    · rw [if_neg cl]
      refine ⟨?_, ?_, ?_⟩
      · rw [cl_up_off _ _ (by omega), cl_up_off _ _ (by omega), cl_up_off _ _ (by omega), t5, if_neg (show ¬ (i = p ∧ M.2 6 p = -1) from fun q => cl q.2)]
      · by_cases ci : i = p
        · rw [ci, cl_up_at, if_pos rfl]
        · rw [cl_up_off _ _ (by omega), cl_up_off _ _ (by omega), cl_up_off _ _ (by omega), t6, if_neg ci]
      · rw [cl_up_off _ _ (by omega)]
        by_cases ci : i = (M.2 6 p).toNatClampNeg
        · rw [ci, cl_up_at, if_pos ⟨cl, rfl⟩]
        · rw [cl_up_off _ _ (fun q => ci q.2), cl_up_off _ _ (by omega), t7, if_neg (show ¬ (¬ M.2 6 p = -1 ∧ i = (M.2 6 p).toNatClampNeg) from fun q => ci q.2)]
  have hT : cl_T (ndS A S nn p k) N (nn + 1) := by
    refine ⟨by omega, (nS_z c2b).mv e1.1, fun f hf => (nS_f (c2c f hf)).mv e1.1, fun i hi => ?_⟩
    have e' : ∀ g, g ∉ [2100, 505, 506, 507, 803] → (ndS A S nn p k).2.1 g = (nS A S nn k (nI p) (S.2.1 503 p + 1)).2.1 g := e1.2.2
    obtain ⟨l5, l6, l7⟩ := lk i hi
    obtain ⟨b1, b2, b3, b4, b5, b6, b7, b8, b9, b10, b11, b12, b13⟩ := hT1 i hi
    have eb : cl_bn (ndS A S nn p k) (nI i) ((nS A S nn k (nI p) (S.2.1 503 p + 1)).2.1 508 i) = cl_bn (nS A S nn k (nI p) (S.2.1 503 p + 1)) (nI i) ((nS A S nn k (nI p) (S.2.1 503 p + 1)).2.1 508 i) := by
      unfold cl_bn
      rw [e' 2301 (by decide)]
    refine ⟨b1.mv e1.1, ?_, ?_, ?_, ?_, l5, l6, l7, ?_, ?_, ?_, ?_, ?_⟩
    · rw [e' 500 (by decide)]; exact b2
    · rw [e' 501 (by decide), ← nm 3 _ (by decide) (by decide) (by decide)]; exact b3
    · rw [e' 502 (by decide), ← nm 4 _ (by decide) (by decide) (by decide)]; exact b4
    · rw [e' 503 (by decide), ← nm 8 _ (by decide) (by decide) (by decide)]; exact b5
    · rw [e' 508 (by decide), e1.1]; exact b9
    · rw [e' 508 (by decide), eb, ← nm 11 _ (by decide) (by decide) (by decide)]; exact b10
    · rw [e' 508 (by decide), eb]; exact b11
    · rw [e' 508 (by decide), eb, e' 2300 (by decide)]
      intro k' hk'
      rw [← nm 10 _ (by decide) (by decide) (by decide)]
      exact b12 k' hk'
    · intro q hq
      rw [e' 2200 (by decide), ← nm 9 _ (by decide) (by decide) (by decide)]
      exact b13 q hq
  have old : ∀ g, nob g = true → g ∉ [2100, 505, 506, 507, 803] → (ndS A S nn p k).2.1 g = S.2.1 g := fun g h1 h2 => (e1.2.2 g h2).trans (nS_of h1)
  have hwp := (nS_wp (A := A) (k := k) (q := nI p) (e := S.2.1 503 p + 1) h60 w1).x e1 (by decide)
  have oldb : ∀ g i, g ∉ [2100, 505, 506, 507, 803] → ¬ i = nn → ¬ g = 2200 → g ∉ XNf → g ∉ XBf → (ndS A S nn p k).2.1 g i = S.2.1 g i := fun g i h1 h2 h3 h4 h5 => by
    rw [e1.2.2 g h1]
    show nC _ nn k (nI p) _ g i = _
    rw [nC_ne (Or.inl h2) (fun q => h3 q.1), rc_O h4 h5]
  refine ⟨⟨iv1, hT, ?_, ?_, ⟨by rw [old 801 (by decide) (by decide)]; exact c5a, by rw [g1 1 (by decide)]; exact c5b, c5c, fun q hq => by rw [old 2000 (by decide) (by decide), go 0 (by decide)]; exact c5d q hq⟩, ⟨Wp, hwp, w2⟩, by rw [old 301 (by decide) (by decide)]; exact c7, by rw [g1 29 (by decide)]; exact c8, c9, ?_, ?_⟩, iv2, ⟨hwp, w2, w3⟩, (nS_CE h60 hcap hce).x e1 (by decide)⟩
  · unfold ndS
    rw [cl_up_at, nI_1]
  · intro q hq
    unfold ndS
    rw [cl_up_off _ _ (by omega), (apS_X _ p (nI nn)).2.2 2100 (by decide)]
    by_cases c : q = nn
    · rw [c, cl_up_at, if_pos (by omega)]
    · rw [cl_up_off _ _ (by omega), nS_N (by decide), c4 q hq]
      unfold rcv
      by_cases cq : q < nn
      · rw [if_pos cq, if_neg (nI_ne_m1 (by omega)), nI_clamp (by omega), if_pos (by simp [nK]; omega), if_pos (by omega)]
      · rw [if_neg cq, if_pos rfl, if_neg (by omega)]
  · intro i hi
    by_cases c : i = nn
    · subst c
      have h23 : N.2 23 i = 0 := by rw [g23, if_pos rfl]
      have h511 : (ndS A S i p k).2.1 511 i = 0 := by
        rw [e1.2.2 511 (by decide)]
        exact nC_at (n := i) (k := k) (q := nI p) (e := S.2.1 503 p + 1) (C := (cl_rc A (nK i) (nK i) S).2.1) (g := 511) (Or.inl (by decide))
      exact ⟨⟨fun x => absurd h23 x, fun x => absurd h511 x⟩, fun x => absurd h23 x⟩
    · have := c10 i (by omega)
      rw [oldb 511 i (by decide) c (by decide) (by decide) (by decide), oldb 0 i (by decide) c (by decide) (by decide) (by decide), oldb 1 i (by decide) c (by decide) (by decide) (by decide), oldb 2 i (by decide) c (by decide) (by decide) (by decide), oldb 3 i (by decide) c (by decide) (by decide) (by decide), g23, if_neg c, go 24 (by decide), go 25 (by decide), go 26 (by decide), go 27 (by decide)]
      exact this
  · intro w hw
    have hne : ¬ 60 + w = nn := by omega
    rw [old 700 (by decide) (by decide), old 701 (by decide) (by decide), old 702 (by decide) (by decide), oldb 0 _ (by decide) hne (by decide) (by decide) (by decide), oldb 1 _ (by decide) hne (by decide) (by decide) (by decide), oldb 2 _ (by decide) hne (by decide) (by decide) (by decide), oldb 3 _ (by decide) hne (by decide) (by decide) (by decide), go 30 (by decide), go 31 (by decide), go 32 (by decide), go 33 (by decide), go 34 (by decide), go 35 (by decide), go 36 (by decide)]
    exact c11 w hw
theorem nd_cap {p : Nat} {k : Int32} : cap (ndS A S nn p k) = cap S := by
  have e1 : cl_X [2100, 505, 506, 507, 803] (nS A S nn k (nI p) (S.2.1 503 p + 1)) (ndS A S nn p k) := (((cl_X.rf.up (by decide) _ _ : cl_X [2100, 505, 506, 507, 803] _ _)).tr ((apS_X _ p (nI nn)).sub (by decide))).up (by decide) _ _
  exact cap_x ((e1.2.2 1001 (by decide)).trans (nS_of (by decide))) ((e1.2.2 2501 (by decide)).trans (nS_of (by decide)))
theorem kk_node (h : INV A S M K nn W t Wp) (hK : ∀ a, Kp a → a < S.2.2.1) (hcap : S.2.2.1 + 2 < 2000000) {a k : Int32} : ∀ Q', (f_node_ok M a k → ∀ K' S', INV (nA A nn S.2.2.1) S' (f_node_M M nn a k) K' (nn + 1) W t Wp → S'.2.2 = (S.2.2.1 + 3, S.2.2.2 + 30) → cap S' = cap S → nn < 60 → Q' (some (.int (nI nn))) (nA A nn S.2.2.1) S') → (¬ f_node_ok M a k → Q' (some (.int (-1))) A S) → cl_C xs Kp (d + 4) 17 [cl_rf A 8 0, .int a, .int k] A S Q' := by
  intro Q' hY hN
  have hce := h.2.2.2
  obtain ⟨c1, c2, c3, c4, _⟩ := h.1
  have h60 := c2.1
  have hth := there_iff c1.1.1 h60 a
  have m60 : M.1 2 = 60 ↔ nn = 60 := by
    rw [c1.1.1]
    refine ⟨fun q => ?_, fun q => by rw [q]; rfl⟩
    have := congrArg Int32.toInt q
    rw [nI_toInt (by omega), show (60 : Int32).toInt = 60 by decide] at this
    omega
  refine cl_intro (ms17 xs) (Nat.le_of_ble_eq_true rfl) (fun h0 => vc17_0 (d := d) ⟨c2.2.1, kk_elementAt h.1 _ (fun p hp e c => ?_) (fun hne => ?_)⟩)
  · subst e
    have cp : (nI p).toNatClampNeg = p := nI_clamp (by omega)
    have ht : ¬ f_there M (nI p) = 0 := hth.mpr ⟨p, hp, rfl⟩
    have hnt := c2.2.2.2 p hp
    have e503 : S.2.1 503 p = M.2 8 p := hnt.2.2.2.2.1
    have hdep : ∃ e, e ≤ 12 ∧ M.2 8 p = nI e := by
      by_cases p0 : p = 0
      · subst p0
        exact ⟨0, by decide, ((c1.2 0 hp).1 rfl).2.2⟩
      · obtain ⟨_, e, _, he, _, _, _, h8'⟩ := (c1.2 p hp).2.1 p0
        exact ⟨e + 1, by omega, h8'⟩
    obtain ⟨e, he, e8⟩ := hdep
    have c12 : M.2 8 p < 12 ↔ ¬ M.2 8 p = 12 := by
      rw [e8]
      refine ⟨fun q1 q2 => ?_, fun q => ?_⟩
      · rw [q2] at q1
        exact absurd q1 (by decide)
      · refine Int32.not_le.mp (nI_ge (a := e) (b := 12) ?_ (by omega))
        rcases Nat.lt_or_ge e 12 with x | x
        · exact x
        · exact absurd (by rw [show e = 12 by omega]; rfl) q
    refine ⟨rfl, rfl, nI p, rfl, fun q => absurd q (nI_ne_m1 (by omega)), fun _ => ⟨fun q => hN (fun ok => ok.2.2.1 q), fun k0 => ⟨fun k3 => ⟨fun q => ?_, fun q => ⟨hnt.1, fun q2 => ?_, fun q2 => ?_⟩⟩, fun q => hN (fun ok => ok.2.2.2.1 (Int32.not_le.mp q))⟩⟩⟩
    · rw [c3] at q
      refine hN (fun ok => ok.2.2.2.2.1 (m60.mpr ?_))
      rcases Nat.lt_or_ge nn 60 with x | x
      · exact absurd q (nI_ge (a := nn) (b := 60) x (by omega))
      · omega
    · rw [cp, e503, c12] at q2
      have hn60 : nn < 60 := by
        rcases Nat.lt_or_ge nn 60 with x | x
        · exact x
        · have : nn = 60 := by omega
          rw [c3, this] at q
          exact absurd (by decide) q
      have k3' : ¬ 3 < k := Int32.not_lt.mpr k3
      obtain ⟨K', hI⟩ := node_INV h hcap hp hn60 c k0 k3' q2
      rw [c3]
      have hcn : cl_n (nS A S nn k (nI p) (S.2.1 503 p + 1)) (nI p) := ⟨hnt.1.1, by
        rw [cp]
        show nL S nn 5 p
        unfold nL
        rw [if_pos (Or.inl rfl)]
        have := hnt.1.2.1
        rw [cp] at this
        exact Or.inr ⟨hp, this⟩, by
        rw [cp]
        show nL S nn 22 p
        unfold nL
        rw [if_pos (Or.inr rfl)]
        have := hnt.1.2.2.1
        rw [cp] at this
        exact Or.inr ⟨hp, this⟩, by
        rw [cp]
        show nL S nn 0 p
        unfold nL
        rw [if_neg (by omega), if_neg (by omega), if_pos rfl]
        have := hnt.1.2.2.2
        rw [cp] at this
        exact Or.inr ⟨Or.inl hp, this⟩⟩
      have hl5 : S.1 5 p := by
        have := hnt.1.2.1
        rw [cp] at this
        exact this
      have hz : cl_z (nS A S nn k (nI p) (S.2.1 503 p + 1)) := nS_z c2.2.1
      have cn : (nI nn).toNatClampNeg = nn := nI_clamp (by omega)
      refine node_mid (d := d + 1) hce.1 hce.2.2.2.2.2.2.2.1 hK hp hn60 hl5 (vc17_67 (d := d) ⟨fun j hj => hce.2.1.2 j ((nL_o (n := nn) (by decide) (by decide) (by decide) (by decide) _).mp hj), vp_nI hn60 (by decide), Or.inr ?_, hz, hcn, ?_⟩)
      · rw [cn]
        have := (nL_n (A := A) (S := S) (k := k) (q := nI p) (e := S.2.1 503 p + 1) hn60).2.1
        rw [cn] at this
        exact this
      · rw [cn]
        have h803 : (apS (cl_up (nS A S nn k (nI p) (S.2.1 503 p + 1)) 2100 nn (nI nn)) p (nI nn)).2.1 803 0 = nI nn := by
          rw [(apS_X _ p (nI nn)).2.2 803 (by decide), cl_up_off _ _ (by omega), nS_of (by decide)]
          exact c3
        refine kk_append (xs := xs) (Kp := Kp) (A := nA A nn S.2.2.1) (d := d + 2) (S := cl_up (nS A S nn k (nI p) (S.2.1 503 p + 1)) 2100 nn (nI nn)) (p := p) (c := nI nn) (hcn.mv rfl) (by omega) (fun x => ?_) _ ⟨rfl, (apS_X _ p (nI nn)).1, rfl, ?_⟩
        · -- the last kid lives
          have hx : (cl_up (nS A S nn k (nI p) (S.2.1 503 p + 1)) 2100 nn (nI nn)).2.1 506 p = S.2.1 506 p := by
            rw [cl_up_off _ _ (by omega)]
            show nC _ nn k (nI p) _ 506 p = _
            rw [nC_ne (Or.inl (by omega)) (by omega), rc_N (by decide)]
            have e6 : S.2.1 506 p = M.2 6 p := hnt.2.2.2.2.2.2.1
            unfold rcv
            rw [e6]
            rcases kids_lt h.1 h.2.1 hp 6 (by decide) with y | ⟨j, hj, y⟩
            · rw [y, if_pos rfl]
            · rw [y, if_neg (nI_ne_m1 (by omega)), nI_clamp (by omega), if_pos (by simp [nK]; omega)]
          rw [hx] at x ⊢
          have e6 : S.2.1 506 p = M.2 6 p := hnt.2.2.2.2.2.2.1
          rw [e6] at x ⊢
          rcases kids_lt h.1 h.2.1 hp 6 (by decide) with y | ⟨j, hj, y⟩
          · exact absurd y x
          · rw [y]
            have hj' := (c2.2.2.2 j hj).1
            have cj : (nI j).toNatClampNeg = j := nI_clamp (by omega)
            refine ⟨hj'.1, ?_, ?_, ?_⟩
            · rw [cj]
              show nL S nn 5 j
              unfold nL
              rw [if_pos (Or.inl rfl)]
              have := hj'.2.1
              rw [cj] at this
              exact Or.inr ⟨hj, this⟩
            · rw [cj]
              show nL S nn 22 j
              unfold nL
              rw [if_pos (Or.inr rfl)]
              have := hj'.2.2.1
              rw [cj] at this
              exact Or.inr ⟨hj, this⟩
            · rw [cj]
              show nL S nn 0 j
              unfold nL
              rw [if_neg (by omega), if_neg (by omega), if_pos rfl]
              have := hj'.2.2.2
              rw [cj] at this
              exact Or.inr ⟨Or.inl hj, this⟩
        · rw [h803]
          have hap : (ndS A S nn p k).2.2 = (S.2.2.1 + 3, S.2.2.2 + 30) := by
            have e1 : cl_X [2100, 505, 506, 507, 803] (nS A S nn k (nI p) (S.2.1 503 p + 1)) (ndS A S nn p k) := (((cl_X.rf.up (by decide) _ _ : cl_X [2100, 505, 506, 507, 803] _ _)).tr ((apS_X _ p (nI nn)).sub (by decide))).up (by decide) _ _
            rw [e1.2.1]
            rfl
          exact hY ⟨ht, by rw [cp]; exact not_not_intro c, k0, k3', fun q => by have := m60.mp q; omega, by rw [cp]; exact q2⟩ K' (ndS A S nn p k) hI hap nd_cap hn60
    · rw [cp, e503, c12] at q2
      refine hN (fun ok => q2 ?_)
      have := ok.2.2.2.2.2
      rw [cp] at this
      exact this
  · refine ⟨rfl, rfl, -1, rfl, fun _ => hN (fun ok => ?_), fun q => absurd rfl q⟩
    obtain ⟨i, hi, e⟩ := hth.mp ok.1
    subst e
    have := ok.2.1
    rw [nI_clamp (by omega)] at this
    exact hne ⟨i, hi, rfl, Classical.not_not.mp this⟩
end CL62
