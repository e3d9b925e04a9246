/-! the class: prepare (by program and by hand: wip/whole/gen/c71.py) -/
set_option maxHeartbeats 1000000 in
theorem vc30_0 {xs : List Int32} {K : Nat → Prop} {h0 : am_H} {d : Nat} {Q : Option Value → cl_A → cl_S → Prop} {A : cl_A} {S : cl_S} {x1 : Int32} {x2 : Int32}
    (k : (cl_n S x1) ∧ ((cl_z S) ∧ (((¬ (S.2.1 501 x1.toNatClampNeg) = 1) → cl_wp xs K h0 (d + 9) Q I30 36 [some (cl_rf A 3 0), some (cl_rf A 5 x1), some (.int x2), none, none] [] A (cl_up (cl_up (cl_up S 509 x1.toNatClampNeg x2) 511 x1.toNatClampNeg 0) 513 x1.toNatClampNeg (S.2.1 301 0))) ∧ (¬ (¬ (S.2.1 501 x1.toNatClampNeg) = 1) → ((x2 = 3) → cl_wp xs K h0 (d + 9) Q I30 36 [some (cl_rf A 3 0), some (cl_rf A 5 x1), some (.int x2), none, none] [] A (cl_up (cl_up (cl_up S 509 x1.toNatClampNeg x2) 511 x1.toNatClampNeg 0) 513 x1.toNatClampNeg (S.2.1 301 0))) ∧ (¬ (x2 = 3) → cl_wp xs K h0 (d + 9) Q I30 33 [some (cl_rf A 3 0), some (cl_rf A 5 x1), some (.int x2), none, none] [cl_rf A 5 x1, cl_rf A 3 0] A (cl_up (cl_up (cl_up S 509 x1.toNatClampNeg x2) 511 x1.toNatClampNeg 0) 513 x1.toNatClampNeg (S.2.1 301 0))))))) :
    cl_wp xs K h0 (d + 9) Q I30 0 [some (cl_rf A 3 0), some (cl_rf A 5 x1), some (.int x2), none, none] [] A S := by
  refine cl_aload_n (dd D30_ok 0 rfl) rfl ?_
  refine cl_iload_n (dd D30_ok 1 rfl) rfl ?_
  refine cl_pI (g := 509) (dd D30_ok 2 rfl) pl3_60 (by decide) (by decide) rfl rfl rfl rfl rfl k.1.l5 ?_
  refine cl_aload_n (dd D30_ok 3 rfl) rfl ?_
  refine cl_iconst (v := 0) (dd D30_ok 4 rfl) (by decide) ?_
  refine cl_pI (g := 511) (dd D30_ok 5 rfl) pl3_63 (by decide) (by decide) rfl rfl rfl rfl rfl k.1.l5 ?_
  refine cl_aload_n (dd D30_ok 6 rfl) rfl ?_
  refine cl_aload_n (dd D30_ok 7 rfl) rfl ?_
  refine cl_gI (g := 301) (e := S.2.1 301 0) (dd D30_ok 8 rfl) pl3_32 (by decide) (by decide) (by decide) rfl rfl k.2.1.l3 (by first | rfl | simp [cl_up]) ?_
  refine cl_pI (g := 513) (dd D30_ok 9 rfl) pl3_67 (by decide) (by decide) rfl rfl rfl rfl rfl k.1.l5 ?_
  refine cl_aload_n (dd D30_ok 10 rfl) rfl ?_
  refine cl_gI (g := 501) (e := S.2.1 501 x1.toNatClampNeg) (dd D30_ok 11 rfl) pl3_70 (by decide) (by decide) (by decide) rfl rfl k.1.l5 (by first | rfl | simp [cl_up]) ?_
  refine cl_iconst (v := 1) (dd D30_ok 12 rfl) (by decide) ?_
  refine cl_icmp_ne (tgt := 36) (dd D30_ok 13 rfl) (by decide) (fun c1 => ?_) (fun c1 => ?_)
  · exact (k.2.2.1 c1)
  · refine cl_iload_n (dd D30_ok 14 rfl) rfl ?_
    refine cl_iconst (v := 3) (dd D30_ok 15 rfl) (by decide) ?_
    refine cl_icmp_eq (tgt := 36) (dd D30_ok 16 rfl) (by decide) (fun c2 => ?_) (fun c2 => ?_)
    · exact ((k.2.2.2 c1).1 c2)
    · refine cl_aload_n (dd D30_ok 17 rfl) rfl ?_
      refine cl_aload_n (dd D30_ok 18 rfl) rfl ?_
      exact ((k.2.2.2 c1).2 c2)
set_option maxHeartbeats 1000000 in
theorem vc30_36 {xs : List Int32} {K : Nat → Prop} {h0 : am_H} {d : Nat} {Q : Option Value → cl_A → cl_S → Prop} {A : cl_A} {S : cl_S} {x1 : Int32} {x2 : Int32} {o3 : Option Value} {o4 : Option Value}
    (k : (cl_z S) ∧ ((cl_n S x1) ∧ (cl_wp xs K h0 (d + 9) Q I30 54 [some (cl_rf A 3 0), some (cl_rf A 5 x1), some (.int x2), some (cl_rf A 5 (S.2.1 505 x1.toNatClampNeg)), o4] [] A (cl_up S 514 x1.toNatClampNeg ((S.2.1 301 0) - (S.2.1 513 x1.toNatClampNeg)))))) :
    cl_wp xs K h0 (d + 9) Q I30 36 [some (cl_rf A 3 0), some (cl_rf A 5 x1), some (.int x2), o3, o4] [] A S := by
  refine cl_aload_n (dd D30_ok 20 rfl) rfl ?_
  refine cl_aload_n (dd D30_ok 21 rfl) rfl ?_
  refine cl_gI (g := 301) (e := S.2.1 301 0) (dd D30_ok 22 rfl) pl3_32 (by decide) (by decide) (by decide) rfl rfl k.1.l3 rfl ?_
  refine cl_aload_n (dd D30_ok 23 rfl) rfl ?_
  refine cl_gI (g := 513) (e := S.2.1 513 x1.toNatClampNeg) (dd D30_ok 24 rfl) pl3_67 (by decide) (by decide) (by decide) rfl rfl k.2.1.l5 rfl ?_
  refine cl_isub (dd D30_ok 25 rfl) ?_
  refine cl_pI (g := 514) (dd D30_ok 26 rfl) pl3_77 (by decide) (by decide) rfl rfl rfl rfl rfl k.2.1.l5 ?_
  refine cl_aload_n (dd D30_ok 27 rfl) rfl ?_
  refine cl_gR (g := 505) (f := 5) (e := S.2.1 505 x1.toNatClampNeg) (dd D30_ok 28 rfl) pl3_78 (by decide) (by decide) (by decide) rfl rfl k.2.1.l5 (by first | rfl | simp [cl_up]) ?_
  refine cl_astore_n (dd D30_ok 29 rfl) (Nat.le_of_ble_eq_true rfl) ?_
  exact k.2.2
set_option maxHeartbeats 1000000 in
theorem vc30_54 {xs : List Int32} {K : Nat → Prop} {h0 : am_H} {d : Nat} {Q : Option Value → cl_A → cl_S → Prop} {A : cl_A} {S : cl_S} {x1 : Int32} {x2 : Int32} {x3 : Int32} {o4 : Option Value}
    (k : ((x3 = -1) → Q none A S) ∧ (¬ (x3 = -1) → (cl_n S x3) ∧ (∀ s1 : Int32, s1 = (if ¬ x2 = 0 then 0 else (if (g_role S x3 x2) = 3 then 0 else (if (S.2.1 2200 (9 * x3.toNatClampNeg + 1)) = 0 then 0 else 1))) → ((am_fit .boolean (.int s1) = true) ∧ (cl_wp xs K h0 (d + 9) Q I30 97 [some (cl_rf A 3 0), some (cl_rf A 5 x1), some (.int x2), some (cl_rf A 5 x3), some (.int (g_role S x3 x2))] [.int (g_role S x3 x2), cl_rf A 5 x3, cl_rf A 3 0] A (cl_up S 510 x3.toNatClampNeg s1)))))) :
    cl_wp xs K h0 (d + 9) Q I30 54 [some (cl_rf A 3 0), some (cl_rf A 5 x1), some (.int x2), some (cl_rf A 5 x3), o4] [] A S := by
  refine cl_aload_n (dd D30_ok 30 rfl) rfl ?_
  refine cl_ifnull (tgt := 108) (dd D30_ok 31 rfl) (by decide) (fun c1 => ?_) (fun c1 => ?_)
  · exact cl_vret (dd D30_ok 59 rfl) rfl (k.1 c1)
  · refine cl_aload_n (dd D30_ok 32 rfl) rfl ?_
    refine cl_iload_n (dd D30_ok 33 rfl) rfl ?_
    refine cl_callsP (r := .int (g_role S x3 x2)) (as := [cl_rf A 5 x3, .int x2]) (rest := []) (dd D30_ok 34 rfl) pl3_82 rfl (Nat.le_of_ble_eq_true rfl) (cc_g_role (S := S) (k.2 c1).1) rfl ?_
    refine cl_istore (dd D30_ok 35 rfl) (Nat.le_of_ble_eq_true rfl) ?_
    refine cl_aload_n (dd D30_ok 36 rfl) rfl ?_
    refine cl_iload_n (dd D30_ok 37 rfl) rfl ?_
    have J1 : ∀ s1 : Int32, s1 = (if ¬ x2 = 0 then 0 else (if (g_role S x3 x2) = 3 then 0 else (if (S.2.1 2200 (9 * x3.toNatClampNeg + 1)) = 0 then 0 else 1))) → cl_wp xs K h0 (d + 9) Q I30 90 [some (cl_rf A 3 0), some (cl_rf A 5 x1), some (.int x2), some (cl_rf A 5 x3), some (.int (g_role S x3 x2))] [.int s1, cl_rf A 5 x3] A S := by
      intro s1 e_s1
      refine cl_pI (g := 510) (dd D30_ok 50 rfl) pl3_86 (by decide) (by decide) rfl rfl rfl ((k.2 c1).2 s1 e_s1).1 rfl (k.2 c1).1.l5 ?_
      refine cl_aload_n (dd D30_ok 51 rfl) rfl ?_
      refine cl_aload_n (dd D30_ok 52 rfl) rfl ?_
      refine cl_iload (dd D30_ok 53 rfl) rfl ?_
      exact ((k.2 c1).2 s1 e_s1).2
    refine cl_if_ne (tgt := 89) (dd D30_ok 38 rfl) (by decide) (fun c3 => ?_) (fun c3 => ?_)
    · refine cl_iconst (v := 0) (dd D30_ok 49 rfl) (by decide) ?_
      exact J1 _ (by first | rfl | (rw [if_pos c3]; done) | (rw [if_pos c3]; rfl) | simp only [if_pos c3])
    · refine cl_iload (dd D30_ok 39 rfl) rfl ?_
      refine cl_iconst (v := 3) (dd D30_ok 40 rfl) (by decide) ?_
      refine cl_icmp_eq (tgt := 89) (dd D30_ok 41 rfl) (by decide) (fun c4 => ?_) (fun c4 => ?_)
      · refine cl_iconst (v := 0) (dd D30_ok 49 rfl) (by decide) ?_
        exact J1 _ (by first | rfl | (rw [if_neg c3, if_pos c4]; done) | (rw [if_neg c3, if_pos c4]; rfl) | simp only [if_neg c3, if_pos c4])
      · refine cl_aload_n (dd D30_ok 42 rfl) rfl ?_
        refine cl_getO (g := 22) (dd D30_ok 43 rfl) pl3_46 (by decide) (by decide) (by decide) rfl (k.2 c1).1.l5 ?_
        refine cl_iconst (v := 1) (dd D30_ok 44 rfl) (by decide) ?_
        refine cl_hs (q := 1) (e := S.2.1 2200 (9 * x3.toNatClampNeg + 1)) (dd D30_ok 45 rfl) (k.2 c1).1.l22 (md_vl (by decide)) (by decide) rfl ?_
        refine cl_if_eq (tgt := 89) (dd D30_ok 46 rfl) (by decide) (fun c5 => ?_) (fun c5 => ?_)
        · refine cl_iconst (v := 0) (dd D30_ok 49 rfl) (by decide) ?_
          exact J1 _ (by first | rfl | (rw [if_neg c3, if_neg c4, if_pos c5]; done) | (rw [if_neg c3, if_neg c4, if_pos c5]; rfl) | simp only [if_neg c3, if_neg c4, if_pos c5])
        · refine cl_iconst (v := 1) (dd D30_ok 47 rfl) (by decide) ?_
          refine cl_goto (tgt := 90) (dd D30_ok 48 rfl) (by decide) ?_
          exact J1 _ (by first | rfl | (rw [if_neg c3, if_neg c4, if_neg c5]; done) | (rw [if_neg c3, if_neg c4, if_neg c5]; rfl) | simp only [if_neg c3, if_neg c4, if_neg c5])
set_option maxHeartbeats 1000000 in
theorem vc30_100 {xs : List Int32} {K : Nat → Prop} {h0 : am_H} {d : Nat} {Q : Option Value → cl_A → cl_S → Prop} {A : cl_A} {S : cl_S} {x1 : Int32} {x2 : Int32} {x3 : Int32} {o4 : Option Value}
    (k : (cl_n S x3) ∧ (cl_wp xs K h0 (d + 9) Q I30 54 [some (cl_rf A 3 0), some (cl_rf A 5 x1), some (.int x2), some (cl_rf A 5 (S.2.1 507 x3.toNatClampNeg)), o4] [] A S)) :
    cl_wp xs K h0 (d + 9) Q I30 100 [some (cl_rf A 3 0), some (cl_rf A 5 x1), some (.int x2), some (cl_rf A 5 x3), o4] [] A S := by
  refine cl_aload_n (dd D30_ok 55 rfl) rfl ?_
  refine cl_gR (g := 507) (f := 5) (e := S.2.1 507 x3.toNatClampNeg) (dd D30_ok 56 rfl) pl3_89 (by decide) (by decide) (by decide) rfl rfl k.1.l5 rfl ?_
  refine cl_astore_n (dd D30_ok 57 rfl) (Nat.le_of_ble_eq_true rfl) ?_
  refine cl_goto (tgt := 54) (dd D30_ok 58 rfl) (by decide) ?_
  exact k.2

theorem role_eq : ∀ m ∈ ([0, 1, 2, 3] : List Int32), ∀ k ∈ ([0, 1, 2, 3] : List Int32), ∀ d ∈ ([0, 1, 2, 3] : List Int32), ∀ f ∈ ([0, 1, 2] : List Int32), (if ro m = 3 then (3 : Int32) else (if ¬ d = 3 then (if k = 0 then (if ¬ ro m = 1 then (if ¬ d = 1 then d else (if ro m = 2 then 0 else (if f = 0 then 1 else 0))) else 1) else (if ¬ ro m = 2 then 1 else (if k = 3 then 1 else 3))) else 3)) = ro (f_mo m k d f) := by decide
theorem flt_eq : ∀ m ∈ ([0, 1, 2, 3] : List Int32), ∀ k ∈ ([0, 1, 2, 3] : List Int32), ∀ d ∈ ([0, 1, 2, 3] : List Int32), ∀ f ∈ ([0, 1, 2] : List Int32), (¬ k = 0 → f = 0) → (if ¬ ro m = 0 then (0 : Int32) else (if ro (f_mo m k d f) = 3 then 0 else (if f = 0 then 0 else 1))) = (if (if f_mo m k d f = 1 then (1 : Int32) else (if ¬ f_mo m k d f = 2 then 0 else 1)) = 0 then 0 else if ¬ m = 1 then 0 else if f ≤ 0 then 0 else 1) := by decide
theorem six_eq : ∀ m ∈ ([0, 1, 2, 3] : List Int32), ∀ k ∈ ([0, 1, 2, 3] : List Int32), ∀ d ∈ ([0, 1, 2, 3] : List Int32), ∀ f ∈ ([0, 1, 2] : List Int32), (f_mo m k d f = 6 ↔ k = 1 ∧ ¬ ro (f_mo m k d f) = 3) := by decide
/-- the root is a block or a row; no float but elements -/
def FL (M : md_S) (nn : Nat) : Prop := (M.2 9 0 = 0 ∨ M.2 9 0 = 2) ∧ ∀ i, i < nn → ¬ M.2 3 i = 0 → M.2 9 (9 * i + 1) = 0
def X_p5 : List Nat := [509, 510, 511, 513, 514]
def pD (P : md_S) (S : cl_S) (x : Nat) : Prop := S.2.1 509 x = ro (P.2 12 x) ∧ S.2.1 511 x = 0 ∧ S.2.1 513 x = P.2 28 x ∧ S.2.1 514 x = nI (l1_w P x)
def pF (P : md_S) (S : cl_S) (x : Nat) : Prop := S.2.1 510 x = P.2 13 x
def sm4 (S S' : cl_S) (x : Nat) : Prop := S'.2.1 509 x = S.2.1 509 x ∧ S'.2.1 511 x = S.2.1 511 x ∧ S'.2.1 513 x = S.2.1 513 x ∧ S'.2.1 514 x = S.2.1 514 x
def pZ (T U : List Nat) (S S' : cl_S) : Prop := ∀ x, (x ∉ T → sm4 S S' x) ∧ (x ∉ U → S'.2.1 510 x = S.2.1 510 x)
section PR
variable {xs : List Int32} {Kp : Nat → Prop} {h0 : am_H} {d : Nat} {A : cl_A} {S S' : cl_S} {P : md_S} {nn W Wp B1 B2 i : Nat} {w : Int32}
theorem pD.sm {x : Nat} (h : pD P S x) (e : sm4 S S' x) : pD P S' x := by
  obtain ⟨a, b, c, d⟩ := h
  obtain ⟨e1, e2, e3, e4⟩ := e
  exact ⟨e1.trans a, e2.trans b, e3.trans c, e4.trans d⟩
theorem sm4.tr {S1 S2 : cl_S} {x : Nat} (a : sm4 S S1 x) (b : sm4 S1 S2 x) : sm4 S S2 x := ⟨b.1.trans a.1, b.2.1.trans a.2.1, b.2.2.1.trans a.2.2.1, b.2.2.2.trans a.2.2.2⟩
theorem sm4_of {A' : cl_A} (h : pY [] A S A' S') (x : Nat) : sm4 S S' x := ⟨by rw [h.2.2 509 (by decide) (by decide)], by rw [h.2.2 511 (by decide) (by decide)], by rw [h.2.2 513 (by decide) (by decide)], by rw [h.2.2 514 (by decide) (by decide)]⟩
theorem pI.up (h : pI A S P nn W Wp B1 B2) {g y : Nat} {v : Int32} (hg : g ∈ X_p5) (h0 : g = 510 → ¬ y = 0) : pI A (cl_up S g y v) P nn W Wp B1 B2 := by
  obtain ⟨h1, h2, h3, h4, h5, hce, hbd, h8⟩ := h
  have e : cl_X X_p5 S (cl_up S g y v) := cl_X.rf.up hg _ _
  refine ⟨h1.x e (by decide), h2.x e (by decide), h3, h4, by rw [e.2.2 301 (by decide)]; exact h5, ?_, BD_same hbd e (by decide), fun w hw => ?_⟩
  · obtain ⟨q1, q2, q3, q4, q5, q6, q7, q8, q9, q10, q11⟩ := hce
    refine ⟨q1, q2, ?_, q4, q5, q6, by rw [e.2.2 2500 (by decide)]; exact q7, q8, by rw [e.2.2 1001 (by decide)]; exact q9, by rw [e.2.2 2301 (by decide)]; exact q10, fun p => by rw [e.2.2 2000 (by decide)]; exact q11 p⟩
    rw [cl_up_off _ _ (fun q => h0 q.1.symm q.2.symm)]
    exact q3
  · have := h8 w hw
    unfold wdc at this ⊢
    rw [e.2.2 700 (by decide), e.2.2 701 (by decide), e.2.2 702 (by decide), e.2.2 2 (by decide), e.2.2 3 (by decide)]
    exact this
/-- a node and all in it are prepared -/
def prP (xs : List Int32) (Kp : Nat → Prop) (d : Nat) (P : md_S) (nn B1 B2 : Nat) (w : Int32) (t : bt) : Prop := ∀ (H : Nat), bt_ht t ≤ H → ∀ (q : Nat) (A : cl_A) (S : cl_S) (W Wp : Nat) (o4 : Option Value) (Q : Option Value → cl_A → cl_S → Prop) (h0 : am_H), q < nn → P.2 3 q = 0 → bt_R (P.2 4) (P.2 5) (P.2 7) (nI q) t → (bt_pre t).Nodup → (∀ x ∈ bt_pre t, x < nn ∧ ¬ x = 0) → pI A S P nn W Wp B1 B2 → (∀ a, Kp a → a < S.2.2.1) → l1_F w P t W → W + l1_ws P t ≤ 3600 →
  (∀ A' S' Wp', pI A' S' P nn (W + l1_ws P t) Wp' B1 B2 → pY X_p5 A S A' S' → pZ (bt_pre t) (bt_pre t) S S' → (∀ x ∈ bt_pre t, pD P S' x ∧ pF P S' x) → Q none A' S') → cl_wp xs Kp h0 (d + H + 9) Q I30 54 [some (cl_rf A 3 0), some (cl_rf A 5 (nI q)), some (.int (ro (P.2 12 q))), some (cl_rf A 5 (bt_hd (-1) t)), o4] [] A S
theorem mo_six (hN : NS P nn) (hi : i < nn) : P.2 12 i = 6 ↔ P.2 3 i = 1 ∧ ¬ ro (P.2 12 i) = 3 := by
  by_cases h0 : i = 0
  · subst h0
    have hk : P.2 3 0 = 0 := ((hN.2 0 hi).1.1 rfl).2.1
    rw [hk]
    rcases (mo_root hN hi).1 with c | c <;> rw [c] <;> decide
  · obtain ⟨p, p1, p2, p3, p4, p5, p6⟩ := hN.par hi h0
    have hr := (hN.2 i hi).1.2.2.2.2.2.2
    have hk := (hN.2 i hi).1.2.2.1
    have hm : P.2 12 p ∈ ([0, 1, 2, 3] : List Int32) := by
      rcases hN.k0 (by omega) p3 with c | c | c | c <;> rw [c] <;> decide
    rw [p4]
    exact six_eq _ hm _ hk _ hr.1 _ hr.2.1
theorem prep_node (hN : NS P nn) (hB : B1 ≤ 100000) {k : bt} (hk : prP xs Kp d P nn B1 B2 w k) (hi : i < nn) (h5 : P.2 5 i = bt_hd (-1) k) (hk0 : bt_R (P.2 4) (P.2 5) (P.2 7) (nI i) k) (hnd : (i :: bt_pre k).Nodup) (hx : ∀ x ∈ bt_pre k, x < nn ∧ ¬ x = 0) (hI : pI A S P nn W Wp B1 B2) (hK : ∀ a, Kp a → a < S.2.2.1) (h28 : P.2 28 i = nI W) (hws : P.2 12 i = 6 → ∀ j r, (ws_of P i)[j]? = some r → wd_at P i (f_of P (nI i) 8) (W + j) r) (hF : l1_F w P k (W + l1_w P i)) (hl : W + l1_w P i + l1_ws P k ≤ 3600) : ∀ Q', (∀ A' S' Wp', pI A' S' P nn (W + l1_w P i + l1_ws P k) Wp' B1 B2 → pY X_p5 A S A' S' → pZ (i :: bt_pre k) (bt_pre k) S S' → (∀ x ∈ i :: bt_pre k, pD P S' x) → (∀ x ∈ bt_pre k, pF P S' x) → Q' none A' S') → cl_C xs Kp (d + bt_ht k + 10) 30 [cl_rf A 3 0, cl_rf A 5 (nI i), .int (ro (P.2 12 i))] A S Q' := by
  intro Q' hQ
  have h60 := hI.1.1
  have ci : (nI i).toNatClampNeg = i := nI_clamp (by omega)
  have hnt := hI.nt hi
  have h301 := hI.2.2.2.2.1
  have e501 : S.2.1 501 i = P.2 3 i := hnt.2.2.1
  rw [List.nodup_cons] at hnd
  have hsix := mo_six hN hi
  have hke : ∀ x ∈ bt_pre k, P.2 3 i = 0 := fun x hx => by
    refine Classical.byContradiction fun c => ?_
    have := (hN.2 i hi).1.2.2.2.1 c
    rw [h5] at this
    cases k with
    | leaf u => cases hx
    | branch j k2 s2 => exact nI_ne_m1 (by have := hk0.1; omega) this
  -- behind the words
  have cont : ∀ A1 S1 S2 Wp1 (h0 : am_H) (o3 o4 : Option Value), S1 = cl_up (cl_up (cl_up S 509 i (ro (P.2 12 i))) 511 i 0) 513 i (nI W) → pI A1 S2 P nn (W + l1_w P i) Wp1 B1 B2 → pY [] A S1 A1 S2 → cl_wp xs Kp h0 (d + bt_ht k + 9) Q' I30 36 [some (cl_rf A1 3 0), some (cl_rf A1 5 (nI i)), some (.int (ro (P.2 12 i))), o3, o4] [] A1 S2 := by
    intro A1 S1 S2 Wp1 h0 o3 o4 e1 hI2 hY
    have hnt2 := hI2.nt hi
    have h301' := hI2.2.2.2.2.1
    have e513 : S2.2.1 513 i = nI W := by
      rw [hY.2.2 513 (by decide) (by decide), e1, cl_up_at]
    refine vc30_36 (d := d + bt_ht k) ⟨hI2.1.2.1, hnt2.1, ?_⟩
    rw [ci, h301', e513, nI_sub' (by omega) (by omega), show W + l1_w P i - W = l1_w P i by omega, hnt2.2.2.2.2.2.1, h5]
    have hI3 : pI A1 (cl_up S2 514 i (nI (l1_w P i))) P nn (W + l1_w P i) Wp1 B1 B2 := hI2.up (by decide) (fun q => absurd q (by decide))
    have hY1 : pY X_p5 A S A S1 := by
      rw [e1]
      exact pY.x (((cl_X.rf.up (by decide) _ _).up (by decide) _ _).up (by decide) _ _)
    have hY2 : pY X_p5 A S A1 (cl_up S2 514 i (nI (l1_w P i))) := (hY1.tr (hY.sub (by intro g hg; cases hg))).tr (pY.x (cl_X.rf.up (by decide) _ _))
    by_cases hkl : ∃ u, k = .leaf u
    · obtain ⟨u, rfl⟩ := hkl
      refine vc30_54 (d := d + bt_ht (.leaf u)) ⟨fun _ => ?_, fun q => absurd rfl q⟩
      refine hQ A1 _ Wp1 ?_ hY2 ?_ ?_ (fun x hx => by cases hx)
      · rw [show W + l1_w P i + l1_ws P (.leaf u) = W + l1_w P i from rfl]
        exact hI3
      · intro y
        refine ⟨fun hy => ?_, fun _ => ?_⟩
        · have hyi : ¬ y = i := fun q => hy (by simp [q])
          have s1 : sm4 S S1 y := by
            rw [e1]
            exact ⟨by rw [cl_up_off _ _ (by omega), cl_up_off _ _ (by omega), cl_up_off _ _ (by omega)], by rw [cl_up_off _ _ (by omega), cl_up_off _ _ (by omega), cl_up_off _ _ (by omega)], by rw [cl_up_off _ _ (by omega), cl_up_off _ _ (by omega), cl_up_off _ _ (by omega)], by rw [cl_up_off _ _ (by omega), cl_up_off _ _ (by omega), cl_up_off _ _ (by omega)]⟩
          refine (s1.tr (sm4_of hY y)).tr ⟨by rw [cl_up_off _ _ (by omega)], by rw [cl_up_off _ _ (by omega)], by rw [cl_up_off _ _ (by omega)], by rw [cl_up_off _ _ (by omega)]⟩
        · rw [cl_up_off _ _ (by omega), hY.2.2 510 (by decide) (by decide), e1, cl_up_off _ _ (by omega), cl_up_off _ _ (by omega), cl_up_off _ _ (by omega)]
      · intro y hy
        have hyi : y = i := by simpa [bt_pre] using hy
        subst hyi
        refine ⟨?_, ?_, ?_, cl_up_at _ _ _ _⟩
        · rw [cl_up_off _ _ (by omega), hY.2.2 509 (by decide) (by decide), e1, cl_up_off _ _ (by omega), cl_up_off _ _ (by omega), cl_up_at]
        · rw [cl_up_off _ _ (by omega), hY.2.2 511 (by decide) (by decide), e1, cl_up_off _ _ (by omega), cl_up_at]
        · rw [cl_up_off _ _ (by omega), e513, h28]
    · have hP3 : P.2 3 i = 0 := by
        cases k with
        | leaf u => exact absurd ⟨u, rfl⟩ hkl
        | branch j k2 s2 => exact hke j (by simp [bt_pre])
      refine hk (bt_ht k) (Nat.le_refl _) i A1 _ (W + l1_w P i) Wp1 o4 Q' h0 hi hP3 hk0 hnd.2 hx hI3 (fun a ha => Nat.lt_of_lt_of_le (hK a ha) hY2.1.2.2.2) hF hl (fun A' S' Wp' k1 k2 k3 k4 => ?_)
      refine hQ A' S' Wp' k1 (hY2.tr k2) (fun y => ⟨fun hy => ?_, fun hy => ?_⟩) (fun y hy => ?_) (fun y hy => (k4 y hy).2)
      · have hyi : ¬ y = i := fun q => hy (by simp [q])
        have s1 : sm4 S S1 y := by
          rw [e1]
          exact ⟨by rw [cl_up_off _ _ (by omega), cl_up_off _ _ (by omega), cl_up_off _ _ (by omega)], by rw [cl_up_off _ _ (by omega), cl_up_off _ _ (by omega), cl_up_off _ _ (by omega)], by rw [cl_up_off _ _ (by omega), cl_up_off _ _ (by omega), cl_up_off _ _ (by omega)], by rw [cl_up_off _ _ (by omega), cl_up_off _ _ (by omega), cl_up_off _ _ (by omega)]⟩
        have s2 : sm4 S2 (cl_up S2 514 i (nI (l1_w P i))) y := ⟨by rw [cl_up_off _ _ (by omega)], by rw [cl_up_off _ _ (by omega)], by rw [cl_up_off _ _ (by omega)], by rw [cl_up_off _ _ (by omega)]⟩
        exact ((s1.tr (sm4_of hY y)).tr s2).tr ((k3 y).1 (fun q => hy (List.mem_cons_of_mem _ q)))
      · rw [(k3 y).2 hy, cl_up_off _ _ (by omega), hY.2.2 510 (by decide) (by decide), e1, cl_up_off _ _ (by omega), cl_up_off _ _ (by omega), cl_up_off _ _ (by omega)]
      · rcases List.mem_cons.mp hy with rfl | hy
        · have : pD P (cl_up S2 514 y (nI (l1_w P y))) y := by
            refine ⟨?_, ?_, ?_, cl_up_at _ _ _ _⟩
            · rw [cl_up_off _ _ (by omega), hY.2.2 509 (by decide) (by decide), e1, cl_up_off _ _ (by omega), cl_up_off _ _ (by omega), cl_up_at]
            · rw [cl_up_off _ _ (by omega), hY.2.2 511 (by decide) (by decide), e1, cl_up_off _ _ (by omega), cl_up_at]
            · rw [cl_up_off _ _ (by omega), e513, h28]
          exact this.sm ((k3 y).1 hnd.1)
        · exact (k4 y hy).1
  have hI1 : pI A (cl_up (cl_up (cl_up S 509 i (ro (P.2 12 i))) 511 i 0) 513 i (nI W)) P nn W Wp B1 B2 := ((hI.up (by decide) (fun q => absurd q (by decide))).up (by decide) (fun q => absurd q (by decide))).up (by decide) (fun q => absurd q (by decide))
  refine cl_intro (d := d + bt_ht k + 9) (ms30 xs) (Nat.le_of_ble_eq_true rfl) (fun h0 => vc30_0 (d := d + bt_ht k) ⟨hnt.1, hI.1.2.1, ?_⟩)
  rw [ci, e501, h301]
  refine ⟨fun q => ?_, fun q => ⟨fun q2 => ?_, fun q2 => ?_⟩⟩
  · have hw0 : l1_w P i = 0 := by
      unfold l1_w
      rw [if_neg (fun z => q (hsix.mp z).1)]
    exact cont A _ _ Wp h0 none none rfl (by rw [hw0]; exact hI1) pY.rf
  · have hw0 : l1_w P i = 0 := by
      unfold l1_w
      rw [if_neg (fun z => (hsix.mp z).2 q2)]
    exact cont A _ _ Wp h0 none none rfl (by rw [hw0]; exact hI1) pY.rf
  · have h6 : P.2 12 i = 6 := hsix.mpr ⟨Classical.not_not.mp q, q2⟩
    have hwl : l1_w P i = (ws_of P i).length := if_pos h6
    refine cl_call (as := [cl_rf A 5 (nI i)]) (rest := []) (dd D30_ok 19 rfl) pl3_73 rfl (Nat.le_of_ble_eq_true rfl) (ms31 xs) rfl (by decide) hI1.1.2.1.l3 (kk_listWords (d := d + bt_ht k) hI1 hB hi (hN.2 i hi).1.2.2.2.2.2.1 hK (by rw [← hwl]; omega) (hws h6) _ (fun A' S' Wp' k1 k2 => ?_)) rfl
    show cl_wp xs Kp h0 (d + bt_ht k + 9) Q' I30 36 [some (cl_rf A 3 0), some (cl_rf A 5 (nI i)), some (.int (ro (P.2 12 i))), none, none] [] A' S'
    rw [k2.r3, k2.r5]
    exact cont A' _ S' Wp' h0 none none rfl (by rw [hwl]; exact k1) k2
end PR
