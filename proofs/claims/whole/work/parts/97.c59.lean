/-! the class: plantRoot (by program and by hand: wip/whole/gen/c59.py) -/
theorem r_node {xs : List Int32} {K : Nat → Prop} {A : cl_A} {S : cl_S} {h : am_H} {d n : Nat} {k q e : Int32} (hR : cl_R K A S h) (hq : q = -1 ∧ e = 0 ∨ ¬ q = -1 ∧ S.1 5 q.toNatClampNeg ∧ e = S.2.1 503 q.toNatClampNeg + 1) : ∀ Q : Option Value → am_H → Prop, Q none (h ++ nT h.length n k e (cl_rf A 5 q)) → am_T (am_Bx xs) am_nm (d + 2) 10 [.ref h.length, .int (nI n), .int k, cl_rf A 5 q] (h ++ [.inl (5, [.int 0, .int 0, .null, .int 0, .null, .null, .null, .null, .null, .int 0, .int 0, .int 0, .null, .int 0, .int 0, .null])]) Q := by
  intro Q hQ
  refine r10 (n := nI n) (k := k) (e := e) (pv := cl_rf A 5 q) (H := h ++ [.inl (5, [.int 0, .int 0, .null, .int 0, .null, .null, .null, .null, .null, .int 0, .int 0, .int 0, .null, .int 0, .int 0, .null])]) (a := h.length) ?_ ?_ Q ?_
  · rw [List.getElem?_append_right (Nat.le_refl _)]
    simp
  · rcases hq with ⟨rfl, rfl⟩ | ⟨h1, h2, h3⟩
    · exact Or.inl ⟨rfl, rfl⟩
    · right
      have h0 := (hR.1 5 _ h2).1
      have hlt : A 5 q.toNatClampNeg < h.length := (List.getElem?_eq_some_iff.mp h0).1
      refine ⟨A 5 q.toNatClampNeg, (List.range 16).map (fun k => cl_fv A S 5 k q.toNatClampNeg), S.2.1 503 q.toNatClampNeg, ?_, Nat.lt_of_lt_of_le hlt (by simp), Nat.ne_of_lt hlt, ?_, rfl, h3⟩
      · unfold cl_rf
        rw [if_neg h1]
      · rw [List.getElem?_append_left hlt, h0]
        rfl
  · have e1 : XH (h ++ [Sum.inl (5, [.int 0, .int 0, .null, .int 0, .null, .null, .null, .null, .null, .int 0, .int 0, .int 0, .null, .int 0, .int 0, .null])]) h.length (.inl (5, [.int (nI n), .int k, cl_rf A 5 q, .int e, .ref ((h ++ [(Sum.inl (5, [.int 0, .int 0, .null, .int 0, .null, .null, .null, .null, .null, .int 0, .int 0, .int 0, .null, .int 0, .int 0, .null]) : am_E)]).length + 0), .null, .null, .null, .retAddr 1, .int 3, .int 0, .int 0, .ref ((h ++ [(Sum.inl (5, [.int 0, .int 0, .null, .int 0, .null, .null, .null, .null, .null, .int 0, .int 0, .int 0, .null, .int 0, .int 0, .null]) : am_E)]).length + 1), .int 0, .int 0, .null])) [.inr (.int, [.int (if k = 0 then 0 else 1), .int 0, .int (-1), .int (-1), .int 0, .int 0, .int 0, .int 0, .int 1]), .inl (0, [.int 0, .int 0, .int 0, .int 0, .null])] = h ++ nT h.length n k e (cl_rf A 5 q) := by
      unfold XH nT
      rw [List.set_append_right _ _ (Nat.le_refl _)]
      simp
    rw [e1]
    exact hQ
/-- no node in the array of nodes before place j -/
def clr (S : cl_S) (j : Nat) : cl_S := (S.1, fun g i => if g = 2100 ∧ i < j then -1 else S.2.1 g i, S.2.2)
theorem clr_0 (S : cl_S) : clr S 0 = S := by
  obtain ⟨a, b, c⟩ := S
  show (a, (fun g i => if g = 2100 ∧ i < 0 then -1 else b g i), c) = (a, b, c)
  congr 2
  funext g i
  rw [if_neg (by omega)]
theorem clr_s (S : cl_S) (j : Nat) : cl_up (clr S j) 2100 j (-1) = clr S (j + 1) := by
  show (S.1, (fun g' i => if g' = 2100 ∧ i = j then (-1 : Int32) else if g' = 2100 ∧ i < j then -1 else S.2.1 g' i), S.2.2) = (S.1, (fun g i => if g = 2100 ∧ i < j + 1 then (-1 : Int32) else S.2.1 g i), S.2.2)
  congr 2
  funext g i
  by_cases c : g = 2100 ∧ i = j
  · rw [if_pos c, if_pos (by omega)]
  · rw [if_neg c]
    by_cases c2 : g = 2100 ∧ i < j
    · rw [if_pos c2, if_pos (by omega)]
    · rw [if_neg c2, if_neg (by omega)]
set_option maxHeartbeats 1000000 in
theorem vc9_0 {xs : List Int32} {K : Nat → Prop} {h0 : am_H} {d : Nat} {Q : Option Value → cl_A → cl_S → Prop} {A : cl_A} {S : cl_S} 
    (k : cl_wp xs K h0 (d + 2) Q I9 2 [some (cl_rf A 8 0), some (.int 0)] [] A S) :
    cl_wp xs K h0 (d + 2) Q I9 0 [some (cl_rf A 8 0), none] [] A S := by
  refine cl_iconst (v := 0) (dd D9_ok 0 rfl) (by decide) ?_
  refine cl_istore_n (dd D9_ok 1 rfl) (Nat.le_of_ble_eq_true rfl) ?_
  exact k
set_option maxHeartbeats 1000000 in
theorem vc9_2 {xs : List Int32} {K : Nat → Prop} {h0 : am_H} {d : Nat} {Q : Option Value → cl_A → cl_S → Prop} {A : cl_A} {S : cl_S} {x1 : Int32}
    (k : (cl_z S) ∧ (((60 ≤ x1) → cl_wp xs K h0 (d + 2) Q I9 24 [some (cl_rf A 8 0), some (.int x1)] [] A S) ∧ (¬ (60 ≤ x1) → (∀ j, S.1 21 j → j = 0) ∧ ((vp_in x1 60) ∧ (cl_wp xs K h0 (d + 2) Q I9 2 [some (cl_rf A 8 0), some (.int (x1 + 1))] [] A (cl_up S 2100 x1.toNatClampNeg (-1))))))) :
    cl_wp xs K h0 (d + 2) Q I9 2 [some (cl_rf A 8 0), some (.int x1)] [] A S := by
  refine cl_iload_n (dd D9_ok 2 rfl) rfl ?_
  refine cl_aload_n (dd D9_ok 3 rfl) rfl ?_
  refine cl_getO (g := 21) (dd D9_ok 4 rfl) pl8_15 (by decide) (by decide) (by decide) rfl k.1.l8 ?_
  refine cl_len (f := 21) (n := 60) (dd D9_ok 5 rfl) (by decide) k.1.l21 (Or.inr (Or.inr (Or.inr ⟨_, by decide, rfl⟩))) (by show ((List.range 60).map _).length = 60; simp) ?_
  rw [show (nI 60 : Int32) = 60 from rfl]
  refine cl_icmp_ge (tgt := 24) (dd D9_ok 6 rfl) (by decide) (fun c1 => ?_) (fun c1 => ?_)
  · exact (k.2.1 c1)
  · refine cl_aload_n (dd D9_ok 7 rfl) rfl ?_
    refine cl_getO (g := 21) (dd D9_ok 8 rfl) pl8_15 (by decide) (by decide) (by decide) rfl k.1.l8 ?_
    refine cl_iload_n (dd D9_ok 9 rfl) rfl ?_
    refine cl_null (g := 5) (dd D9_ok 10 rfl) ?_
    refine cl_aas (dd D9_ok 11 rfl) k.1 (k.2.2 c1).1 (k.2.2 c1).2.1 (Or.inl rfl) ?_
    refine cl_iinc (v := x1 + 1) (dd D9_ok 12 rfl) rfl rfl ?_
    refine cl_goto (tgt := 2) (dd D9_ok 13 rfl) (by decide) ?_
    exact (k.2.2 c1).2.2
set_option maxHeartbeats 1000000 in
theorem vc9_24 {xs : List Int32} {K : Nat → Prop} {h0 : am_H} {d : Nat} {Q : Option Value → cl_A → cl_S → Prop} {A : cl_A} {S : cl_S} {x1 : Int32}
    (k : (cl_z S) ∧ (cl_wp xs K h0 (d + 2) Q I9 29 [some (cl_rf A 8 0), some (.int x1)] [.int 0, cl_rf A 21 0] A S)) :
    cl_wp xs K h0 (d + 2) Q I9 24 [some (cl_rf A 8 0), some (.int x1)] [] A S := by
  refine cl_aload_n (dd D9_ok 14 rfl) rfl ?_
  refine cl_getO (g := 21) (dd D9_ok 15 rfl) pl8_15 (by decide) (by decide) (by decide) rfl k.1.l8 ?_
  refine cl_iconst (v := 0) (dd D9_ok 16 rfl) (by decide) ?_
  exact k.2
set_option maxHeartbeats 1000000 in
theorem vc9_39 {xs : List Int32} {K : Nat → Prop} {h0 : am_H} {d : Nat} {Q : Option Value → cl_A → cl_S → Prop} {A : cl_A} {S : cl_S} {x1 : Int32} {y0 : Int32}
    (k : (∀ j, S.1 21 j → j = 0) ∧ ((y0 = -1 ∨ S.1 5 y0.toNatClampNeg) ∧ ((cl_z S) ∧ (Q none A (cl_up (cl_up S 2100 0 y0) 803 0 1))))) :
    cl_wp xs K h0 (d + 2) Q I9 39 [some (cl_rf A 8 0), some (.int x1)] [cl_rf A 5 y0, .int 0, cl_rf A 21 0] A S := by
  refine cl_aas (dd D9_ok 23 rfl) k.2.2.1 k.1 (md_vl (by decide)) k.2.1 ?_
  refine cl_aload_n (dd D9_ok 24 rfl) rfl ?_
  refine cl_iconst (v := 1) (dd D9_ok 25 rfl) (by decide) ?_
  refine cl_pI (g := 803) (dd D9_ok 26 rfl) pl8_44 (by decide) (by decide) rfl rfl rfl rfl rfl k.2.2.1.l8 ?_
  exact cl_vret (dd D9_ok 27 rfl) rfl k.2.2.2
section PL
variable {xs : List Int32} {Kp : Nat → Prop} {h0 : am_H} {d : Nat} {Q : Option Value → cl_A → cl_S → Prop} {A : cl_A} {S : cl_S}
theorem rf_o {n L f : Nat} {v : Int32} (h5 : ¬ f = 5) (h22 : ¬ f = 22) (h0 : ¬ f = 0) : cl_rf (nA A n L) f v = cl_rf A f v := by
  unfold cl_rf
  rw [nA_o h5 h22 h0]
theorem rf_n {n L : Nat} (hn : n < 60) : cl_rf (nA A n L) 5 (nI n) = .ref L := by
  unfold cl_rf
  rw [if_neg (nI_ne_m1 (by omega)), nI_clamp (by omega)]
  simp [nA]
theorem plant_mid {x1 : Int32} (hG : GA A) (hfm : ∀ f i, S.1 f i → f ≤ 25) (hK : ∀ a, Kp a → a < S.2.2.1) (k : cl_wp xs Kp h0 (d + 2) Q I9 39 [some (cl_rf (nA A 0 S.2.2.1) 8 0), some (.int x1)] [cl_rf (nA A 0 S.2.2.1) 5 0, .int 0, cl_rf (nA A 0 S.2.2.1) 21 0] (nA A 0 S.2.2.1) (nS A S 0 0 (-1) 0)) : cl_wp xs Kp h0 (d + 2) Q I9 29 [some (cl_rf A 8 0), some (.int x1)] [.int 0, cl_rf A 21 0] A S := by
  intro h hR hF
  have hlen := hR.2.2.1
  have hnew := nS_new (n := 0) (k := 0) (q := -1) (e := 0) hR (fun a ha => by rw [hlen]; exact hK a ha) hG (by decide) hfm (Or.inl rfl)
  rw [hlen] at hnew
  have k2 := k _ hnew.1 (hF.tr hnew.2)
  have e5 : cl_rf (nA A 0 S.2.2.1) 5 0 = .ref S.2.2.1 := rf_n (n := 0) (by decide)
  rw [rf_o (f := 8) (by decide) (by decide) (by decide), rf_o (f := 21) (by decide) (by decide) (by decide), e5, ← hlen] at k2
  refine ax_new (dd D9_ok 17 rfl) pl8_13 rfl rfl rfl ?_
  refine ax_dup (dd D9_ok 18 rfl) ?_
  refine ax_iconst (v := 0) (dd D9_ok 19 rfl) (by decide) ?_
  refine ax_iconst (v := 0) (dd D9_ok 20 rfl) (by decide) ?_
  refine ax_null (dd D9_ok 21 rfl) ?_
  exact ax_init (as := [.int 0, .int 0, .null]) (b := h.length) (dd D9_ok 22 rfl) pl8_50 (Or.inl rfl) rfl (Nat.le_of_ble_eq_true rfl) rfl (r_node (n := 0) (k := 0) (q := -1) (e := 0) hR (Or.inl ⟨rfl, rfl⟩) _ ⟨rfl, k2⟩)
theorem plant_loop (hz : cl_z S) (h1 : ∀ j, S.1 21 j → j = 0) (k : cl_wp xs Kp h0 (d + 2) Q I9 24 [some (cl_rf A 8 0), some (.int 60)] [] A (clr S 60)) : ∀ r j, j + r = 60 → cl_wp xs Kp h0 (d + 2) Q I9 2 [some (cl_rf A 8 0), some (.int (nI j))] [] A (clr S j) := by
  intro r
  induction r with
  | zero =>
    intro j hj
    have : j = 60 := by omega
    subst this
    exact vc9_2 ⟨hz, fun _ => k, fun c => absurd (by decide) c⟩
  | succ r ih =>
    intro j hj
    refine vc9_2 ⟨hz, fun c => absurd c (nI_ge (a := j) (b := 60) (by omega) (by omega)), fun _ => ⟨h1, vp_nI (by omega) (by decide), ?_⟩⟩
    rw [nI_clamp (by omega), clr_s, nI_1]
    exact ih (j + 1) (by omega)
/-- the class's state after plantRoot -/
def plS (A : cl_A) (S : cl_S) : cl_S := cl_up (cl_up (nS A (clr S 60) 0 0 (-1) 0) 2100 0 0) 803 0 1
theorem kk_plant (hz : cl_z S) (h1 : ∀ j, S.1 21 j → j = 0) (hG : GA A) (hfm : ∀ f i, S.1 f i → f ≤ 25) (hK : ∀ a, Kp a → a < S.2.2.1) : ∀ Q', Q' none (nA A 0 S.2.2.1) (plS A S) → cl_C xs Kp (d + 3) 9 [cl_rf A 8 0] A S Q' := by
  intro Q' hQ
  refine cl_intro (ms9 xs) (Nat.le_of_ble_eq_true rfl) (fun h0 => vc9_0 ?_)
  have hl := plant_loop (xs := xs) (Kp := Kp) (h0 := h0) (d := d) (Q := Q') (A := A) hz h1 (vc9_24 ⟨hz, plant_mid (S := clr S 60) hG hfm hK (vc9_39 ⟨fun j hj => ?_, Or.inr ?_, ?_, hQ⟩)⟩) 60 0 rfl
  · rw [clr_0] at hl
    exact hl
  · exact h1 j hj
  · exact Or.inl rfl
  · exact hz
end PL
