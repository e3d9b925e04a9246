/-! the reference: a block's laying moves only what is directly in it (by hand: wip/whole/gen/c37.py) -/
/-- word w is of a text whose box is i -/
def wO (G : md_S) (i w : Nat) : Prop := ∃ n, n < 60 ∧ G.2 30 w = nI n ∧ G.2 14 n = nI i
def itO (G : md_S) (i : Nat) (a : Int32) : Prop := (0 ≤ a → wO G i a.toNatClampNeg) ∧ (¬ 0 ≤ a → G.2 14 (-1 - a).toNatClampNeg = nI i)
def FB (G : md_S) (i : Nat) (M : md_S) : Prop := (∀ a, a ∉ X_B → M.2 a = G.2 a) ∧ (∀ n, ¬ G.2 14 n = nI i → M.2 15 n = G.2 15 n ∧ M.2 16 n = G.2 16 n) ∧ ∀ w, ¬ wO G i w → M.2 33 w = G.2 33 w ∧ M.2 34 w = G.2 34 w
def FI (G : md_S) (i : Nat) (M : md_S) : Prop := FB G i M ∧ (∀ k, k < (M.1 41).toNatClampNeg → itO G i (M.2 44 k)) ∧ ∀ k, k < (M.1 53).toNatClampNeg → G.2 14 (M.2 52 k).toNatClampNeg = nI i
theorem clamp_le (n : Nat) : (nI n).toNatClampNeg ≤ n := by
  rcases Nat.lt_or_ge n (2 ^ 31) with h | h
  · rw [nI_clamp h]
    exact Nat.le_refl _
  · have h1 : (nI n).toNatClampNeg < 2 ^ 31 := by
      have := Int32.toInt_lt (nI n)
      rw [Int32.toNatClampNeg]
      omega
    omega
theorem FB.same {G M M' : md_S} {i : Nat} (h : FB G i M) (e : M'.2 = M.2) : FB G i M' := by
  unfold FB
  rw [e]
  exact h
theorem FB.x {G M M' : md_S} {i : Nat} (h : FB G i M) (e : ∀ a, a ∉ [44, 45, 47, 48, 49, 50, 51, 52] → M'.2 a = M.2 a) : FB G i M' := by
  obtain ⟨h1, h2, h3⟩ := h
  refine ⟨fun a ha => ?_, ?_, ?_⟩
  · rw [e a (fun c => ha ((show ∀ a ∈ [44, 45, 47, 48, 49, 50, 51, 52], a ∈ X_B by decide) a c))]
    exact h1 a ha
  · rw [e 15 (by decide), e 16 (by decide)]; exact h2
  · rw [e 33 (by decide), e 34 (by decide)]; exact h3
theorem FB.up15 {G M : md_S} {i n : Nat} {x y : Int32} (h : FB G i M) (hn : G.2 14 n = nI i) : FB G i (md_up2 (md_up2 M 15 n x) 16 n y) := by
  obtain ⟨h1, h2, h3⟩ := h
  refine ⟨fun a ha => ?_, fun m hm => ?_, fun w hw => ?_⟩
  · rw [md_up2_ne _ (fun c => ha (by rw [c]; decide)), md_up2_ne _ (fun c => ha (by rw [c]; decide))]
    exact h1 a ha
  · have : ¬ m = n := fun c => hm (by rw [c]; exact hn)
    rw [md_up2_ne _ (by decide), md_up2_off _ _ this, md_up2_off _ _ this, md_up2_ne _ (by decide)]
    exact h2 m hm
  · rw [md_up2_ne _ (by decide), md_up2_ne _ (by decide), md_up2_ne _ (by decide), md_up2_ne _ (by decide)]
    exact h3 w hw
theorem FB.up33 {G M : md_S} {i n : Nat} {x y : Int32} (h : FB G i M) (hn : wO G i n) : FB G i (md_up2 (md_up2 M 33 n x) 34 n y) := by
  obtain ⟨h1, h2, h3⟩ := h
  refine ⟨fun a ha => ?_, fun m hm => ?_, fun w hw => ?_⟩
  · rw [md_up2_ne _ (fun c => ha (by rw [c]; decide)), md_up2_ne _ (fun c => ha (by rw [c]; decide))]
    exact h1 a ha
  · rw [md_up2_ne _ (by decide), md_up2_ne _ (by decide), md_up2_ne _ (by decide), md_up2_ne _ (by decide)]
    exact h2 m hm
  · have : ¬ w = n := fun c => hw (by rw [c]; exact hn)
    rw [md_up2_ne _ (by decide), md_up2_off _ _ this, md_up2_off _ _ this, md_up2_ne _ (by decide)]
    exact h3 w hw
theorem FB.pf {G M : md_S} {i c n : Nat} (h : FB G i M) (hn : G.2 14 n = nI i) : FB G i (f_putFloat_M M c n) := by
  unfold f_putFloat_M
  refine FB.up15 (FB.x h (fun a ha => ?_)) hn
  simp only [List.mem_cons, List.not_mem_nil, or_false, not_or] at ha
  rw [md_up1_2, md_up2_ne _ ha.2.2.2.2.2.2.1, md_up2_ne _ ha.2.2.2.2.2.1, md_up2_ne _ ha.2.2.2.2.1, md_up2_ne _ ha.2.2.2.1, md_up2_ne _ ha.2.2.1, f_edgesAt_2]
theorem FI.pf {G M : md_S} {i c n : Nat} (h : FI G i M) (hn : G.2 14 n = nI i) : FI G i (f_putFloat_M M c n) := by
  refine ⟨h.1.pf hn, ?_, ?_⟩
  · rw [pf_1 _ _ _ (by decide), pf_2 _ _ _ (by decide)]; exact h.2.1
  · rw [pf_1 _ _ _ (by decide), pf_2 _ _ _ (by decide)]; exact h.2.2
theorem FB.el1 {G M : md_S} {i k : Nat} {b : Int32} (h : FB G i M) (hi : itO G i (M.2 44 k)) : FB G i (f_el1 b M k) := by
  unfold f_el1
  by_cases c : 0 ≤ M.2 44 k
  · rw [if_pos c]
    exact h.up33 (hi.1 c)
  · rw [if_neg c]
    exact h.up15 (hi.2 c)
theorem el1_44 {M : md_S} {k : Nat} {b : Int32} {a : Nat} (ha : a ∉ [15, 16, 33, 34]) : (f_el1 b M k).2 a = M.2 a := by
  simp only [List.mem_cons, List.not_mem_nil, or_false, not_or] at ha
  unfold f_el1
  split
  · rw [md_up2_ne _ ha.2.2.2, md_up2_ne _ ha.2.2.1]
  · rw [md_up2_ne _ ha.2.1, md_up2_ne _ ha.1]
theorem FB.elI {G M : md_S} {i : Nat} {b : Int32} (h : FB G i M) : ∀ r, (∀ k, k < r → itO G i (M.2 44 k)) → FB G i ((List.range r).foldl (f_el1 b) M) ∧ ∀ a, a ∉ [15, 16, 33, 34] → ((List.range r).foldl (f_el1 b) M).2 a = M.2 a := by
  intro r
  induction r with
  | zero => intro _; exact ⟨h, fun _ _ => rfl⟩
  | succ r ih =>
    intro hk
    obtain ⟨h1, h2⟩ := ih (fun k hk' => hk k (by omega))
    rw [List.range_succ, List.foldl_append, List.foldl_cons, List.foldl_nil]
    refine ⟨h1.el1 (by rw [h2 44 (by decide)]; exact hk r (by omega)), fun a ha => by rw [el1_44 ha, h2 a ha]⟩
theorem FB.elW {G : md_S} {i : Nat} : ∀ (l : List Nat) (M : md_S), FB G i M → (∀ k ∈ l, G.2 14 (M.2 52 k).toNatClampNeg = nI i) → FB G i (l.foldl (fun N k => f_putFloat_M N (N.1 46).toNatClampNeg (N.2 52 k).toNatClampNeg) M) := by
  intro l
  induction l with
  | nil => intro M h _; exact h
  | cons k l ih =>
    intro M h hk
    rw [List.foldl_cons]
    refine ih _ (h.pf (hk k (by simp))) (fun k' hk' => ?_)
    rw [pf_2 _ _ _ (by decide)]
    exact hk k' (by simp [hk'])
theorem el_41 (M : md_S) (L wt : Nat) : (f_endLine_M M L wt).1 41 = 0 ∧ (f_endLine_M M L wt).1 53 = 0 := by
  unfold f_endLine_M
  refine ⟨?_, md_up1_at _ _ _⟩
  rw [md_up1_ne _ (by decide)]
  unfold f_elW
  have : ∀ (l : List Nat) (N : md_S), (l.foldl (fun N k => f_putFloat_M N (N.1 46).toNatClampNeg (N.2 52 k).toNatClampNeg) N).1 41 = N.1 41 := by
    intro l
    induction l with
    | nil => intro N; rfl
    | cons k l ih => intro N; rw [List.foldl_cons, ih, pf_1 _ _ _ (by decide)]
  rw [this]
  unfold f_el2
  rw [md_up1_ne _ (by decide), md_up1_ne _ (by decide), md_up1_at]
theorem FI.el {G M : md_S} {i L wt : Nat} (h : FI G i M) (hL : (M.1 41).toNatClampNeg = L) (hwt : (M.1 53).toNatClampNeg = wt) : FI G i (f_endLine_M M L wt) := by
  subst hL hwt
  obtain ⟨h1, h2, h3⟩ := h
  obtain ⟨e1, e2⟩ := el_41 M (M.1 41).toNatClampNeg (M.1 53).toNatClampNeg
  refine ⟨?_, fun k hk => ?_, fun k hk => ?_⟩
  · unfold f_endLine_M
    refine FB.same (M := f_elW (f_el2 (f_elI M (M.1 41).toNatClampNeg)) (M.1 53).toNatClampNeg) ?_ rfl
    obtain ⟨g1, g2⟩ := h1.elI (b := f_elBy M) _ h2
    unfold f_elW
    refine FB.elW _ _ (FB.same (M := f_elI M (M.1 41).toNatClampNeg) g1 rfl) (fun k hk => ?_)
    have : (f_el2 (f_elI M (M.1 41).toNatClampNeg)).2 52 = M.2 52 := g2 52 (by decide)
    rw [this]
    exact h3 k (List.mem_range.mp hk)
  · rw [e1] at hk
    exact absurd hk (by show ¬ k < 0; omega)
  · rw [e2] at hk
    exact absurd hk (by show ¬ k < 0; omega)
theorem FI.place {G M : md_S} {i : Nat} {a w : Int32} (h : FI G i M) (ha : itO G i a) : FI G i (f_place_M M a w) := by
  unfold f_place_M
  refine ⟨h.1.x (fun b hb => ?_), fun k hk => ?_, ?_⟩
  · simp only [List.mem_cons, List.not_mem_nil, or_false, not_or] at hb
    rw [add_2 _ _ _ _ _ (by simp [hb])]
    rfl
  · rw [add_41] at hk
    have := clamp_le 1
    have hk0 : k = 0 := by
      have : (nI (0 + 1)).toNatClampNeg ≤ 0 + 1 := clamp_le _
      omega
    rw [add_44, if_pos hk0]
    exact ha
  · rw [add_1 _ _ _ _ _ (by decide), add_2 _ _ _ _ _ (by decide)]
    exact h.2.2
theorem FI.add {G M : md_S} {i : Nat} {a w x : Int32} (h : FI G i M) (ha : itO G i a) : FI G i (f_add_M M (M.1 41).toNatClampNeg a x w) := by
  refine ⟨h.1.x (fun b hb => ?_), fun k hk => ?_, ?_⟩
  · simp only [List.mem_cons, List.not_mem_nil, or_false, not_or] at hb
    rw [add_2 _ _ _ _ _ (by simp [hb])]
  · rw [add_41] at hk
    have h1 := clamp_le ((M.1 41).toNatClampNeg + 1)
    rw [add_44]
    by_cases c : k = (M.1 41).toNatClampNeg
    · rw [if_pos c]; exact ha
    · rw [if_neg c]; exact h.2.1 k (by omega)
  · rw [add_1 _ _ _ _ _ (by decide), add_2 _ _ _ _ _ (by decide)]
    exact h.2.2
theorem FI.i54 {G M : md_S} {i : Nat} (h : FI G i M) (x : Int32) : FI G i (md_up1 M 54 x) := by
  refine ⟨h.1.same rfl, ?_, ?_⟩
  · rw [md_up1_ne _ (by decide)]; exact h.2.1
  · rw [md_up1_ne _ (by decide)]; exact h.2.2
theorem FI.pi {G M : md_S} {i : Nat} {a w s : Int32} (h : FI G i M) (ha : itO G i a) : FI G i (f_pi M a w s) := by
  unfold f_pi f_putItem_M
  refine FI.i54 ?_ 0
  split
  · exact h.place ha
  · split
    · exact h.add ha
    · exact (h.el rfl rfl).place ha
theorem FI.lt {G : md_S} {i : Nat} {s : Int32} : ∀ (ws : List (Nat × Nat × Int32)) (w : Nat) (M : md_S), FI G i M → (∀ m, m < ws.length → itO G i (nI (w + m))) → FI G i (g_lt s ws w M) := by
  intro ws
  induction ws with
  | nil => intro w M h _; exact h
  | cons r ws ih =>
    intro w M h hw
    unfold g_lt
    refine ih (w + 1) _ (FI.pi ?_ (hw 0 (by simp))) (fun m hm => ?_)
    · split
      · exact h.i54 1
      · exact h
    · rw [show w + 1 + m = w + (m + 1) by omega]
      exact hw (m + 1) (by simp; omega)
theorem FI.text {G M : md_S} {i n w0 : Nat} (h : FI G i M) (hw : ∀ m, m < (ws_of M n).length → itO G i (nI (w0 + m))) : FI G i (f_lineText_M M n w0) := by
  rw [lineText_words]
  unfold g_fn
  have h1 := FI.lt (s := f_of M (nI n) 8) (ws_of M n) w0 M h hw
  split
  · exact h1
  · split
    · exact h1
    · exact h1.i54 1
