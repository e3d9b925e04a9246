/-! the reference: a block's laying moves only what is directly in it, 2 (by hand: wip/whole/gen/c38.py) -/
theorem clamp_add1 (x : Int32) : (x + 1).toNatClampNeg ≤ x.toNatClampNeg + 1 := by
  have h1 := Int32.toInt_lt x
  have h2 := Int32.le_toInt x
  have h3 : (x + 1).toInt = (x.toInt + 1).bmod (2 ^ 32) := by
    rw [Int32.toInt_add]
    rfl
  rw [Int32.toNatClampNeg, Int32.toNatClampNeg, h3]
  by_cases c : x.toInt = 2 ^ 31 - 1
  · rw [c]
    have : ((2 : Int) ^ 31 - 1 + 1).bmod (2 ^ 32) = -2147483648 := by decide
    rw [this]
    omega
  · rw [Int.bmod_eq_of_le (by omega) (by omega)]
    omega
/-- all that is directly in box i -/
def dG (G : md_S) (i : Nat) : bt → Prop
  | .leaf _ => True
  | .branch j k s => (j < 60 ∧ G.2 14 j = nI i ∧ (G.2 12 j = 6 → ∃ w, G.2 28 j = nI w ∧ wd_on G j w (ws_of G j) ∧ w + (ws_of G j).length ≤ 3700)) ∧ (nd_in G j → dG G i k) ∧ dG G i s
theorem FI.wait {G M : md_S} {i j : Nat} (h : FI G i M) (hj : j < 60) (h14 : G.2 14 j = nI i) : FI G i (f_wait M j) := by
  unfold f_wait
  refine ⟨h.1.x (fun a ha => ?_), ?_, fun k hk => ?_⟩
  · simp only [List.mem_cons, List.not_mem_nil, or_false, not_or] at ha
    rw [md_up1_2, md_up2_ne _ ha.2.2.2.2.2.2.2]
  · rw [md_up1_ne _ (by decide), md_up1_2, md_up2_ne _ (by decide)]
    exact h.2.1
  · rw [md_up1_at] at hk
    have h1 := clamp_add1 (M.1 53)
    rw [md_up1_2]
    by_cases c : k = (M.1 53).toNatClampNeg
    · rw [c, md_up2_at, nI_clamp (by omega)]
      exact h14
    · rw [md_up2_off _ _ c]
      exact h.2.2 k (by omega)
theorem FI.same {G M M' : md_S} {i : Nat} (h : FI G i M) (e : M'.2 = M.2) (h41 : M'.1 41 = M.1 41) (h53 : M'.1 53 = M.1 53) : FI G i M' := by
  refine ⟨h.1.same e, ?_, ?_⟩
  · rw [h41, e]; exact h.2.1
  · rw [h53, e]; exact h.2.2
theorem FI.brk {G M : md_S} {i j : Nat} (h : FI G i M) : FI G i (f_brk M j) := by
  unfold f_brk
  split
  · exact h.same rfl (by rw [md_up1_ne _ (by decide), md_up1_ne _ (by decide)]) (by rw [md_up1_ne _ (by decide), md_up1_ne _ (by decide)])
  · exact (h.el rfl rfl).i54 0
theorem FI.nd {G M D : md_S} {i j : Nat} (h : FI G i M) (hj : j < 60) (h14 : G.2 14 j = nI i) (h6 : G.2 12 j = 6 → ∃ w, G.2 28 j = nI w ∧ wd_on G j w (ws_of G j) ∧ w + (ws_of G j).length ≤ 3700) (hD : nd_in G j → FI G i D) : FI G i (f_nd M j D) := by
  have ea : ∀ a, a ∉ X_B → M.2 a = G.2 a := h.1.1
  have e12 := ea 12 (by decide)
  unfold f_nd
  by_cases c1 : f_isBox M (nI j) = 0
  · rw [if_pos c1]
    by_cases c4 : M.2 12 j = 4
    · rw [if_neg (not_not_intro c4)]
      refine h.pi ⟨fun c => absurd c (nI_neg_lt hj), fun _ => ?_⟩
      rw [nI_neg1 hj, nI_clamp (by omega)]
      exact h14
    rw [if_pos c4]
    by_cases c5 : M.2 12 j = 5
    · rw [if_neg (not_not_intro c5)]
      exact h.brk
    rw [if_pos c5]
    by_cases c6 : M.2 12 j = 6
    · rw [if_neg (not_not_intro c6)]
      obtain ⟨w, w1, w2, w3⟩ := h6 (by rw [← e12]; exact c6)
      have ew := ws_same (ea 9 (by decide)) (ea 10 (by decide)) (ea 11 (by decide)) j
      refine h.text (fun m hm => ?_)
      rw [ew] at hm
      rw [ea 28 (by decide), w1, nI_clamp (by omega)]
      refine ⟨fun _ => ?_, fun c => absurd (Int32.not_lt.mp (nI_pos (by omega))) c⟩
      rw [nI_clamp (by omega)]
      exact ⟨j, hj, (w2 m _ (List.getElem?_eq_getElem hm)).1, h14⟩
    rw [if_pos c6]
    by_cases c0 : M.2 12 j = 0
    · rw [if_neg (not_not_intro c0)]
      exact h
    rw [if_pos c0]
    refine hD ⟨?_, by rw [← e12]; exact c4, by rw [← e12]; exact c5, by rw [← e12]; exact c6, by rw [← e12]; exact c0⟩
    unfold f_isBox at c1 ⊢
    rw [← e12]
    exact c1
  · rw [if_neg c1]
    split
    · exact h.pf h14
    · exact h.wait hj h14
theorem FI.ln {G : md_S} {i : Nat} : ∀ (t : bt) (M : md_S), FI G i M → dG G i t → FI G i (f_ln t M) := by
  intro t
  induction t with
  | leaf u => intro M h _; exact h
  | branch j k s ihk ihs =>
    intro M h hd
    obtain ⟨⟨d1, d2, d3⟩, d4, d5⟩ := hd
    exact ihs _ (h.nd d1 d2 d3 (fun c => ihk M h (d4 c))) d5
theorem FI.thing {G M : md_S} {i j : Nat} {k : bt} (h : FI G i M) (hj : j < 60) (h14 : G.2 14 j = nI i) (h6 : G.2 12 j = 6 → ∃ w, G.2 28 j = nI w ∧ wd_on G j w (ws_of G j) ∧ w + (ws_of G j).length ≤ 3700) (hk : nd_in G j → dG G i k) : FI G i (f_thing M j k) := h.nd hj h14 h6 (fun c => FI.ln k M h (hk c))
theorem FB.go {G M : md_S} {i : Nat} {st : lb_S} (h : FB G i M) : FI G i (lb_go M st) := by
  unfold lb_go
  refine ⟨h.same rfl, fun k hk => ?_, fun k hk => ?_⟩
  · rw [md_up1_ne _ (by decide), md_up1_ne _ (by decide), md_up1_ne _ (by decide), md_up1_at] at hk
    exact absurd hk (by show ¬ k < 0; omega)
  · rw [md_up1_ne _ (by decide), md_up1_at] at hk
    exact absurd hk (by show ¬ k < 0; omega)
theorem FI.fM {G M : md_S} {i : Nat} (h : FI G i M) : FB G i (lb_fM M) := by
  unfold lb_fM
  split
  · exact h.1
  · exact (h.el rfl rfl).1
theorem FB.lb {G : md_S} {i : Nat} {th : Int32} : ∀ (t : bt) (q : Bool) (st : lb_S) (M : md_S), dG G i t → (if q = true then FI G i M else FB G i M) → FB G i (f_lb i th t q st M).2 := by
  intro t
  induction t with
  | leaf u =>
    intro q st M _ h
    unfold f_lb
    cases q
    · exact h
    · exact FI.fM h
  | branch j k s ihk ihs =>
    intro q st M hd h
    obtain ⟨⟨d1, d2, d3⟩, d4, d5⟩ := hd
    unfold f_lb
    by_cases c0 : M.2 12 j = 0
    · rw [if_pos c0]
      exact ihs q st M d5 h
    rw [if_neg c0]
    by_cases cB : lb_isB M j
    · rw [if_pos cB]
      cases q
      · exact ihs false _ _ d5 (FB.up15 h d2)
      · exact ihs false _ _ d5 (FB.up15 (FI.fM h) d2)
    · rw [if_neg cB]
      refine ihs true _ _ d5 ?_
      show FI G i _
      refine FI.thing ?_ d1 d2 d3 d4
      cases q
      · exact FB.go h
      · exact h
/-- only what is directly in the boxes of l has been moved -/
def FP (G : md_S) (l : List Nat) (R : md_S) : Prop := (∀ a, a ∉ X_C → R.2 a = G.2 a) ∧ (∀ n, n ∉ l → R.2 18 n = G.2 18 n) ∧ (∀ n, (∀ x ∈ l, ¬ G.2 14 n = nI x) → R.2 15 n = G.2 15 n ∧ R.2 16 n = G.2 16 n) ∧ ∀ w, (∀ x ∈ l, ¬ wO G x w) → R.2 33 w = G.2 33 w ∧ R.2 34 w = G.2 34 w
theorem wO_same {G M : md_S} (h : ∀ a, a ∉ X_C → M.2 a = G.2 a) {x w : Nat} : wO M x w ↔ wO G x w := by
  unfold wO
  rw [h 30 (by decide), h 14 (by decide)]
theorem FP.tr {G M R : md_S} {l1 l2 : List Nat} (a : FP G l1 M) (b : FP M l2 R) : FP G (l1 ++ l2) R := by
  obtain ⟨a1, a2, a3, a4⟩ := a
  obtain ⟨b1, b2, b3, b4⟩ := b
  refine ⟨fun f hf => (b1 f hf).trans (a1 f hf), fun n hn => ?_, fun n hn => ?_, fun w hw => ?_⟩
  · rw [List.mem_append, not_or] at hn
    exact (b2 n hn.2).trans (a2 n hn.1)
  · obtain ⟨e1, e2⟩ := a3 n (fun x hx => hn x (by simp [hx]))
    obtain ⟨f1, f2⟩ := b3 n (fun x hx => by rw [a1 14 (by decide)]; exact hn x (by simp [hx]))
    exact ⟨f1.trans e1, f2.trans e2⟩
  · obtain ⟨e1, e2⟩ := a4 w (fun x hx => hw x (by simp [hx]))
    obtain ⟨f1, f2⟩ := b4 w (fun x hx => by rw [wO_same a1]; exact hw x (by simp [hx]))
    exact ⟨f1.trans e1, f2.trans e2⟩
theorem FP.rf {G : md_S} {l : List Nat} : FP G l G := ⟨fun _ _ => rfl, fun _ _ => rfl, fun _ _ => ⟨rfl, rfl⟩, fun _ _ => ⟨rfl, rfl⟩⟩
theorem FB.fp {G M R : md_S} {i : Nat} {v : Int32} (h : FB G i M) (e : R = md_up2 M 18 i v) : FP G [i] R := by
  subst e
  obtain ⟨h1, h2, h3⟩ := h
  refine ⟨fun a ha => ?_, fun n hn => ?_, fun n hn => ?_, fun w hw => ?_⟩
  · rw [md_up2_ne _ (fun c => ha (by rw [c]; decide))]
    exact h1 a (fun c => ha ((show ∀ a ∈ X_B, a ∈ X_C by decide) a c))
  · rw [md_up2_off _ _ (by simpa using hn), h1 18 (by decide)]
  · rw [md_up2_ne _ (by decide), md_up2_ne _ (by decide)]
    exact h2 n (hn i (by simp))
  · rw [md_up2_ne _ (by decide), md_up2_ne _ (by decide)]
    exact h3 w (hw i (by simp))
theorem FP.block {G : md_S} {i : Nat} {k : bt} (hd : dG G i k) : FP G [i] (f_layBlock_M G i k) := by
  have h0 : FB G i (lb_M0 G i) := ⟨fun _ _ => rfl, fun _ _ => ⟨rfl, rfl⟩, fun _ _ => ⟨rfl, rfl⟩⟩
  exact FB.fp (FB.lb k false (0, -1, 0, 1, 0) (lb_M0 G i) hd h0) rfl
theorem FB.lf {G : md_S} {i : Nat} : ∀ (k : bt) (a r : Int32) (M : md_S), (∀ q ∈ bt_rt k, G.2 14 q.1 = nI i) → FB G i M → FB G i (f_lf k a r M).2 := by
  intro k
  induction k with
  | leaf u => intro a r M _ h; exact h
  | branch j k s _ ihs =>
    intro a r M h14 h
    have hs : ∀ q ∈ bt_rt s, G.2 14 q.1 = nI i := fun q hq => h14 q (by simp [bt_rt, hq])
    unfold f_lf
    split
    · exact ihs _ _ _ hs (h.up15 (h14 (j, k) (by simp [bt_rt])))
    · exact ihs _ _ _ hs h
theorem FP.flex {G : md_S} {i : Nat} {k : bt} (hd : ∀ q ∈ bt_rt k, G.2 14 q.1 = nI i) : FP G [i] (f_layFlex_M G i k) := by
  have h0 : FB G i G := ⟨fun _ _ => rfl, fun _ _ => ⟨rfl, rfl⟩, fun _ _ => ⟨rfl, rfl⟩⟩
  exact FB.fp (FB.lf k 0 0 G hd h0) rfl
theorem dG_same {G M : md_S} (h : ∀ a, a ∉ X_C → M.2 a = G.2 a) {i : Nat} : ∀ (t : bt), dG G i t → dG M i t := by
  intro t
  induction t with
  | leaf u => intro _; trivial
  | branch j k s ihk ihs =>
    intro hd
    obtain ⟨⟨d1, d2, d3⟩, d4, d5⟩ := hd
    refine ⟨⟨d1, by rw [h 14 (by decide)]; exact d2, fun c => ?_⟩, fun c => ihk (d4 ?_), ihs d5⟩
    · rw [h 12 (by decide)] at c
      obtain ⟨w, w1, w2, w3⟩ := d3 c
      have ew := ws_same (h 9 (by decide)) (h 10 (by decide)) (h 11 (by decide)) j
      refine ⟨w, by rw [h 28 (by decide)]; exact w1, fun q r hq => ?_, by rw [ew]; exact w3⟩
      rw [ew] at hq
      rw [h 30 (by decide), h 31 (by decide), h 32 (by decide)]
      exact w2 q r hq
    · unfold nd_in f_isBox at c ⊢
      rw [h 12 (by decide)] at c
      exact c
def dV (M : md_S) (i : Nat) (k : bt) : Prop := (M.2 12 i = 1 → dG M i k) ∧ (M.2 12 i = 2 → ∀ q ∈ bt_rt k, M.2 14 q.1 = nI i)
theorem dV_same {G M : md_S} (h : ∀ a, a ∉ X_C → M.2 a = G.2 a) {i : Nat} {k : bt} (hd : dV G i k) : dV M i k := by
  refine ⟨fun c => dG_same h k (hd.1 (by rw [← h 12 (by decide)]; exact c)), fun c q hq => ?_⟩
  rw [h 14 (by decide)]
  exact hd.2 (by rw [← h 12 (by decide)]; exact c) q hq
theorem FP.v2 {G : md_S} {i : Nat} {k : bt} (hd : dV G i k) : FP G [i] (f_v2 G i k) := by
  unfold f_v2
  split
  · rename_i c; exact FP.block (hd.1 c)
  · split
    · rename_i c; exact FP.flex (hd.2 c)
    · exact FP.rf
/-- what laying i has left in R -/
def lB (R : md_S) (i : Nat) (k : bt) : Prop := R.2 12 i = 1 ∨ R.2 12 i = 2 → ∃ G, (∀ a, a ∉ X_C → G.2 a = R.2 a) ∧ (∀ n ∈ bt_pre k, G.2 18 n = R.2 18 n) ∧ R.2 18 i = (f_v2 G i k).2 18 i ∧ (∀ n, R.2 14 n = nI i → R.2 15 n = (f_v2 G i k).2 15 n ∧ R.2 16 n = (f_v2 G i k).2 16 n) ∧ ∀ w, wO R i w → R.2 33 w = (f_v2 G i k).2 33 w ∧ R.2 34 w = (f_v2 G i k).2 34 w
theorem lB.keep {M R : md_S} {l : List Nat} {j : Nat} {kj : bt} (h : lB M j kj) (hf : FP M l R) (hj : j < 60) (hl : ∀ x ∈ l, x < 60) (hd : ∀ x ∈ j :: bt_pre kj, x ∉ l) : lB R j kj := by
  obtain ⟨f1, f2, f3, f4⟩ := hf
  have ne : ∀ x ∈ l, ¬ nI j = nI x := by
    intro x hx e
    have := congrArg Int32.toNatClampNeg e
    rw [nI_clamp (by omega), nI_clamp (by have := hl x hx; omega)] at this
    exact hd j (by simp) (by rw [this]; exact hx)
  intro hm
  rw [f1 12 (by decide)] at hm
  obtain ⟨G, g1, g2, g3, g4, g5⟩ := h hm
  refine ⟨G, fun a ha => (g1 a ha).trans (f1 a ha).symm, fun n hn => ?_, ?_, fun n hn => ?_, fun w hw => ?_⟩
  · rw [f2 n (hd n (by simp [hn]))]
    exact g2 n hn
  · rw [f2 j (hd j (by simp))]
    exact g3
  · rw [f1 14 (by decide)] at hn
    obtain ⟨e1, e2⟩ := f3 n (fun x hx c => ne x hx (hn.symm.trans c))
    rw [e1, e2]
    exact g4 n hn
  · rw [wO_same f1] at hw
    obtain ⟨e1, e2⟩ := f4 w (fun x hx c => by
      obtain ⟨n, n1, n2, n3⟩ := hw
      obtain ⟨n', m1, m2, m3⟩ := c
      have := congrArg Int32.toNatClampNeg (n2.symm.trans m2)
      rw [nI_clamp (by omega), nI_clamp (by omega)] at this
      subst this
      exact ne x hx (n3.symm.trans m3))
    rw [e1, e2]
    exact g5 w hw
theorem p2_laid : ∀ (t : bt) (M : md_S), (bt_pre t).Nodup → (∀ x ∈ bt_pre t, x < 60) → bt_all (dV M) t → FP M (bt_pre t) (f_p2 t M) ∧ bt_all (lB (f_p2 t M)) t := by
  intro t
  induction t with
  | leaf u => intro M _ _ _; exact ⟨FP.rf, trivial⟩
  | branch i k s ihk ihs =>
    intro M hn h60 hd
    obtain ⟨d1, d2, d3⟩ := hd
    have hn' := hn
    simp only [bt_pre, List.nodup_cons, List.mem_append, not_or] at hn'
    obtain ⟨⟨nk, ns⟩, hn2⟩ := hn'
    obtain ⟨hk1, hs1, hks⟩ := List.nodup_append.mp hn2
    have i60 := h60 i (by simp [bt_pre])
    have k60 : ∀ x ∈ bt_pre k, x < 60 := fun x hx => h60 x (by simp [bt_pre, hx])
    have s60 : ∀ x ∈ bt_pre s, x < 60 := fun x hx => h60 x (by simp [bt_pre, hx])
    obtain ⟨fs, ls⟩ := ihs M hs1 s60 d3
    obtain ⟨fk, lk⟩ := ihk (f_p2 s M) hk1 k60 (bt_all_mono (fun _ _ _ => dV_same fs.1) d2)
    have fi : FP (f_p2 k (f_p2 s M)) [i] (f_v2 (f_p2 k (f_p2 s M)) i k) := FP.v2 (dV_same fk.1 (dV_same fs.1 d1))
    have ff := (fs.tr fk).tr fi
    refine ⟨?_, ?_, ?_, ?_⟩
    · obtain ⟨a1, a2, a3, a4⟩ := ff
      refine ⟨a1, fun n hn => a2 n ?_, fun n hn => a3 n (fun x hx => hn x ?_), fun w hw => a4 w (fun x hx => hw x ?_)⟩
      · simp only [bt_pre, List.mem_cons, List.mem_append, not_or] at hn
        simp only [List.mem_append, List.mem_singleton, not_or]
        exact ⟨⟨hn.2.2, hn.2.1⟩, hn.1⟩
      · simp only [List.mem_append, List.mem_singleton] at hx
        simp only [bt_pre, List.mem_cons, List.mem_append]
        rcases hx with (hx | hx) | hx
        · exact Or.inr (Or.inr hx)
        · exact Or.inr (Or.inl hx)
        · exact Or.inl hx
      · simp only [List.mem_append, List.mem_singleton] at hx
        simp only [bt_pre, List.mem_cons, List.mem_append]
        rcases hx with (hx | hx) | hx
        · exact Or.inr (Or.inr hx)
        · exact Or.inr (Or.inl hx)
        · exact Or.inl hx
    · intro _
      refine ⟨f_p2 k (f_p2 s M), fun a ha => (fi.1 a ha).symm, fun n hn' => (fi.2.1 n ?_).symm, rfl, fun _ _ => ⟨rfl, rfl⟩, fun _ _ => ⟨rfl, rfl⟩⟩
      rw [List.mem_singleton]
      rintro rfl
      exact nk hn'
    · refine bt_all_mono (fun j kj hj hb => hb.keep fi (k60 j (hj j (by simp))) (fun x hx => ?_) (fun x hx => ?_)) lk
      · rw [List.mem_singleton] at hx; rw [hx]; exact i60
      · rw [List.mem_singleton]
        rintro rfl
        exact nk (hj _ hx)
    · refine bt_all_mono (fun j kj hj hb => (hb.keep fk (s60 j (hj j (by simp))) k60 (fun x hx c => hks x c x (hj x hx) rfl)).keep fi (s60 j (hj j (by simp))) (fun x hx => ?_) (fun x hx => ?_)) ls
      · rw [List.mem_singleton] at hx; rw [hx]; exact i60
      · rw [List.mem_singleton]
        rintro rfl
        exact ns (hj _ hx)
