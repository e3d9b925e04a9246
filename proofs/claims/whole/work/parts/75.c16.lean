/-! the class and the reference within a block: the relation; items settle (by hand: wip/whole/gen/c16.py) -/
/-- item a of the reference is box b of the class -/
def it_b (W : Nat) (a : Int32) (b : Nat) : Prop := (b < 60 ∧ a = -1 - nI b) ∨ ∃ w, w < W ∧ b = 60 + w ∧ a = nI w
/-- the items of a line up to the r-th are settled -/
def elP (M : md_S) (bl : List Nat) (by_ : Int32) (r : Nat) (N : md_S) : Prop :=
  (∀ g, N.1 g = M.1 g) ∧ (∀ a, a ∉ [15, 16, 33, 34] → N.2 a = M.2 a) ∧
  (∀ k b, k < r → bl[k]? = some b → (b < 60 → N.2 15 b = M.2 45 k + by_ ∧ N.2 16 b = M.1 37 + M.1 42 - f_itemHigh M (M.2 44 k)) ∧ ∀ w, b = 60 + w → N.2 33 w = M.2 45 k + by_ ∧ N.2 34 w = M.1 37 + M.1 42 - f_itemHigh M (M.2 44 k)) ∧
  (∀ n, n < 60 → n ∉ bl → N.2 15 n = M.2 15 n ∧ N.2 16 n = M.2 16 n) ∧ ∀ w, 60 + w ∉ bl → N.2 33 w = M.2 33 w ∧ N.2 34 w = M.2 34 w
theorem itemHigh_same {M N : md_S} (h : ∀ a, a ∉ [15, 16, 33, 34] → N.2 a = M.2 a) (a : Int32) : f_itemHigh N a = f_itemHigh M a := by
  unfold f_itemHigh
  rw [h 30 (by decide), h 18 (by decide), of_same (h 9 (by decide))]
theorem elI_facts {M : md_S} {bl : List Nat} {W : Nat} {by_ : Int32} (hW : W ≤ 3700) (hd : bl.Nodup) (hit : ∀ k b, bl[k]? = some b → it_b W (M.2 44 k) b) : ∀ r, r ≤ bl.length → elP M bl by_ r ((List.range r).foldl (f_el1 by_) M) := by
  intro r
  induction r with
  | zero =>
    intro _
    exact ⟨fun _ => rfl, fun _ _ => rfl, fun k b hk => by omega, fun _ _ _ => ⟨rfl, rfl⟩, fun _ _ => ⟨rfl, rfl⟩⟩
  | succ r ih =>
    intro hr
    have ih := ih (by omega)
    rw [List.range_succ, List.foldl_append, List.foldl_cons, List.foldl_nil]
    generalize (List.range r).foldl (f_el1 by_) M = N at ih
    obtain ⟨h1, h2, h3, h4, h5⟩ := ih
    obtain ⟨b, hb⟩ : ∃ b, bl[r]? = some b := ⟨bl[r], List.getElem?_eq_getElem (by omega)⟩
    have hbm : b ∈ bl := List.mem_of_getElem? hb
    have hne : ∀ k b', k < r → bl[k]? = some b' → ¬ b' = b := by
      intro k b' hk hb' e
      subst e
      have := (List.getElem?_inj (i := k) (j := r) (by omega) hd).mp (hb'.trans hb.symm)
      omega
    have e44 : N.2 44 r = M.2 44 r := by rw [h2 44 (by decide)]
    have e45 : N.2 45 r = M.2 45 r := by rw [h2 45 (by decide)]
    unfold f_el1
    rw [itemHigh_same h2, e44, e45, h1 37, h1 42]
    rcases hit r b hb with ⟨hb60, e⟩ | ⟨w, hw, rfl, e⟩
    · rw [e, if_neg (nI_neg_lt hb60), nI_neg1 hb60, nI_clamp (by omega), ← e]
      refine ⟨h1, fun a ha => ?_, fun k b' hk hb' => ?_, fun n hn hnb => ?_, fun w hw => ?_⟩
      · simp only [List.mem_cons, List.not_mem_nil, or_false, not_or] at ha
        rw [md_up2_ne _ ha.2.1, md_up2_ne _ ha.1]
        exact h2 a (by simp [ha])
      · by_cases hkr : k = r
        · subst hkr
          have : b' = b := Option.some.inj (hb'.symm.trans hb)
          subst this
          refine ⟨fun _ => ⟨?_, ?_⟩, fun w hw => by omega⟩
          · rw [md_up2_ne _ (by decide), md_up2_at]
          · rw [md_up2_at]
        · have hk' : k < r := by omega
          have hn := hne k b' hk' hb'
          obtain ⟨g1, g2⟩ := h3 k b' hk' hb'
          refine ⟨fun q => ?_, fun w q => ?_⟩
          · rw [md_up2_ne _ (by decide), md_up2_off _ _ hn, md_up2_off _ _ hn, md_up2_ne _ (by decide)]
            exact g1 q
          · rw [md_up2_ne _ (by decide), md_up2_ne _ (by decide), md_up2_ne _ (by decide), md_up2_ne _ (by decide)]
            exact g2 w q
      · have hn' : ¬ n = b := fun q => hnb (by rw [q]; exact hbm)
        rw [md_up2_ne _ (by decide), md_up2_off _ _ hn', md_up2_off _ _ hn', md_up2_ne _ (by decide)]
        exact h4 n hn hnb
      · rw [md_up2_ne _ (by decide), md_up2_ne _ (by decide), md_up2_ne _ (by decide), md_up2_ne _ (by decide)]
        exact h5 w hw
    · have h0 : (0 : Int32) ≤ nI w := nI_le (a := 0) (by omega) (by omega)
      rw [e, if_pos h0, nI_clamp (by omega), ← e]
      refine ⟨h1, fun a ha => ?_, fun k b' hk hb' => ?_, fun n hn hnb => ?_, fun w' hw' => ?_⟩
      · simp only [List.mem_cons, List.not_mem_nil, or_false, not_or] at ha
        rw [md_up2_ne _ ha.2.2.2, md_up2_ne _ ha.2.2.1]
        exact h2 a (by simp [ha])
      · by_cases hkr : k = r
        · subst hkr
          have : b' = 60 + w := Option.some.inj (hb'.symm.trans hb)
          subst this
          refine ⟨fun q => by omega, fun w' hw' => ?_⟩
          obtain rfl : w' = w := by omega
          refine ⟨?_, ?_⟩
          · rw [md_up2_ne _ (by decide), md_up2_at]
          · rw [md_up2_at]
        · have hk' : k < r := by omega
          have hn := hne k b' hk' hb'
          obtain ⟨g1, g2⟩ := h3 k b' hk' hb'
          refine ⟨fun q => ?_, fun w' q => ?_⟩
          · rw [md_up2_ne _ (by decide), md_up2_ne _ (by decide), md_up2_ne _ (by decide), md_up2_ne _ (by decide)]
            exact g1 q
          · have hww : ¬ w' = w := fun r => hn (by rw [q, r])
            rw [md_up2_ne _ (by decide), md_up2_off _ _ hww, md_up2_off _ _ hww, md_up2_ne _ (by decide)]
            exact g2 w' q
      · rw [md_up2_ne _ (by decide), md_up2_ne _ (by decide), md_up2_ne _ (by decide), md_up2_ne _ (by decide)]
        exact h4 n hn hnb
      · have hww : ¬ w' = w := fun r => hw' (by rw [r]; exact hbm)
        rw [md_up2_ne _ (by decide), md_up2_off _ _ hww, md_up2_off _ _ hww, md_up2_ne _ (by decide)]
        exact h5 w' hw'
/-- floats that wait -/
def si_wt (S : cl_S) (M : md_S) (f : Nat) (wl : List (Nat × bt)) : Prop := M.1 53 = nI wl.length ∧ chn (S.2.1 515) (wl.map (·.1)) (S.2.1 207 f) ∧ S.2.1 208 f = lst (wl.map (·.1)) ∧ ∀ k n, (wl.map (·.1))[k]? = some n → M.2 52 k = nI n
/-- the line -/
def si_ln (S : cl_S) (P M : md_S) (f W : Nat) (ox : Int32) (bl : List Nat) (B : Nat) : Prop := M.1 41 = nI bl.length ∧ bl.length ≤ B ∧ chn (S.2.1 4) bl (S.2.1 400 f) ∧ S.2.1 401 f = lst bl ∧ S.2.1 404 f = M.1 42 ∧ (∀ k b, bl[k]? = some b → it_b W (M.2 44 k) b ∧ S.2.1 0 b = M.2 45 k + ox ∧ S.2.1 3 b = f_itemHigh P (M.2 44 k)) ∧ (¬ bl = [] → S.2.1 403 f = M.1 40 + ox ∧ S.2.1 402 f = M.1 39 + ox ∧ nb B (M.1 39) ∧ nb B (M.1 40)) ∧ nz B (M.1 42) ∧ nz B (M.1 37) ∧ (M.1 37).toInt + (M.1 42).toInt ≤ B ∧ (bl = [] → M.1 42 = 0)
/-- what has been visited is placed, or waits, or is on the line -/
def si_pl (S : cl_S) (P M : md_S) (W : Nat) (ox oy : Int32) (wl : List (Nat × bt)) (bl : List Nat) (V : List (Nat × bt)) (VW : List Nat) : Prop := (∀ q ∈ V, ¬ f_isBox P (nI q.1) = 0 → q ∈ wl ∨ plB P W S M ox oy q) ∧ (∀ q ∈ V, P.2 12 q.1 = 4 → (S.2.1 2 q.1 = P.2 17 q.1 ∧ S.2.1 3 q.1 = P.2 18 q.1 ∧ S.2.1 511 q.1 = 1) ∧ (q.1 ∈ bl ∨ S.2.1 0 q.1 = M.2 15 q.1 + ox ∧ S.2.1 1 q.1 = M.2 16 q.1 + oy)) ∧ ∀ w ∈ VW, 60 + w ∈ bl ∨ S.2.1 0 (60 + w) = M.2 33 w + ox ∧ S.2.1 1 (60 + w) = M.2 34 w + oy
/-- all that is visited lies apart -/
def si_ds (P : md_S) (nn W : Nat) (T : List Nat) (l : List Nat) (wl : List (Nat × bt)) (bl : List Nat) (V : List (Nat × bt)) (VW : List Nat) : Prop := (∀ q ∈ V, ∀ x ∈ sub q, x ∈ T) ∧ (∀ q ∈ V, ∀ q' ∈ V, q = q' ∨ ∀ x ∈ sub q, x ∉ sub q') ∧ (∀ n ∈ l, ∃ k, (n, k) ∈ V ∧ ¬ f_isBox P (nI n) = 0) ∧ (∀ q ∈ wl, q ∈ V ∧ ¬ f_isBox P (nI q.1) = 0) ∧ (l ++ wl.map (·.1)).Nodup ∧ (∀ b ∈ bl, (∃ k, (b, k) ∈ V ∧ P.2 12 b = 4) ∨ ∃ w ∈ VW, b = 60 + w) ∧ bl.Nodup ∧ (∀ w ∈ VW, w < W ∧ ∃ q ∈ V, P.2 30 w = nI q.1 ∧ P.2 12 q.1 = 6) ∧ (∀ x ∈ T, x < nn) ∧ W ≤ 3700 ∧ nn ≤ 60
theorem isBox_m {P : md_S} {n : Nat} (hn : n < 60) : ¬ f_isBox P (nI n) = 0 ↔ P.2 12 n = 1 ∨ P.2 12 n = 2 := by
  unfold f_isBox
  rw [nI_clamp (by omega)]
  by_cases c1 : P.2 12 n = 1
  · simp [c1]
  · by_cases c2 : P.2 12 n = 2
    · simp [c2]
    · simp [c1, c2]
theorem si_ds.pw {P : md_S} {nn W : Nat} {T l : List Nat} {wl : List (Nat × bt)} {bl : List Nat} {V : List (Nat × bt)} {VW : List Nat} (h : si_ds P nn W T l wl bl V VW) : wl.Pairwise (fun q q' => ∀ x ∈ sub q, x ∉ sub q') := by
  obtain ⟨d1, d2, d3, d4, d5, _⟩ := h
  have hn : (wl.map (·.1)).Nodup := (List.nodup_append.mp d5).2.1
  rw [List.nodup_iff_pairwise_ne, List.pairwise_map] at hn
  refine List.Pairwise.imp_of_mem ?_ hn
  intro q q' hq hq' hne
  rcases d2 q (d4 q hq).1 q' (d4 q' hq').1 with e | e
  · exact absurd (congrArg Prod.fst e) hne
  · exact e
theorem si_ds.lw {P : md_S} {nn W : Nat} {T l : List Nat} {wl : List (Nat × bt)} {bl : List Nat} {V : List (Nat × bt)} {VW : List Nat} (h : si_ds P nn W T l wl bl V VW) : ∀ q ∈ wl, ∀ m ∈ l, m ∉ sub q := by
  obtain ⟨d1, d2, d3, d4, d5, _⟩ := h
  intro q hq m hm
  obtain ⟨k, hk, _⟩ := d3 m hm
  rcases d2 (m, k) hk q (d4 q hq).1 with e | e
  · have : m = q.1 := congrArg Prod.fst e
    exact absurd this ((List.nodup_append.mp d5).2.2 m hm q.1 (List.mem_map_of_mem hq))
  · exact e m (by simp)
/-- boxes on the line, and words that are placed, are no part of what a box holds -/
theorem si_ds.bl {P : md_S} {nn W : Nat} {T l : List Nat} {wl : List (Nat × bt)} {bl : List Nat} {V : List (Nat × bt)} {VW : List Nat} (h : si_ds P nn W T l wl bl V VW) {q : Nat × bt} (hq : q ∈ V) (hb : ¬ f_isBox P (nI q.1) = 0) : (∀ q' ∈ V, P.2 12 q'.1 = 4 → ¬ inT P W (sub q) q'.1) ∧ ∀ w ∈ VW, ¬ inT P W (sub q) (60 + w) := by
  obtain ⟨d1, d2, d3, d4, d5, d6, d7, d8, d9, d10, d11⟩ := h
  have hq60 : q.1 < 60 := by have := d9 _ (d1 q hq q.1 (by simp)); omega
  have hm := (isBox_m hq60).mp hb
  refine ⟨fun q' hq' h4 r => ?_, fun w hw r => ?_⟩
  · have hq'60 : q'.1 < 60 := by have := d9 _ (d1 q' hq' q'.1 (by simp)); omega
    rcases d2 q' hq' q hq with e | e
    · subst e
      rw [h4] at hm
      revert hm
      decide
    · rcases r with r | ⟨w, m, r1, _⟩
      · exact e q'.1 (by simp) r
      · omega
  · obtain ⟨hwW, q', hq', h30, h6⟩ := d8 w hw
    have hq'60 : q'.1 < 60 := by have := d9 _ (d1 q' hq' q'.1 (by simp)); omega
    rcases d2 q' hq' q hq with e | e
    · subst e
      rw [h6] at hm
      revert hm
      decide
    · rcases r with r | ⟨w', m, r1, r2, r3, r4⟩
      · have := d9 _ (d1 q hq _ r)
        omega
      · obtain rfl : w' = w := by omega
        have hm60 : m < 60 := by have := d9 _ (d1 q hq _ r3); omega
        have : m = q'.1 := (nI_eq (by omega) (by omega)).mp (r4.symm.trans h30)
        subst this
        exact e _ (by simp) r3
