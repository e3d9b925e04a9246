/-! a new word in the class's state (by hand: wip/whole/gen/c66.py) -/
def wA (A : cl_A) (Wp L aL : Nat) : cl_A := fun f i => if f = 7 ∧ i = Wp then L else if f = 0 ∧ i = 60 + Wp then L + 1 else if f = 25 ∧ i = 0 then aL else A f i
def wK (Wp i : Nat) : Bool := decide (¬ i = 60 + Wp)
def wC (C : Nat → Nat → Int32) (Wp : Nat) (cc : Int32) (g i : Nat) : Int32 := if (700 ≤ g ∧ g ≤ 703) ∧ i = Wp then 0 else if g ≤ 4 ∧ i = 60 + Wp then (if g = 4 then -1 else 0) else if g = 1000 ∧ i = 0 then C 1000 0 + 1 else if g = 1001 ∧ i = 0 then 0 else if g = 1002 ∧ i = 0 then nI (Wp + 1) else if g = 2501 ∧ i = 0 then cc else if g = 2500 ∧ i = Wp then nI Wp else C g i
def wL (S : cl_S) (Wp f i : Nat) : Prop := S.1 f i ∨ (f = 7 ∧ i = Wp) ∨ (f = 0 ∧ i = 60 + Wp) ∨ (f = 25 ∧ i = 0)
def wS (A : cl_A) (S : cl_S) (Wp : Nat) (cc : Int32) (dc ds : Nat) : cl_S := (wL S Wp, wC (cl_rc A (fun _ => true) (wK Wp) S).2.1 Wp cc, S.2.2.1 + dc, S.2.2.2 + ds)
section WW
variable {K : Nat → Prop} {A : cl_A} {S : cl_S} {h h' : am_H} {Wp L aL dc ds : Nat} {cc : Int32}
theorem wA_o {f : Nat} (h7 : ¬ f = 7) (h0 : ¬ f = 0) (h25 : ¬ f = 25) : wA A Wp L aL f = A f := by
  funext i
  unfold wA
  rw [if_neg (fun q => h7 q.1), if_neg (fun q => h0 q.1), if_neg (fun q => h25 q.1)]
theorem wA_ne {f i : Nat} (h7 : ¬ (f = 7 ∧ i = Wp)) (h0 : ¬ (f = 0 ∧ i = 60 + Wp)) (h25 : ¬ (f = 25 ∧ i = 0)) : wA A Wp L aL f i = A f i := by
  unfold wA
  rw [if_neg h7, if_neg h0, if_neg h25]
theorem wA_7 : wA A Wp L aL 7 Wp = L := if_pos ⟨rfl, rfl⟩
theorem wA_0 : wA A Wp L aL 0 (60 + Wp) = L + 1 := by
  unfold wA
  rw [if_neg (fun q => absurd q.1 (by decide)), if_pos ⟨rfl, rfl⟩]
theorem wA_25 : wA A Wp L aL 25 0 = aL := by
  unfold wA
  rw [if_neg (fun q => absurd q.1 (by decide)), if_neg (fun q => absurd q.1 (by decide)), if_pos ⟨rfl, rfl⟩]
theorem wA_AC (hW : Wp < 3700) : AC A (wA A Wp L aL) (fun _ => true) (wK Wp) := by
  refine ⟨fun i _ => by rw [wA_o (by decide) (by decide) (by decide)], fun a _ => by rw [wA_o (by decide) (by decide) (by decide)], fun i hi => ?_, fun a _ => ?_⟩
  · have : ¬ i = 60 + Wp := by simpa [wK] using hi
    exact wA_ne (fun q => absurd q.1 (by decide)) (fun q => this q.2) (fun q => absurd q.1 (by decide))
  · exact wA_ne (fun q => absurd q.1 (by decide)) (fun q => by omega) (fun q => absurd q.1 (by decide))
theorem wA_GA (hW : Wp < 3700) (hL : L + 2 < 2000000) (hG : GA A) : GA (wA A Wp L aL) := by
  refine ⟨fun i => ⟨?_, ?_⟩, fun a ha => ⟨?_, ?_⟩⟩
  · rw [wA_o (by decide) (by decide) (by decide)]
    exact (hG.1 i).1
  · by_cases c : i = 60 + Wp
    · rw [c, wA_0]
      omega
    · rw [wA_ne (fun q => absurd q.1 (by decide)) (fun q => c q.2) (fun q => absurd q.1 (by decide))]
      exact (hG.1 i).2
  · rw [wA_o (by decide) (by decide) (by decide)]
    exact (hG.2 a ha).1
  · rw [wA_ne (fun q => absurd q.1 (by decide)) (fun q => by omega) (fun q => absurd q.1 (by decide))]
    exact (hG.2 a ha).2
theorem rcv_id {g off : Nat} {v : Int32} : rcv A g off (fun _ => true) v = v := by
  unfold rcv
  by_cases c : v = -1
  · rw [if_pos c, c]
  · rw [if_neg c, if_pos rfl]
/-- codes that a new word leaves -/
theorem wC_o {C : Nat → Nat → Int32} {g i : Nat} (h7 : ¬ ((700 ≤ g ∧ g ≤ 703) ∧ i = Wp)) (h0 : ¬ (g ≤ 4 ∧ i = 60 + Wp)) (h10 : ¬ ((1000 ≤ g ∧ g ≤ 1002) ∧ i = 0)) (h25 : ¬ (g = 2501 ∧ i = 0)) (h26 : ¬ (g = 2500 ∧ i = Wp)) : wC C Wp cc g i = C g i := by
  unfold wC
  rw [if_neg h7, if_neg h0, if_neg (by omega), if_neg (by omega), if_neg (by omega), if_neg h25, if_neg h26]
theorem wS_N {g : Nat} (hg : g ∉ XBf) (i : Nat) : (cl_rc A (fun _ => true) (wK Wp) S).2.1 g i = S.2.1 g i := by
  by_cases c : g ∈ XNf
  · rw [rc_N c, rcv_id]
  · rw [rc_O c hg]
/-- old cells as they were -/
theorem wS_cell (hG : GA A) (hW : Wp < 3700) {f i : Nat} (hf : f ≤ 25) (h7 : ¬ (f = 7 ∧ i = Wp)) (h0 : ¬ (f = 0 ∧ i = 60 + Wp)) (h10 : ¬ (f = 10 ∧ i = 0)) (h25 : ¬ f = 25) (h5 : f = 5 → i < 60) : cl_cell (wA A Wp L aL) (wS A S Wp cc dc ds) f i = cl_cell A S f i := by
  have e1 : cl_cell (wA A Wp L aL) (wS A S Wp cc dc ds) f i = cl_cell (wA A Wp L aL) (cl_rc A (fun _ => true) (wK Wp) S) f i := by
    unfold cl_cell
    by_cases c : f < 20
    · rw [if_pos c, if_pos c]
      congr 2
      apply List.map_congr_left
      intro k' hk'
      have hk16 : k' < 16 := Nat.lt_of_lt_of_le (List.mem_range.mp hk') (cl_nf_le f)
      unfold cl_fv
      have hx : (wS A S Wp cc dc ds).2.1 (100 * f + k') i = (cl_rc A (fun _ => true) (wK Wp) S).2.1 (100 * f + k') i := by
        show wC _ Wp cc (100 * f + k') i = _
        exact wC_o (fun q => h7 ⟨by omega, q.2⟩) (fun q => h0 ⟨by omega, q.2⟩) (fun q => h10 ⟨by omega, q.2⟩) (by omega) (by omega)
      rw [hx]
    · rw [if_neg c, if_neg c]
      congr 1
      have eo : ∀ g, 1002 < g → ¬ g = 2501 → ¬ g = 2500 → ∀ j, (wS A S Wp cc dc ds).2.1 g j = (cl_rc A (fun _ => true) (wK Wp) S).2.1 g j := fun g h1 h2 h3 j => by
        show wC _ Wp cc g j = _
        exact wC_o (by omega) (by omega) (by omega) (by omega) (by omega)
      unfold cl_ar
      split
      · simp only [eo 2000 (by omega) (by omega) (by omega)]
      · simp only [eo 2100 (by omega) (by omega) (by omega)]
      · simp only [eo 2200 (by omega) (by omega) (by omega)]
      · simp only [eo 2300 (by omega) (by omega) (by omega), eo 2301 (by omega) (by omega) (by omega)]
      · rfl
      · exfalso
        rename_i q20 q21 q22 q23 q24
        have r20 : ¬ f = 20 := q20
        have r21 : ¬ f = 21 := q21
        have r22 : ¬ f = 22 := q22
        have r23 : ¬ f = 23 := q23
        have r24 : ¬ f = 24 := q24
        omega
  rw [e1]
  refine cell_rc hG (wA_AC hW) ?_ ?_ ?_
  · intro hf k' hk' v hv
    have hk16 : k' < 16 := Nat.lt_of_lt_of_le hk' (cl_nf_le f)
    have hcase : ∀ f ∈ List.range 20, ∀ k ∈ List.range 16, 2 ≤ (cl_ft f k).1 → (cl_ft f k).1 = 2 ∧ (f = 5 ∧ (cl_ft f k).2 = 0 ∨ ¬ (cl_ft f k).2 = 7 ∧ ¬ (cl_ft f k).2 = 25 ∧ ¬ (cl_ft f k).2 = 0) ∨ (cl_ft f k).1 = 3 ∧ f = 7 ∨ (cl_ft f k).1 = 4 ∨ (cl_ft f k).1 = 5 ∧ f = 10 := by decide
    rcases hcase f (List.mem_range.mpr hf) k' (List.mem_range.mpr hk16) hv with ⟨c1, c2⟩ | ⟨c1, c2⟩ | c1 | ⟨c1, c2⟩
    · unfold cl_dv
      rw [c1]
      show Value.ref _ = Value.ref _
      rcases c2 with ⟨c2, c3⟩ | ⟨c2, c3, c4⟩
      · have := h5 c2
        rw [c3, wA_ne (fun q => absurd q.1 (by decide)) (fun q => by omega) (fun q => absurd q.1 (by decide))]
      · rw [wA_o c2 c4 c3]
    · unfold cl_dv
      rw [c1]
      show Value.ref _ = Value.ref _
      rw [wA_ne (fun q => absurd q.1 (by decide)) (fun q => h7 ⟨c2, by omega⟩) (fun q => absurd q.1 (by decide))]
    · unfold cl_dv
      rw [c1]
      show (if v = -1 then _ else Value.ref _) = _
      rw [wA_o (by decide) (by decide) (by decide)]
      rfl
    · unfold cl_dv
      rw [c1]
      show (if v = -1 then _ else Value.ref _) = _
      rw [wA_ne (fun q => absurd q.1 (by decide)) (fun q => absurd q.1 (by decide)) (fun q => h10 ⟨c2, q.2⟩)]
      rfl
  · intro _ p _
    rw [wA_o (by decide) (by decide) (by decide)]
  · intro q p _
    omega
theorem wS_R (hR : cl_R K A S h) (hK : ∀ a, K a → a < h.length) (hG : GA A) (hW : Wp < 3700) (hL : h.length = L) (hfm : ∀ f i, S.1 f i → f ≤ 25) (h25 : ∀ j, S.1 25 j → j = 0) (h5 : ∀ i, S.1 5 i → i < 60) (h7 : ∀ w, S.1 7 w → w < Wp) (h0 : ∀ b, S.1 0 b → b < 60 + Wp) (hl10 : S.1 10 0) (haL : S.1 25 0 ∧ aL = A 25 0 ∨ aL = L + 2)
    (x1 : h'[A 10 0]? = some (.inl (10, [.int (S.2.1 1000 0 + 1), .ref aL, .int (nI (Wp + 1))]))) (x2 : h'[L]? = some (.inl (7, [.int 0, .int 0, .int 0, .ref (L + 1)]))) (x3 : h'[L + 1]? = some (.inl (0, [.int 0, .int 0, .int 0, .int 0, .null]))) (x4 : h'[aL]? = some (.inr (FieldType.object "java/lang/Object", (List.range cc.toNatClampNeg).map (fun p => if p < Wp then .ref (A 7 p) else if p = Wp then .ref L else .null)))) (x5 : ∀ a, a < h.length → ¬ a = A 10 0 → ¬ a = aL → h'[a]? = h[a]?) (x6 : h'.length = S.2.2.1 + dc) (x7 : am_sl h' = S.2.2.2 + ds) (hle : h.length ≤ h'.length) (he : ∀ p, p < Wp → S.2.1 2500 p = nI p) (he2 : ∀ p, Wp ≤ p → S.2.1 2500 p = -1) : cl_R K (wA A Wp L aL) (wS A S Wp cc dc ds) h' ∧ cl_Fr K h h' := by
  have hlt : ∀ f j, S.1 f j → A f j < h.length := fun f j hs => (List.getElem?_eq_some_iff.mp (hR.1 f j hs).1).1
  have n7 : ¬ S.1 7 Wp := fun q => by have := h7 _ q; omega
  have n0 : ¬ S.1 0 (60 + Wp) := fun q => by have := h0 _ q; omega
  have hnew : ∀ f i, wL S Wp f i → (f = 7 ∧ i = Wp) ∨ (f = 0 ∧ i = 60 + Wp) ∨ (f = 25 ∧ i = 0) ∨ S.1 f i ∧ ¬ (f = 7 ∧ i = Wp) ∧ ¬ (f = 0 ∧ i = 60 + Wp) ∧ ¬ f = 25 := by
    intro f i hl
    rcases hl with hl | hl | hl | hl
    · by_cases c : f = 25
      · subst c
        exact Or.inr (Or.inr (Or.inl ⟨rfl, h25 i hl⟩))
      · exact Or.inr (Or.inr (Or.inr ⟨hl, fun q => n7 (by rw [← q.1, ← q.2]; exact hl), fun q => n0 (by rw [← q.1, ← q.2]; exact hl), c⟩))
    · exact Or.inl hl
    · exact Or.inr (Or.inl hl)
    · exact Or.inr (Or.inr (Or.inl hl))
  have haK : ¬ K aL := by
    rcases haL with ⟨q1, q2⟩ | q
    · rw [q2]
      exact (hR.1 25 0 q1).2
    · intro c
      have := hK _ c
      omega
  have hao : ∀ f i, S.1 f i → ¬ f = 25 → ¬ A f i = aL := by
    intro f i hs hf e
    rcases haL with ⟨q1, q2⟩ | q
    · exact hf (hR.2.1 f i 25 0 hs q1 (e.trans q2)).1
    · have := hlt f i hs
      omega
  refine ⟨⟨fun f i hl => ?_, fun f i g j hf hg e => ?_, x6, x7⟩, hle, fun a ha => x5 a (hK a ha) (fun q => (hR.1 10 0 hl10).2 (q ▸ ha)) (fun q => haK (q ▸ ha))⟩
  · rcases hnew f i hl with ⟨rfl, rfl⟩ | ⟨rfl, rfl⟩ | ⟨rfl, rfl⟩ | ⟨hs, c7, c0, c25⟩
    · rw [wA_7]
      refine ⟨x2.trans ?_, fun q => by have := hK _ q; omega⟩
      show _ = some (Sum.inl (7, (List.range 4).map (fun k => cl_dv (wA A i L aL) (cl_ft 7 k) i (wC _ i cc (700 + k) i))))
      have hm : (List.range 4).map (fun k => cl_dv (wA A i L aL) (cl_ft 7 k) i (wC (cl_rc A (fun _ => true) (wK i) S).2.1 i cc (700 + k) i)) = (List.range 4).map (fun k => cl_dv (wA A i L aL) (cl_ft 7 k) i 0) := by
        apply List.map_congr_left
        intro k hk
        have := List.mem_range.mp hk
        unfold wC
        rw [if_pos (by omega)]
      rw [hm, show (List.range 4).map (fun k => cl_dv (wA A i L aL) (cl_ft 7 k) i 0) = [.int 0, .int 0, .int 0, .ref (wA A i L aL 0 (60 + i))] from rfl, wA_0]
    · rw [wA_0]
      refine ⟨x3.trans ?_, fun q => by have := hK _ q; omega⟩
      show _ = some (Sum.inl (0, (List.range 5).map (fun k => cl_dv (wA A Wp L aL) (cl_ft 0 k) (60 + Wp) (wC _ Wp cc (100 * 0 + k) (60 + Wp)))))
      have hm : (List.range 5).map (fun k => cl_dv (wA A Wp L aL) (cl_ft 0 k) (60 + Wp) (wC (cl_rc A (fun _ => true) (wK Wp) S).2.1 Wp cc (100 * 0 + k) (60 + Wp))) = (List.range 5).map (fun k => cl_dv (wA A Wp L aL) (cl_ft 0 k) (60 + Wp) (if k = 4 then -1 else 0)) := by
        apply List.map_congr_left
        intro k hk
        have := List.mem_range.mp hk
        rw [Nat.mul_zero, Nat.zero_add]
        unfold wC
        rw [if_neg (by omega), if_pos (by omega)]
      rw [hm]
      rfl
    · rw [wA_25]
      refine ⟨x4.trans ?_, haK⟩
      show _ = some (Sum.inr (FieldType.object "java/lang/Object", (List.range ((wS A S Wp cc dc ds).2.1 2501 0).toNatClampNeg).map (fun p => cl_rf (wA A Wp L aL) 7 ((wS A S Wp cc dc ds).2.1 2500 p))))
      have e1 : (wS A S Wp cc dc ds).2.1 2501 0 = cc := by
        show wC (cl_rc A (fun _ => true) (wK Wp) S).2.1 Wp cc 2501 0 = cc
        unfold wC
        rw [if_neg (by omega), if_neg (by omega), if_neg (by omega), if_neg (by omega), if_neg (by omega), if_pos ⟨rfl, rfl⟩]
      rw [e1]
      congr 3
      apply List.map_congr_left
      intro p hp
      by_cases cp : p = Wp
      · rw [cp, if_neg (by omega), if_pos rfl]
        have e2 : (wS A S Wp cc dc ds).2.1 2500 Wp = nI Wp := by
          show wC (cl_rc A (fun _ => true) (wK Wp) S).2.1 Wp cc 2500 Wp = _
          unfold wC
          rw [if_neg (by omega), if_neg (by omega), if_neg (by omega), if_neg (by omega), if_neg (by omega), if_neg (by omega), if_pos ⟨rfl, rfl⟩]
        rw [e2]
        unfold cl_rf
        rw [if_neg (nI_ne_m1 (by omega)), nI_clamp (by omega), wA_7]
      · have e2 : (wS A S Wp cc dc ds).2.1 2500 p = S.2.1 2500 p := by
          show wC (cl_rc A (fun _ => true) (wK Wp) S).2.1 Wp cc 2500 p = _
          rw [wC_o (by omega) (by omega) (by omega) (by omega) (by omega), wS_N (by decide)]
        rw [e2]
        by_cases cp2 : p < Wp
        · rw [if_pos cp2, he p cp2]
          unfold cl_rf
          rw [if_neg (nI_ne_m1 (by omega)), nI_clamp (by omega), wA_ne (fun q => cp q.2) (fun q => absurd q.1 (by decide)) (fun q => absurd q.1 (by decide))]
        · rw [if_neg cp2, if_neg cp, he2 p (by omega)]
          rfl
    · have ea : wA A Wp L aL f i = A f i := wA_ne c7 c0 (fun q => c25 q.1)
      rw [ea]
      refine ⟨?_, (hR.1 f i hs).2⟩
      by_cases c10 : f = 10 ∧ i = 0
      · obtain ⟨rfl, rfl⟩ := c10
        rw [x1]
        show _ = some (Sum.inl (10, (List.range 3).map (fun k => cl_dv (wA A Wp L aL) (cl_ft 10 k) 0 (wC _ Wp cc (1000 + k) 0))))
        have e0 : wC (cl_rc A (fun _ => true) (wK Wp) S).2.1 Wp cc 1000 0 = S.2.1 1000 0 + 1 := by
          unfold wC
          rw [if_neg (by omega), if_neg (by omega), if_pos ⟨rfl, rfl⟩, wS_N (by decide)]
        have e1 : wC (cl_rc A (fun _ => true) (wK Wp) S).2.1 Wp cc 1001 0 = 0 := by
          unfold wC
          rw [if_neg (by omega), if_neg (by omega), if_neg (by omega), if_pos ⟨rfl, rfl⟩]
        have e2 : wC (cl_rc A (fun _ => true) (wK Wp) S).2.1 Wp cc 1002 0 = nI (Wp + 1) := by
          unfold wC
          rw [if_neg (by omega), if_neg (by omega), if_neg (by omega), if_neg (by omega), if_pos ⟨rfl, rfl⟩]
        rw [show (List.range 3).map (fun k => cl_dv (wA A Wp L aL) (cl_ft 10 k) 0 (wC (cl_rc A (fun _ => true) (wK Wp) S).2.1 Wp cc (1000 + k) 0)) = [.int (wC (cl_rc A (fun _ => true) (wK Wp) S).2.1 Wp cc 1000 0), (if wC (cl_rc A (fun _ => true) (wK Wp) S).2.1 Wp cc 1001 0 = -1 then Value.retAddr 2 else .ref (wA A Wp L aL 25 0)), .int (wC (cl_rc A (fun _ => true) (wK Wp) S).2.1 Wp cc 1002 0)] from rfl, e0, e1, e2, if_neg (by decide), wA_25]
      · rw [wS_cell hG hW (hfm f i hs) c7 c0 c10 c25 (fun q => h5 i (q ▸ hs)), x5 _ (hlt f i hs) (fun q => c10 (hR.2.1 f i 10 0 hs hl10 q)) (hao f i hs c25)]
        exact (hR.1 f i hs).1
  · -- addresses apart
    have cls : ∀ f i, wL S Wp f i → ((f = 7 ∧ i = Wp) ∧ wA A Wp L aL f i = L) ∨ ((f = 0 ∧ i = 60 + Wp) ∧ wA A Wp L aL f i = L + 1) ∨ ((f = 25 ∧ i = 0) ∧ wA A Wp L aL f i = aL) ∨ (S.1 f i ∧ ¬ f = 25 ∧ wA A Wp L aL f i = A f i ∧ A f i < L ∧ ¬ A f i = aL) := by
      intro f i hl
      rcases hnew f i hl with ⟨rfl, rfl⟩ | ⟨rfl, rfl⟩ | ⟨rfl, rfl⟩ | ⟨hs, c7, c0, c25⟩
      · exact Or.inl ⟨⟨rfl, rfl⟩, wA_7⟩
      · exact Or.inr (Or.inl ⟨⟨rfl, rfl⟩, wA_0⟩)
      · exact Or.inr (Or.inr (Or.inl ⟨⟨rfl, rfl⟩, wA_25⟩))
      · exact Or.inr (Or.inr (Or.inr ⟨hs, c25, wA_ne c7 c0 (fun q => c25 q.1), by have := hlt f i hs; omega, hao f i hs c25⟩))
    have haL' : aL < L ∨ aL = L + 2 := by
      rcases haL with ⟨q1, q2⟩ | q
      · left
        have := hlt 25 0 q1
        omega
      · exact Or.inr q
    rcases cls f i hf with ⟨⟨rfl, rfl⟩, a1⟩ | ⟨⟨rfl, rfl⟩, a1⟩ | ⟨⟨rfl, rfl⟩, a1⟩ | ⟨s1, n1, a1, b1, d1⟩ <;> rcases cls g j hg with ⟨⟨rfl, rfl⟩, a2⟩ | ⟨⟨rfl, rfl⟩, a2⟩ | ⟨⟨rfl, rfl⟩, a2⟩ | ⟨s2, n2, a2, b2, d2⟩ <;> first | exact ⟨rfl, rfl⟩ | (exfalso; rw [a1, a2] at e; omega) | (rw [a1, a2] at e; exact hR.2.1 f i g j s1 s2 e)
end WW
