/-! a new node in the class's state (by hand: wip/whole/gen/c56.py) -/
def nA (A : cl_A) (n L : Nat) : cl_A := fun f i => if i = n then (if f = 5 then L else if f = 22 then L + 1 else if f = 0 then L + 2 else A f i) else A f i
def nV (n : Nat) (k q e : Int32) (g : Nat) : Int32 := match g with
  | 500 => nI n
  | 501 => k
  | 502 => q
  | 503 => e
  | 504 => 0
  | 505 => -1
  | 506 => -1
  | 507 => -1
  | 508 => -1
  | 509 => 3
  | 510 => 0
  | 511 => 0
  | 512 => 0
  | 513 => 0
  | 514 => 0
  | 515 => -1
  | 0 => 0
  | 1 => 0
  | 2 => 0
  | 3 => 0
  | 4 => -1
  | _ => 0
def nH (k : Int32) (p : Nat) : Int32 := match p with
  | 0 => if k = 0 then 0 else 1
  | 2 => -1
  | 3 => -1
  | 8 => 1
  | _ => 0
def nC (C : Nat → Nat → Int32) (n : Nat) (k q e : Int32) (g i : Nat) : Int32 := if (500 ≤ g ∧ g ≤ 515 ∨ g ≤ 4) ∧ i = n then nV n k q e g else if g = 2200 ∧ 9 * n ≤ i ∧ i < 9 * n + 9 then nH k (i - 9 * n) else C g i
def nL (S : cl_S) (n : Nat) (f i : Nat) : Prop := if f = 5 ∨ f = 22 then i = n ∨ i < n ∧ S.1 f i else if f = 23 then i < n ∧ S.1 f i else if f = 0 then i = n ∨ (i < n ∨ 60 ≤ i) ∧ S.1 f i else S.1 f i
def nK (n i : Nat) : Bool := decide (¬ i = n)
def nS (A : cl_A) (S : cl_S) (n : Nat) (k q e : Int32) : cl_S := (nL S n, nC (cl_rc A (nK n) (nK n) S).2.1 n k q e, S.2.2.1 + 3, S.2.2.2 + 30)
def nT (L : Nat) (n : Nat) (k e : Int32) (pv : Value) : am_H := [.inl (5, [.int (nI n), .int k, pv, .int e, .ref (L + 1), .null, .null, .null, .retAddr 1, .int 3, .int 0, .int 0, .ref (L + 2), .int 0, .int 0, .null]), .inr (.int, [.int (if k = 0 then 0 else 1), .int 0, .int (-1), .int (-1), .int 0, .int 0, .int 0, .int 0, .int 1]), .inl (0, [.int 0, .int 0, .int 0, .int 0, .null])]
section NN
variable {K : Nat → Prop} {A : cl_A} {S : cl_S} {h : am_H} {n : Nat} {k q e : Int32}
theorem nA_ne {f i L : Nat} (hi : ¬ i = n) : nA A n L f i = A f i := by
  unfold nA
  rw [if_neg hi]
theorem nA_o {f L : Nat} (h5 : ¬ f = 5) (h22 : ¬ f = 22) (h0 : ¬ f = 0) : nA A n L f = A f := by
  funext i
  unfold nA
  by_cases c : i = n
  · rw [if_pos c, if_neg h5, if_neg h22, if_neg h0]
  · rw [if_neg c]
theorem nA_AC {L : Nat} (hn : n < 60) : AC A (nA A n L) (nK n) (nK n) := by
  refine ⟨fun i hi => nA_ne (by simpa [nK] using hi), fun a _ => nA_ne (by omega), fun i hi => nA_ne (by simpa [nK] using hi), fun a _ => nA_ne (by omega)⟩
theorem nA_GA {L : Nat} (hn : n < 60) (hL : L + 2 < 2000000) (hG : GA A) : GA (nA A n L) := by
  refine ⟨fun i => ?_, fun a ha => ?_⟩
  · by_cases c : i = n
    · subst c
      simp [nA]
      omega
    · rw [nA_ne c, nA_ne c]
      exact hG.1 i
  · rw [nA_ne (by omega), nA_ne (by omega)]
    exact hG.2 a ha
theorem nC_ne {C : Nat → Nat → Int32} {g i : Nat} (h1 : ¬ i = n ∨ ¬ (500 ≤ g ∧ g ≤ 515 ∨ g ≤ 4)) (h2 : ¬ (g = 2200 ∧ 9 * n ≤ i ∧ i < 9 * n + 9)) : nC C n k q e g i = C g i := by
  unfold nC
  rw [if_neg (by rintro ⟨a, b⟩; exact h1.elim (fun c => c b) (fun c => c a)), if_neg h2]
theorem nC_at {C : Nat → Nat → Int32} {g : Nat} (h1 : 500 ≤ g ∧ g ≤ 515 ∨ g ≤ 4) : nC C n k q e g n = nV n k q e g := by
  unfold nC
  rw [if_pos ⟨h1, rfl⟩]
theorem nC_has {C : Nat → Nat → Int32} {p : Nat} (hp : p < 9) : nC C n k q e 2200 (9 * n + p) = nH k p := by
  unfold nC
  rw [if_neg (by omega), if_pos (by omega), Nat.add_sub_cancel_left]
/-- old cells as they were -/
theorem nS_cell (hG : GA A) (hn : n < 60) {L f i : Nat} (hf : f ≤ 25) (h5 : f = 5 ∨ f = 22 ∨ f = 23 ∨ f = 0 → ¬ i = n) : cl_cell (nA A n L) (nS A S n k q e) f i = cl_cell A S f i := by
  have e1 : cl_cell (nA A n L) (nS A S n k q e) f i = cl_cell (nA A n L) (cl_rc A (nK n) (nK n) S) f i := by
    unfold cl_cell
    by_cases c : f < 20
    · rw [if_pos c, if_pos c]
      congr 2
      apply List.map_congr_left
      intro k' hk'
      have hk16 : k' < 16 := Nat.lt_of_lt_of_le (List.mem_range.mp hk') (cl_nf_le f)
      unfold cl_fv
      rw [show (nS A S n k q e).2.1 (100 * f + k') i = (cl_rc A (nK n) (nK n) S).2.1 (100 * f + k') i from nC_ne (by
        by_cases c5 : f = 5
        · exact Or.inl (h5 (Or.inl c5))
        · by_cases c0 : f = 0
          · exact Or.inl (h5 (Or.inr (Or.inr (Or.inr c0))))
          · exact Or.inr (by omega)) (by omega)]
    · rw [if_neg c, if_neg c]
      congr 1
      have eo : ∀ g, ¬ (500 ≤ g ∧ g ≤ 515 ∨ g ≤ 4) → ¬ g = 2200 → ∀ j, (nS A S n k q e).2.1 g j = (cl_rc A (nK n) (nK n) S).2.1 g j := fun g h1 h2 j => nC_ne (Or.inr h1) (fun q => h2 q.1)
      unfold cl_ar
      split
      · simp only [eo 2000 (by omega) (by omega)]
      · simp only [eo 2100 (by omega) (by omega)]
      · congr 1
        apply List.map_congr_left
        intro p hp
        have hp := List.mem_range.mp hp
        have hi := h5 (Or.inr (Or.inl rfl))
        have hx : (nS A S n k q e).2.1 2200 (9 * i + p) = (cl_rc A (nK n) (nK n) S).2.1 2200 (9 * i + p) := by
          show nC _ n k q e 2200 (9 * i + p) = _
          exact nC_ne (Or.inr (by omega)) (by omega)
        rw [hx]
      · simp only [eo 2300 (by omega) (by omega), eo 2301 (by omega) (by omega)]
      · rfl
      · simp only [eo 2500 (by omega) (by omega), eo 2501 (by omega) (by omega)]
  rw [e1]
  refine cell_rc hG (nA_AC hn) ?_ ?_ ?_
  · intro hf k' hk' v hv
    have hk16 : k' < 16 := Nat.lt_of_lt_of_le hk' (cl_nf_le f)
    have hcase : ∀ f ∈ List.range 20, ∀ k ∈ List.range 16, 2 ≤ (cl_ft f k).1 → (cl_ft f k).1 = 2 ∧ (f = 5 ∨ ¬ (cl_ft f k).2 = 5 ∧ ¬ (cl_ft f k).2 = 22 ∧ ¬ (cl_ft f k).2 = 0) ∨ (cl_ft f k).1 = 3 ∨ (cl_ft f k).1 = 4 ∨ (cl_ft f k).1 = 5 := by decide
    rcases hcase f (List.mem_range.mpr hf) k' (List.mem_range.mpr hk16) hv with ⟨c1, c2⟩ | c1 | c1 | c1
    · unfold cl_dv
      rw [c1]
      rcases c2 with c2 | ⟨c2, c3, c4⟩
      · show Value.ref _ = Value.ref _
        rw [nA_ne (h5 (Or.inl c2))]
      · show Value.ref _ = Value.ref _
        rw [nA_o c2 c3 c4]
    · unfold cl_dv
      rw [c1]
      show Value.ref _ = Value.ref _
      rw [nA_ne (by omega)]
    · unfold cl_dv
      rw [c1]
      show (if v = -1 then _ else Value.ref _) = _
      rw [nA_o (by decide) (by decide) (by decide)]
      rfl
    · unfold cl_dv
      rw [c1]
      show (if v = -1 then _ else Value.ref _) = _
      rw [nA_o (by decide) (by decide) (by decide)]
      rfl
  · intro _ p _
    rw [nA_o (by decide) (by decide) (by decide)]
  · intro _ p _
    unfold cl_rf
    rw [nA_o (by decide) (by decide) (by decide)]
theorem cl_rf_nA {L : Nat} (hq : q = -1 ∨ ¬ q.toNatClampNeg = n) : cl_rf (nA A n L) 5 q = cl_rf A 5 q := by
  unfold cl_rf
  split
  · rfl
  · rename_i c
    rw [nA_ne (hq.resolve_left c)]
theorem nS_new (hR : cl_R K A S h) (hK : ∀ a, K a → a < h.length) (hG : GA A) (hn : n < 60) (hfm : ∀ f i, S.1 f i → f ≤ 25) (hq : q = -1 ∨ ¬ q.toNatClampNeg = n) : cl_R K (nA A n h.length) (nS A S n k q e) (h ++ nT h.length n k e (cl_rf A 5 q)) ∧ cl_Fr K h (h ++ nT h.length n k e (cl_rf A 5 q)) := by
  have a5 : nA A n h.length 5 n = h.length := by simp [nA]
  have a22 : nA A n h.length 22 n = h.length + 1 := by simp [nA]
  have a0 : nA A n h.length 0 n = h.length + 2 := by simp [nA]
  have hg : ∀ j, (h ++ nT h.length n k e (cl_rf A 5 q))[h.length + j]? = (nT h.length n k e (cl_rf A 5 q))[j]? := fun j => by
    rw [List.getElem?_append_right (by omega)]
    simp
  have hlt : ∀ f i, S.1 f i → A f i < h.length := fun f i hs => (List.getElem?_eq_some_iff.mp (hR.1 f i hs).1).1
  -- what is new
  have hnew : ∀ f i, nL S n f i → ((f = 5 ∨ f = 22 ∨ f = 0) ∧ i = n) ∨ S.1 f i ∧ (f = 5 ∨ f = 22 ∨ f = 23 ∨ f = 0 → ¬ i = n) := by
    intro f i hl
    unfold nL at hl
    split at hl
    · rename_i c
      rcases hl with q | ⟨q1, q2⟩
      · exact Or.inl ⟨by rcases c with c | c <;> simp [c], q⟩
      · exact Or.inr ⟨q2, fun _ => by omega⟩
    · split at hl
      · exact Or.inr ⟨hl.2, fun _ => by omega⟩
      · split at hl
        · rename_i c
          rcases hl with q | ⟨q1, q2⟩
          · exact Or.inl ⟨by simp [c], q⟩
          · exact Or.inr ⟨q2, fun _ => by omega⟩
        · rename_i c1 c2 c3
          exact Or.inr ⟨hl, fun q => by omega⟩
  refine hR.grow hK (fun a ha => List.getElem?_append_left ha) (by simp) ?_ ?_ ?_ ?_
  · rw [List.length_append, hR.2.2.1]
    rfl
  · show am_sl _ = S.2.2.2 + 30
    rw [← hR.2.2.2]
    unfold am_sl
    rw [List.map_append, List.sum_append]
    rfl
  · intro f i hl
    rcases hnew f i hl with ⟨hf, rfl⟩ | ⟨h1, h2⟩
    · right
      rcases hf with rfl | rfl | rfl
      · rw [a5]
        refine ⟨Nat.le_refl _, (hg 0).trans ?_⟩
        show some (Sum.inl (5, _)) = some (Sum.inl (5, (List.range 16).map (fun k' => cl_dv (nA A i h.length) (cl_ft 5 k') i (nC _ i k q e (500 + k') i))))
        congr 3
        have hm : (List.range 16).map (fun k' => cl_dv (nA A i h.length) (cl_ft 5 k') i (nC (cl_rc A (nK i) (nK i) S).2.1 i k q e (500 + k') i)) = (List.range 16).map (fun k' => cl_dv (nA A i h.length) (cl_ft 5 k') i (nV i k q e (500 + k'))) := by
          apply List.map_congr_left
          intro k' hk'
          have := List.mem_range.mp hk'
          rw [nC_at (Or.inl (by omega))]
        rw [hm, show (List.range 16).map (fun k' => cl_dv (nA A i h.length) (cl_ft 5 k') i (nV i k q e (500 + k'))) = [.int (nI i), .int k, cl_rf (nA A i h.length) 5 q, .int e, .ref (nA A i h.length 22 i), .null, .null, .null, .retAddr 1, .int 3, .int 0, .int 0, .ref (nA A i h.length 0 i), .int 0, .int 0, .null] from rfl, a22, a0, cl_rf_nA hq]
      · rw [a22]
        refine ⟨Nat.le_add_right _ _, (hg 1).trans ?_⟩
        show some (Sum.inr (FieldType.int, _)) = some (Sum.inr (FieldType.int, (List.range 9).map (fun p => Value.int (nC _ i k q e 2200 (9 * i + p)))))
        congr 3
        have hm : (List.range 9).map (fun p => Value.int (nC (cl_rc A (nK i) (nK i) S).2.1 i k q e 2200 (9 * i + p))) = (List.range 9).map (fun p => Value.int (nH k p)) := by
          apply List.map_congr_left
          intro p hp
          rw [nC_has (List.mem_range.mp hp)]
        rw [hm]
        rfl
      · rw [a0]
        refine ⟨Nat.le_add_right _ _, (hg 2).trans ?_⟩
        show some (Sum.inl (0, _)) = some (Sum.inl (0, (List.range 5).map (fun k' => cl_dv (nA A i h.length) (cl_ft 0 k') i (nC _ i k q e (100 * 0 + k') i))))
        congr 3
        have hm : (List.range 5).map (fun k' => cl_dv (nA A i h.length) (cl_ft 0 k') i (nC (cl_rc A (nK i) (nK i) S).2.1 i k q e (100 * 0 + k') i)) = (List.range 5).map (fun k' => cl_dv (nA A i h.length) (cl_ft 0 k') i (nV i k q e k')) := by
          apply List.map_congr_left
          intro k' hk'
          have := List.mem_range.mp hk'
          rw [Nat.mul_zero, Nat.zero_add, nC_at (Or.inr (by omega))]
        rw [hm]
        rfl
    · left
      refine ⟨h1, ?_, nS_cell hG hn (hfm f i h1) h2⟩
      unfold nA
      by_cases c : i = n
      · rw [if_pos c, if_neg (fun x => h2 (by simp [x]) c), if_neg (fun x => h2 (by simp [x]) c), if_neg (fun x => h2 (by simp [x]) c)]
      · rw [if_neg c]
  · intro f i g j hf hg hge e
    have side : ∀ f i, nL S n f i → h.length ≤ nA A n h.length f i → (f = 5 ∨ f = 22 ∨ f = 0) ∧ i = n := fun f i hl hge => by
      rcases hnew f i hl with c | ⟨h1, h2⟩
      · exact c
      · exfalso
        have : nA A n h.length f i = A f i := by
          unfold nA
          by_cases c : i = n
          · rw [if_pos c, if_neg (fun x => h2 (by simp [x]) c), if_neg (fun x => h2 (by simp [x]) c), if_neg (fun x => h2 (by simp [x]) c)]
          · rw [if_neg c]
        rw [this] at hge
        have := hlt f i h1
        omega
    obtain ⟨f1, rfl⟩ := side f i hf hge
    obtain ⟨g1, rfl⟩ := side g j hg (by rw [← e]; exact hge)
    refine ⟨?_, rfl⟩
    rcases f1 with rfl | rfl | rfl <;> rcases g1 with rfl | rfl | rfl <;> first | rfl | (exfalso; rw [a5, a22] at e; omega) | (exfalso; rw [a22, a5] at e; omega) | (exfalso; rw [a5, a0] at e; omega) | (exfalso; rw [a0, a5] at e; omega) | (exfalso; rw [a22, a0] at e; omega) | (exfalso; rw [a0, a22] at e; omega)
end NN
