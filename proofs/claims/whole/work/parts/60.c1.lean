/-! THE CLASS's STATE: addresses by family and index, what lives, all fields as codes, how many cells and slots (by hand: wip/whole/gen/c1.py) -/
abbrev cl_A : Type := Nat → Nat → Nat
abbrev cl_S : Type := (Nat → Nat → Prop) × (Nat → Nat → Int32) × Nat × Nat
/-- a reference of family g; -1 is null -/
def cl_rf (A : cl_A) (g : Nat) (v : Int32) : Value := if v = -1 then .null else .ref (A g v.toNatClampNeg)
/-- fields: 0 int, 1 reference of a family, 2 own part, 3 a word's box, 4 a node's bytes, 5 the list's elements -/
def cl_ft (c k : Nat) : Nat × Nat := match c, k with
  | 0, 4 => (1, 0)
  | 1, 2 => (1, 5)
  | 1, 3 => (1, 5)
  | 2, 0 => (1, 5)
  | 2, 7 => (1, 5)
  | 2, 8 => (1, 5)
  | 2, 9 => (2, 1)
  | 2, 10 => (2, 4)
  | 3, 0 => (2, 10)
  | 3, 2 => (2, 24)
  | 3, 3 => (2, 6)
  | 4, 0 => (1, 0)
  | 4, 1 => (1, 0)
  | 5, 2 => (1, 5)
  | 5, 4 => (2, 22)
  | 5, 5 => (1, 5)
  | 5, 6 => (1, 5)
  | 5, 7 => (1, 5)
  | 5, 8 => (4, 23)
  | 5, 12 => (2, 0)
  | 5, 15 => (1, 5)
  | 7, 3 => (3, 0)
  | 8, 0 => (2, 20)
  | 8, 2 => (2, 21)
  | 8, 4 => (2, 3)
  | 10, 1 => (5, 25)
  | _, _ => (0, 0)
def cl_dv (A : cl_A) (t : Nat × Nat) (i : Nat) (v : Int32) : Value := match t.1 with
  | 0 => .int v
  | 1 => cl_rf A t.2 v
  | 2 => .ref (A t.2 i)
  | 3 => .ref (A 0 (60 + i))
  | 4 => if v = -1 then .retAddr 1 else .ref (A 23 i)
  | _ => if v = -1 then .retAddr 2 else .ref (A 25 i)
def cl_fv (A : cl_A) (S : cl_S) (c k i : Nat) : Value := cl_dv A (cl_ft c k) i (S.2.1 (100 * c + k) i)
def cl_nf (c : Nat) : Nat := match c with
  | 0 => 5
  | 1 => 6
  | 2 => 11
  | 3 => 4
  | 4 => 5
  | 5 => 16
  | 6 => 2
  | 7 => 4
  | 8 => 5
  | 10 => 3
  | _ => 0
theorem cl_nf_le (c : Nat) : cl_nf c ≤ 16 := by
  unfold cl_nf
  split <;> omega
def cl_ar (A : cl_A) (S : cl_S) (f i : Nat) : FieldType × List Value := match f with
  | 20 => (.byte, (List.range 400).map (fun p => .int (S.2.1 2000 p)))
  | 21 => (.object "LineFlow$Node", (List.range 60).map (fun p => cl_rf A 5 (S.2.1 2100 p)))
  | 22 => (.int, (List.range 9).map (fun p => .int (S.2.1 2200 (9 * i + p))))
  | 23 => (.byte, (List.range (S.2.1 2301 i).toNatClampNeg).map (fun p => .int (S.2.1 2300 (120 * i + p))))
  | 24 => (.object "LineFlow$Flow", (List.range 13).map (fun p => .ref (A 2 p)))
  | _ => (.object "java/lang/Object", (List.range (S.2.1 2501 i).toNatClampNeg).map (fun p => cl_rf A 7 (S.2.1 2500 p)))
/-- what lies at the address of (f, i) -/
def cl_cell (A : cl_A) (S : cl_S) (f i : Nat) : (Nat × List Value) ⊕ (FieldType × List Value) := if f < 20 then .inl (f, (List.range (cl_nf f)).map (fun k => cl_fv A S f k i)) else .inr (cl_ar A S f i)
/-- the heap holds the state; K: addresses of others -/
def cl_R (K : Nat → Prop) (A : cl_A) (S : cl_S) (h : am_H) : Prop :=
  (∀ f i, S.1 f i → h[A f i]? = some (cl_cell A S f i) ∧ ¬ K (A f i)) ∧ (∀ f i g j, S.1 f i → S.1 g j → A f i = A g j → f = g ∧ i = j) ∧ h.length = S.2.2.1 ∧ am_sl h = S.2.2.2
/-- others' cells stay -/
def cl_Fr (K : Nat → Prop) (h h' : am_H) : Prop := h.length ≤ h'.length ∧ ∀ a, K a → h'[a]? = h[a]?
theorem cl_Fr.rf {K : Nat → Prop} {h : am_H} : cl_Fr K h h := ⟨Nat.le_refl _, fun _ _ => rfl⟩
theorem cl_Fr.tr {K : Nat → Prop} {h h1 h2 : am_H} (a : cl_Fr K h h1) (b : cl_Fr K h1 h2) : cl_Fr K h h2 := ⟨Nat.le_trans a.1 b.1, fun q x => (b.2 q x).trans (a.2 q x)⟩
def cl_up (S : cl_S) (g i : Nat) (v : Int32) : cl_S := (S.1, fun g' j => if g' = g ∧ j = i then v else S.2.1 g' j, S.2.2)
theorem cl_up_at (S : cl_S) (g i : Nat) (v : Int32) : (cl_up S g i v).2.1 g i = v := by simp [cl_up]
theorem cl_up_off (S : cl_S) {g i g' j : Nat} (v : Int32) (h : ¬ (g' = g ∧ j = i)) : (cl_up S g i v).2.1 g' j = S.2.1 g' j := by
  show (if g' = g ∧ j = i then v else _) = _
  rw [if_neg h]
/-- a field's change is seen in its own object alone -/
theorem cl_cell_up {A : cl_A} {S : cl_S} {c k i : Nat} {v : Int32} (hc : c < 20) (hk : k < 100) {f j : Nat} (h : ¬ (f = c ∧ j = i)) : cl_cell A (cl_up S (100 * c + k) i v) f j = cl_cell A S f j := by
  unfold cl_cell
  by_cases hf : f < 20
  · rw [if_pos hf, if_pos hf]
    congr 2
    apply List.map_congr_left
    intro k' hk'
    have hk16 : k' < 16 := Nat.lt_of_lt_of_le (List.mem_range.mp hk') (cl_nf_le f)
    unfold cl_fv
    rw [cl_up_off]
    rintro ⟨e1, e2⟩
    exact h ⟨by omega, e2⟩
  · rw [if_neg hf, if_neg hf]
    have e : ∀ g j, 2000 ≤ g → (cl_up S (100 * c + k) i v).2.1 g j = S.2.1 g j := fun g j hg => cl_up_off S v (by omega)
    congr 1
    unfold cl_ar
    split
    · simp only [e 2000 _ (by decide)]
    · simp only [e 2100 _ (by decide)]
    · simp only [e 2200 _ (by decide)]
    · simp only [e 2300 _ (by decide), e 2301 _ (by decide)]
    · rfl
    · simp only [e 2500 _ (by decide), e 2501 _ (by decide)]
theorem cl_R.put {K : Nat → Prop} {A : cl_A} {S : cl_S} {h : am_H} (hR : cl_R K A S h) {c k i : Nat} (hl : S.1 c i) (hc : c < 20) (hk : k < cl_nf c) (v : Int32) : cl_R K A (cl_up S (100 * c + k) i v) (am_put h (A c i) k (cl_dv A (cl_ft c k) i v)) ∧ cl_Fr K h (am_put h (A c i) k (cl_dv A (cl_ft c k) i v)) := by
  have hk16 : k < 16 := Nat.lt_of_lt_of_le hk (cl_nf_le c)
  have h0 := (hR.1 c i hl).1
  have hcell : cl_cell A S c i = .inl (c, (List.range (cl_nf c)).map (fun k => cl_fv A S c k i)) := by unfold cl_cell; rw [if_pos hc]
  rw [hcell] at h0
  have hlen : A c i < h.length := (List.getElem?_eq_some_iff.mp h0).1
  rw [am_put_eq h0]
  refine ⟨⟨fun f j hf => ⟨?_, (hR.1 f j hf).2⟩, hR.2.1, by rw [List.length_set]; exact hR.2.2.1, ?_⟩, by rw [List.length_set]; exact Nat.le_refl _, fun a ha => ?_⟩
  · by_cases e : f = c ∧ j = i
    · obtain ⟨rfl, rfl⟩ := e
      show (h.set (A f j) _)[A f j]? = _
      rw [List.getElem?_set_self hlen]
      unfold cl_cell
      rw [if_pos hc]
      congr 3
      apply List.ext_getElem?
      intro q
      by_cases hq : q = k
      · subst hq
        rw [List.getElem?_set_self (by simpa using hk)]
        simp [hk, cl_fv, cl_up_at]
      · rw [List.getElem?_set_ne (Ne.symm hq), List.getElem?_map, List.getElem?_map]
        by_cases hqn : q < cl_nf f
        · rw [List.getElem?_range hqn]
          simp only [Option.map_some, Option.some.injEq]
          unfold cl_fv
          rw [cl_up_off]
          omega
        · rw [List.getElem?_eq_none (by simp; omega)]
          rfl
    · show (h.set (A c i) _)[A f j]? = _
      rw [List.getElem?_set_ne (fun q => e (by
        have := hR.2.1 c i f j hl hf q
        exact ⟨this.1.symm, this.2.symm⟩)), cl_cell_up hc (by omega) e]
      exact (hR.1 f j hf).1
  · rw [am_sl_set h _ _ _ h0 (by simp [am_sz])]
    exact hR.2.2.2
  · exact List.getElem?_set_ne (fun q => (hR.1 c i hl).2 (by rw [q]; exact ha))
theorem cl_get {K : Nat → Prop} {A : cl_A} {S : cl_S} {h : am_H} (hR : cl_R K A S h) {c k i : Nat} (hl : S.1 c i) (hc : c < 20) (hk : k < cl_nf c) : am_get h c (A c i) k = some (cl_fv A S c k i) := by
  unfold am_get
  rw [(hR.1 c i hl).1]
  unfold cl_cell
  rw [if_pos hc]
  simp [hk]
