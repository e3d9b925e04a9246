/-! a new LineFlow, before its root is planted (by hand: wip/whole/gen/c55.py) -/
def gv (off i : Nat) : Nat := if off ≤ i ∧ i < off + 2000000 then i - off else 0
def A0 : cl_A := fun f i => match f with
  | 8 => 0
  | 20 => 1
  | 21 => 2
  | 3 => 3
  | 10 => 4
  | 24 => 5
  | 6 => 6
  | 2 => 7 + 3 * i
  | 1 => 8 + 3 * i
  | 4 => 9 + 3 * i
  | 5 => gv 100 i
  | 0 => gv 10000 i
  | _ => 0
def L0 (f i : Nat) : Prop := (f ∈ [8, 20, 21, 3, 10, 24, 6] ∧ i = 0) ∨ (f ∈ [2, 1, 4] ∧ i < 13)
def C0 (g _i : Nat) : Int32 := if g ∈ [4, 102, 103, 200, 207, 208, 400, 401, 502, 505, 506, 507, 508, 515, 1001, 2100, 2500] then -1 else 0
def T0 : am_H := [.inr (.byte, List.replicate 400 (.int 0)), .inr (.object "LineFlow$Node", List.replicate 60 .null), lyc 4] ++ lyt 4 13
def H0 : am_H := .inl (8, [.ref 1, .int 0, .ref 2, .int 0, .ref 3]) :: T0
def S0 : cl_S := (L0, C0, 46, am_sl H0)
theorem GA_0 : GA A0 := by
  refine ⟨fun i => ⟨?_, ?_⟩, fun a ha => ⟨?_, ?_⟩⟩
  · show gv 100 i < _
    unfold gv
    split <;> omega
  · show gv 10000 i < _
    unfold gv
    split <;> omega
  · show gv 100 (100 + a) = a
    unfold gv
    rw [if_pos (by omega)]
    omega
  · show gv 10000 (10000 + a) = a
    unfold gv
    rw [if_pos (by omega)]
    omega
theorem rep_map {n : Nat} {v : Value} {F : Nat → Value} (h : ∀ p, p < n → F p = v) : (List.range n).map F = List.replicate n v := by
  apply List.ext_getElem?
  intro q
  rw [List.getElem?_map]
  by_cases hq : q < n
  · rw [List.getElem?_range hq, List.getElem?_replicate, if_pos hq]
    simp [h q hq]
  · rw [List.getElem?_eq_none (by simp; omega), List.getElem?_eq_none (by simp; omega)]
    rfl
theorem R_0 : cl_R (fun _ => False) A0 S0 H0 := by
  refine ⟨fun f i hl => ⟨?_, fun q => q⟩, fun f i g j hf hg e => ?_, rfl, rfl⟩
  · rcases hl with ⟨hf, rfl⟩ | ⟨hf, hi⟩
    · simp only [List.mem_cons, List.not_mem_nil, or_false] at hf
      rcases hf with rfl | rfl | rfl | rfl | rfl | rfl | rfl
      · rfl
      · show some (Sum.inr (FieldType.byte, List.replicate 400 (Value.int 0))) = some (Sum.inr (FieldType.byte, (List.range 400).map (fun p => Value.int (C0 2000 p))))
        rw [rep_map (F := fun p => Value.int (C0 2000 p)) (v := .int 0) (fun p _ => rfl)]
      · show some (Sum.inr (FieldType.object "LineFlow$Node", List.replicate 60 Value.null)) = some (Sum.inr (FieldType.object "LineFlow$Node", (List.range 60).map (fun p => cl_rf A0 5 (C0 2100 p))))
        rw [rep_map (F := fun p => cl_rf A0 5 (C0 2100 p)) (v := .null) (fun p _ => rfl)]
      · rfl
      · rfl
      · rfl
      · rfl
    · simp only [List.mem_cons, List.not_mem_nil, or_false] at hf
      have hi' := List.mem_range.mpr hi
      rcases hf with rfl | rfl | rfl
      · have : ∀ i ∈ List.range 13, H0[A0 2 i]? = some (cl_cell A0 S0 2 i) := by
          intro i hi
          have hi := List.mem_range.mp hi
          match i, hi with
          | 0, _ => rfl
          | 1, _ => rfl
          | 2, _ => rfl
          | 3, _ => rfl
          | 4, _ => rfl
          | 5, _ => rfl
          | 6, _ => rfl
          | 7, _ => rfl
          | 8, _ => rfl
          | 9, _ => rfl
          | 10, _ => rfl
          | 11, _ => rfl
          | 12, _ => rfl
          | n + 13, h => omega
        exact this i hi'
      · have : ∀ i ∈ List.range 13, H0[A0 1 i]? = some (cl_cell A0 S0 1 i) := by
          intro i hi
          have hi := List.mem_range.mp hi
          match i, hi with
          | 0, _ => rfl
          | 1, _ => rfl
          | 2, _ => rfl
          | 3, _ => rfl
          | 4, _ => rfl
          | 5, _ => rfl
          | 6, _ => rfl
          | 7, _ => rfl
          | 8, _ => rfl
          | 9, _ => rfl
          | 10, _ => rfl
          | 11, _ => rfl
          | 12, _ => rfl
          | n + 13, h => omega
        exact this i hi'
      · have : ∀ i ∈ List.range 13, H0[A0 4 i]? = some (cl_cell A0 S0 4 i) := by
          intro i hi
          have hi := List.mem_range.mp hi
          match i, hi with
          | 0, _ => rfl
          | 1, _ => rfl
          | 2, _ => rfl
          | 3, _ => rfl
          | 4, _ => rfl
          | 5, _ => rfl
          | 6, _ => rfl
          | 7, _ => rfl
          | 8, _ => rfl
          | 9, _ => rfl
          | 10, _ => rfl
          | 11, _ => rfl
          | 12, _ => rfl
          | n + 13, h => omega
        exact this i hi'
  · unfold A0 at e
    simp only [S0, L0, List.mem_cons, List.not_mem_nil, or_false] at hf hg
    rcases hf with ⟨hf, rfl⟩ | ⟨hf, hi⟩ <;> rcases hg with ⟨hg, rfl⟩ | ⟨hg, hj⟩
    · rcases hf with rfl | rfl | rfl | rfl | rfl | rfl | rfl <;> rcases hg with rfl | rfl | rfl | rfl | rfl | rfl | rfl <;> first | exact ⟨rfl, rfl⟩ | (exfalso; simp at e)
    · rcases hf with rfl | rfl | rfl | rfl | rfl | rfl | rfl <;> rcases hg with rfl | rfl | rfl <;> (exfalso; simp at e; try omega)
    · rcases hf with rfl | rfl | rfl <;> rcases hg with rfl | rfl | rfl | rfl | rfl | rfl | rfl <;> (exfalso; simp at e; try omega)
    · rcases hf with rfl | rfl | rfl <;> rcases hg with rfl | rfl | rfl <;> first | exact ⟨rfl, by simp at e; omega⟩ | (exfalso; simp at e; omega)
theorem z_0 : cl_z S0 := by
  refine ⟨?_, ?_, ?_, ?_, ?_, ?_, ?_⟩ <;> exact Or.inl ⟨by decide, rfl⟩
theorem f_0 : ∀ f, f < 13 → cl_f S0 (nI f) := by
  intro f hf
  refine ⟨vp_nI hf (by decide), ?_, ?_, ?_⟩ <;> (rw [nI_clamp (by omega)]; exact Or.inr ⟨by decide, hf⟩)
theorem r0 {xs : List Int32} {d : Nat} {Q : Option Value → am_H → Prop} (k : am_T (am_Bx xs) am_nm (d + 4) 9 [.ref 0] H0 (fun v h => v = none ∧ Q none h)) : am_T (am_Bx xs) am_nm (d + 5) 0 [.ref 0] [.inl (8, [.null, .int 0, .null, .int 0, .null])] Q := by
  have h0 : ([.inl (8, [.null, .int 0, .null, .int 0, .null])] : am_H)[0]? = some (.inl (8, [.null, .int 0, .null, .int 0, .null])) := rfl
  have ha : 0 < ([.inl (8, [.null, .int 0, .null, .int 0, .null])] : am_H).length := by decide
  refine ax_intro (ms0 xs) (Nat.le_of_ble_eq_true rfl) ?_
  rw [← XH_0 h0]
  refine ax_aload_n (dd D0_ok 0 rfl) rfl (by first | exact Or.inr (Or.inl ⟨_, rfl⟩) | exact Or.inl rfl | exact Or.inr (Or.inr ⟨_, rfl⟩) | assumption) ?_
  refine ax_obj (dd D0_ok 1 rfl) pl8_1 (Nat.le_of_ble_eq_true rfl) ?_
  refine ax_aload_n (dd D0_ok 2 rfl) rfl (by first | exact Or.inr (Or.inl ⟨_, rfl⟩) | exact Or.inl rfl | exact Or.inr (Or.inr ⟨_, rfl⟩) | assumption) ?_
  refine ax_sipush (v := 400) (dd D0_ok 3 rfl) (by decide) ?_
  refine cx_newarr (dd D0_ok 4 rfl) rfl (by first | exact Or.inl rfl | exact Or.inr (Or.inl rfl) | exact Or.inr (Or.inr rfl)) (by decide) (by decide) rfl rfl ?_
  refine cx_put (dd D0_ok 5 rfl) pl8_9 ha rfl rfl rfl rfl rfl (by first | exact fun q => absurd q (by decide) | exact fun _ => ⟨rfl, rfl⟩) ?_
  refine ax_aload_n (dd D0_ok 6 rfl) rfl (by first | exact Or.inr (Or.inl ⟨_, rfl⟩) | exact Or.inl rfl | exact Or.inr (Or.inr ⟨_, rfl⟩) | assumption) ?_
  refine ax_bipush (v := 60) (dd D0_ok 7 rfl) (by decide) ?_
  refine cx_anewarr (dd D0_ok 8 rfl) pl8_13 (by decide) (by decide) (by decide) rfl rfl ?_
  refine cx_put (dd D0_ok 9 rfl) pl8_15 ha rfl rfl rfl rfl rfl (by first | exact fun q => absurd q (by decide) | exact fun _ => ⟨rfl, rfl⟩) ?_
  refine ax_aload_n (dd D0_ok 10 rfl) rfl (by first | exact Or.inr (Or.inl ⟨_, rfl⟩) | exact Or.inl rfl | exact Or.inr (Or.inr ⟨_, rfl⟩) | assumption) ?_
  refine cx_new (dd D0_ok 11 rfl) pl8_19 rfl rfl rfl rfl rfl ?_
  refine ax_dup (dd D0_ok 12 rfl) ?_
  refine ax_init (as := []) (dd D0_ok 13 rfl) pl8_21 (by simp) rfl (Nat.le_of_ble_eq_true rfl) rfl (r1 (XH_t (j := 2)) _ ⟨rfl, ?_⟩)
  rw [XH_XH (by decide)]
  refine cx_put (dd D0_ok 14 rfl) pl8_22 ha rfl rfl rfl rfl rfl (by first | exact fun q => absurd q (by decide) | exact fun _ => ⟨rfl, rfl⟩) ?_
  refine ax_aload_n (dd D0_ok 15 rfl) rfl (by first | exact Or.inr (Or.inl ⟨_, rfl⟩) | exact Or.inl rfl | exact Or.inr (Or.inr ⟨_, rfl⟩) | assumption) ?_
  refine ax_callv (as := []) (rest := []) (dd D0_ok 16 rfl) pl8_26 rfl (Nat.le_of_ble_eq_true rfl) rfl (ms9 xs) (XH_a ha) (am_T_mono ?_ k)
  rintro v h ⟨rfl, hq⟩
  exact ax_vret (dd D0_ok 17 rfl) rfl hq
