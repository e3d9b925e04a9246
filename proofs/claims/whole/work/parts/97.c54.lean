/-! constructors: Layout (by hand: wip/whole/gen/c54.py) -/
def flc (L j : Nat) : List am_E := [.inl (2, [.null, .int 0, .int 0, .int 0, .int 0, .int 0, .int 0, .null, .null, .ref (L + (3 * j + 4)), .ref (L + (3 * j + 5))]), .inl (1, [.int 0, .int 0, .null, .null, .int 0, .int 0]), .inl (4, [.null, .null, .int 0, .int 0, .int 0])]
def fcs (L i : Nat) : List am_E := (List.range i).flatMap (flc L)
def fla (L i : Nat) : List Value := (List.range 13).map (fun j => if j < i then Value.ref (L + (3 * j + 3)) else .null)
def lyt (L i : Nat) : am_H := [.inl (10, [.int 0, .retAddr 2, .int 0]), .inr (.object "LineFlow$Flow", fla L i), .inl (6, [.int 0, .int 0])] ++ fcs L i
def lyc (L : Nat) : am_E := .inl (3, [.ref (L + 0), .int 0, .ref (L + 1), .ref (L + 2)])
theorem fcs_succ (L i : Nat) : fcs L (i + 1) = fcs L i ++ flc L i := by
  unfold fcs
  rw [List.range_succ, List.flatMap_append]
  simp
theorem fcs_len (L i : Nat) : (fcs L i).length = 3 * i := by
  induction i with
  | zero => rfl
  | succ i ih => rw [fcs_succ, List.length_append, ih]; simp [flc]; omega
theorem lyt_len (L i : Nat) : (lyt L i).length = 3 * i + 3 := by
  unfold lyt
  rw [List.length_append, fcs_len]
  simp
  omega
theorem fla_set (L : Nat) {i : Nat} (hi : i < 13) : (fla L i).set i (.ref (L + (3 * i + 3))) = fla L (i + 1) := by
  apply List.ext_getElem?
  intro q
  unfold fla
  by_cases c : q = i
  · subst c
    rw [List.getElem?_set_self (by simpa using hi)]
    simp [hi]
  · rw [List.getElem?_set_ne (Ne.symm c), List.getElem?_map, List.getElem?_map]
    by_cases hq : q < 13
    · rw [List.getElem?_range hq]
      simp only [Option.map_some, Option.some.injEq]
      by_cases h1 : q < i
      · rw [if_pos h1, if_pos (by omega)]
      · rw [if_neg h1, if_neg (by omega)]
    · rw [List.getElem?_eq_none (by simp; omega)]
      rfl
theorem r1_loop {xs : List Int32} {d a : Nat} {H : am_H} {Q : Option Value → am_H → Prop} (ha : a < H.length) (hQ : Q none (XH H a (lyc H.length) (lyt H.length 13))) : ∀ r i, i + r = 13 → am_wp (am_Bx xs) am_nm (am_T (am_Bx xs) am_nm (d + 3)) Q I1 (37, [some (.ref a), some (.int (nI i))], [], XH H a (lyc H.length) (lyt H.length i)) := by
  have harr : ∀ i, am_arr (am_Bx xs) (XH H a (lyc H.length) (lyt H.length i)) (.ref (H.length + 1)) = some (.object "LineFlow$Flow", fla H.length i) := fun i => by
    have : (XH H a (lyc H.length) (lyt H.length i))[H.length + 1]? = some (.inr (.object "LineFlow$Flow", fla H.length i)) := XH_t.trans rfl
    unfold am_arr
    simp only [this]
  have hlen : ∀ i, (fla H.length i).length = 13 := fun i => by simp [fla]
  intro r
  induction r with
  | zero =>
    intro i hi
    have : i = 13 := by omega
    subst this
    refine ax_iload_n (dd D1_ok 18 rfl) rfl ?_
    refine ax_aload_n (dd D1_ok 19 rfl) rfl (by first | exact Or.inr (Or.inl ⟨_, rfl⟩) | exact Or.inl rfl | exact Or.inr (Or.inr ⟨_, rfl⟩) | assumption) ?_
    refine cx_get (dd D1_ok 20 rfl) pl3_20 ha rfl ?_
    refine ax_alen (dd D1_ok 21 rfl) (harr 13) (Or.inr (Or.inr (Or.inr ⟨_, by decide, rfl⟩))) ?_
    rw [hlen]
    refine ax_icmp_ge (tgt := 65) (dd D1_ok 22 rfl) (by decide) (fun _ => ?_) (fun c => absurd (by decide) c)
    exact ax_vret (dd D1_ok 32 rfl) rfl hQ
  | succ r ih =>
    intro i hi
    refine ax_iload_n (dd D1_ok 18 rfl) rfl ?_
    refine ax_aload_n (dd D1_ok 19 rfl) rfl (by first | exact Or.inr (Or.inl ⟨_, rfl⟩) | exact Or.inl rfl | exact Or.inr (Or.inr ⟨_, rfl⟩) | assumption) ?_
    refine cx_get (dd D1_ok 20 rfl) pl3_20 ha rfl ?_
    refine ax_alen (dd D1_ok 21 rfl) (harr i) (Or.inr (Or.inr (Or.inr ⟨_, by decide, rfl⟩))) ?_
    rw [hlen]
    refine ax_icmp_ge (tgt := 65) (dd D1_ok 22 rfl) (by decide) (fun c => absurd c (nI_ge (a := i) (b := 13) (by omega) (by omega))) (fun _ => ?_)
    refine ax_aload_n (dd D1_ok 23 rfl) rfl (by first | exact Or.inr (Or.inl ⟨_, rfl⟩) | exact Or.inl rfl | exact Or.inr (Or.inr ⟨_, rfl⟩) | assumption) ?_
    refine cx_get (dd D1_ok 24 rfl) pl3_20 ha rfl ?_
    refine ax_iload_n (dd D1_ok 25 rfl) rfl ?_
    refine cx_new (dd D1_ok 26 rfl) pl3_18 rfl rfl rfl (lyt_len _ i) rfl ?_
    refine ax_dup (dd D1_ok 27 rfl) ?_
    have hb : (lyt H.length i ++ [(Sum.inl (2, [.null, .int 0, .int 0, .int 0, .int 0, .int 0, .int 0, .null, .null, .null, .null]) : am_E)])[3 * i + 3]? = some (.inl (2, [.null, .int 0, .int 0, .int 0, .int 0, .int 0, .int 0, .null, .null, .null, .null])) := by
      rw [List.getElem?_append_right (by rw [lyt_len]; omega), lyt_len]
      simp
    refine ax_init (as := []) (dd D1_ok 28 rfl) pl3_31 (by simp) rfl (Nat.le_of_ble_eq_true rfl) rfl (r6 (XH_t.trans hb) _ ⟨rfl, ?_⟩)
    rw [XH_XH (by simp [lyt_len]), XH_len]
    have e1 : (lyt H.length i ++ [(Sum.inl (2, [.null, .int 0, .int 0, .int 0, .int 0, .int 0, .int 0, .null, .null, .null, .null]) : am_E)]).set (3 * i + 3) ((Sum.inl (2, [.null, .int 0, .int 0, .int 0, .int 0, .int 0, .int 0, .null, .null, .ref (H.length + (lyt H.length i ++ [(Sum.inl (2, [.null, .int 0, .int 0, .int 0, .int 0, .int 0, .int 0, .null, .null, .null, .null]) : am_E)]).length + 0), .ref (H.length + (lyt H.length i ++ [(Sum.inl (2, [.null, .int 0, .int 0, .int 0, .int 0, .int 0, .int 0, .null, .null, .null, .null]) : am_E)]).length + 1)]) : am_E)) ++ [.inl (1, [.int 0, .int 0, .null, .null, .int 0, .int 0]), .inl (4, [.null, .null, .int 0, .int 0, .int 0])] = lyt H.length i ++ flc H.length i := by
      rw [List.set_append_right _ _ (by rw [lyt_len]; omega), List.length_append, lyt_len]
      simp [flc, Nat.add_assoc]
    rw [e1]
    have e2 : (lyt H.length i ++ flc H.length i)[1]? = some (.inr (.object "LineFlow$Flow", fla H.length i)) := rfl
    have e3 : (lyt H.length i ++ flc H.length i)[3 * i + 3]? = (flc H.length i)[0]? := by
      rw [List.getElem?_append_right (by rw [lyt_len]; omega), lyt_len, Nat.sub_self]
    refine ax_aast (dd D1_ok 29 rfl) (XH_t.trans e2) ⟨rfl, "LineFlow$Flow", by decide, rfl, Or.inr ⟨_, 2, _, rfl, XH_t.trans (e3.trans rfl), Or.inl rfl⟩⟩ (nI_pos (by omega)) (by rw [nI_clamp (by omega), hlen]; omega) ?_
    rw [XH_st (by simp [lyt_len]; omega), nI_clamp (by omega), fla_set _ (by omega)]
    have e4 : (lyt H.length i ++ flc H.length i).set 1 (.inr (.object "LineFlow$Flow", fla H.length (i + 1))) = lyt H.length (i + 1) := by
      unfold lyt
      rw [fcs_succ]
      rfl
    rw [e4]
    refine ax_iinc (v := nI (i + 1)) (dd D1_ok 30 rfl) rfl (nI_1 i) ?_
    refine ax_goto (tgt := 37) (dd D1_ok 31 rfl) (by decide) ?_
    exact ih (i + 1) (by omega)
theorem r1 {xs : List Int32} {d a : Nat} {H : am_H} (h0 : H[a]? = some (.inl (3, [.null, .int 0, .null, .null]))) : ∀ Q : Option Value → am_H → Prop, Q none (XH H a (lyc H.length) (lyt H.length 13)) → am_T (am_Bx xs) am_nm (d + 4) 1 [.ref a] H Q := by
  intro Q hQ
  have ha : a < H.length := (List.getElem?_eq_some_iff.mp h0).1
  refine ax_intro (ms1 xs) (Nat.le_of_ble_eq_true rfl) ?_
  rw [← XH_0 h0]
  refine ax_aload_n (dd D1_ok 0 rfl) rfl (by first | exact Or.inr (Or.inl ⟨_, rfl⟩) | exact Or.inl rfl | exact Or.inr (Or.inr ⟨_, rfl⟩) | assumption) ?_
  refine ax_obj (dd D1_ok 1 rfl) pl3_3 (Nat.le_of_ble_eq_true rfl) ?_
  refine ax_aload_n (dd D1_ok 2 rfl) rfl (by first | exact Or.inr (Or.inl ⟨_, rfl⟩) | exact Or.inl rfl | exact Or.inr (Or.inr ⟨_, rfl⟩) | assumption) ?_
  refine cx_new (dd D1_ok 3 rfl) pl3_9 rfl rfl rfl rfl rfl ?_
  refine ax_dup (dd D1_ok 4 rfl) ?_
  refine ax_init (as := []) (dd D1_ok 5 rfl) pl3_11 (by simp) rfl (Nat.le_of_ble_eq_true rfl) rfl (r2 (XH_t (j := 0)) _ ⟨rfl, ?_⟩)
  rw [XH_XH (by decide)]
  refine cx_put (dd D1_ok 6 rfl) pl3_12 ha rfl rfl rfl rfl rfl (by first | exact fun q => absurd q (by decide) | exact fun _ => ⟨rfl, rfl⟩) ?_
  refine ax_aload_n (dd D1_ok 7 rfl) rfl (by first | exact Or.inr (Or.inl ⟨_, rfl⟩) | exact Or.inl rfl | exact Or.inr (Or.inr ⟨_, rfl⟩) | assumption) ?_
  refine ax_bipush (v := 13) (dd D1_ok 8 rfl) (by decide) ?_
  refine cx_anewarr (dd D1_ok 9 rfl) pl3_18 (by decide) (by decide) (by decide) rfl rfl ?_
  refine cx_put (dd D1_ok 10 rfl) pl3_20 ha rfl rfl rfl rfl rfl (by first | exact fun q => absurd q (by decide) | exact fun _ => ⟨rfl, rfl⟩) ?_
  refine ax_aload_n (dd D1_ok 11 rfl) rfl (by first | exact Or.inr (Or.inl ⟨_, rfl⟩) | exact Or.inl rfl | exact Or.inr (Or.inr ⟨_, rfl⟩) | assumption) ?_
  refine cx_new (dd D1_ok 12 rfl) pl3_24 rfl rfl rfl rfl rfl ?_
  refine ax_dup (dd D1_ok 13 rfl) ?_
  refine ax_init (as := []) (dd D1_ok 14 rfl) pl3_26 (by simp) rfl (Nat.le_of_ble_eq_true rfl) rfl (r5 _ ⟨rfl, ?_⟩)
  refine cx_put (dd D1_ok 15 rfl) pl3_27 ha rfl rfl rfl rfl rfl (by first | exact fun q => absurd q (by decide) | exact fun _ => ⟨rfl, rfl⟩) ?_
  refine ax_iconst (v := 0) (dd D1_ok 16 rfl) (by decide) ?_
  refine ax_istore_n (dd D1_ok 17 rfl) (Nat.le_of_ble_eq_true rfl) ?_
  exact r1_loop ha hQ 13 0 rfl
