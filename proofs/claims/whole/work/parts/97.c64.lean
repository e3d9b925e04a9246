/-! the list of words: ArrayList.add over the heap itself (by hand: wip/whole/gen/c64.py) -/
theorem r41 {xs : List Int32} {H : am_H} {d : Nat} {x y z r : Int32} (hr : x + (if y < z then z else y) = r) (h0 : 0 < r) (h1 : ¬ 2147483639 < r) : ∀ Q : Option Value → am_H → Prop, Q (some (.int r)) H → am_T (am_Bx xs) am_nm (d + 1) 41 [.int x, .int y, .int z] H Q := by
  intro Q hQ
  refine ax_intro (ms41 xs) (Nat.le_of_ble_eq_true rfl) ?_
  refine ax_iload_n (dd D41_ok 0 rfl) rfl ?_
  refine ax_iload_n (dd D41_ok 1 rfl) rfl ?_
  refine ax_iload_n (dd D41_ok 2 rfl) rfl ?_
  refine ax_max (dd D41_ok 3 rfl) pl15_194 (Nat.le_of_ble_eq_true rfl) ?_
  refine ax_iadd (dd D41_ok 4 rfl) ?_
  rw [hr]
  refine ax_istore_n (dd D41_ok 5 rfl) (Nat.le_of_ble_eq_true rfl) ?_
  refine ax_iconst (v := 0) (dd D41_ok 6 rfl) (by decide) ?_
  refine ax_iload_n (dd D41_ok 7 rfl) rfl ?_
  refine ax_icmp_ge (tgt := 21) (dd D41_ok 8 rfl) (by decide) (fun c => absurd h0 (Int32.not_lt.mpr c)) (fun _ => ?_)
  refine ax_iload_n (dd D41_ok 9 rfl) rfl ?_
  refine ax_ldcI (dd D41_ok 10 rfl) pl15_200 ?_
  refine ax_icmp_gt (tgt := 21) (dd D41_ok 11 rfl) (by decide) (fun c => absurd c h1) (fun _ => ?_)
  refine ax_iload_n (dd D41_ok 12 rfl) rfl ?_
  exact ax_iret (dd D41_ok 13 rfl) rfl hQ
theorem cpy_n {vs : List Value} {c : Nat} (hl : vs.length ≤ c) : am_cpy vs (List.replicate c .null) 0 0 vs.length = (List.range c).map (fun j => vs.getD j .null) := by
  unfold am_cpy
  rw [List.length_replicate]
  apply List.map_congr_left
  intro j hj
  have := List.mem_range.mp hj
  unfold va_cpy
  by_cases q : 0 ≤ j ∧ j < 0 + vs.length
  · rw [if_pos q]
    simp
  · rw [if_neg q]
    have : vs.length ≤ j := by omega
    simp [List.getD_eq_getElem?_getD, List.getElem?_eq_none this, List.getElem?_replicate]
    split <;> rfl
def ob_ok (H : am_H) (vs : List Value) : Prop := ∀ v ∈ vs, v = .null ∨ ∃ q fs, v = .ref q ∧ H[q]? = some (.inl (7, fs))
theorem r44 {xs : List Int32} {H : am_H} {d : Nat} {b c : Nat} {vs : List Value} (h0 : H[b]? = some (.inr (FieldType.object "java/lang/Object", vs))) (hc : vs.length ≤ c) (hc2 : c ≤ 100000) (hv : ob_ok H vs) : ∀ Q : Option Value → am_H → Prop, Q (some (.ref H.length)) (H ++ [.inr (FieldType.object "java/lang/Object", (List.range c).map (fun j => vs.getD j .null))]) → am_T (am_Bx xs) am_nm (d + 1) 44 [.ref b, .int (nI c), .retAddr 3] H Q := by
  intro Q hQ
  have hb : b < H.length := (List.getElem?_eq_some_iff.mp h0).1
  have cn : (nI c).toNatClampNeg = c := nI_clamp (by omega)
  have h1 : (H ++ [(Sum.inr (FieldType.object (am_nm 20), List.replicate (nI c).toNatClampNeg Value.null) : am_E)])[b]? = some (.inr (FieldType.object "java/lang/Object", vs)) := by
    rw [List.getElem?_append_left hb]
    exact h0
  have h2 : (H ++ [(Sum.inr (FieldType.object (am_nm 20), List.replicate (nI c).toNatClampNeg Value.null) : am_E)])[H.length]? = some (.inr (FieldType.object "java/lang/Object", List.replicate (nI c).toNatClampNeg Value.null)) := by
    rw [List.getElem?_append_right (Nat.le_refl _), Nat.sub_self]
    rfl
  have harr1 : am_arr (am_Bx xs) (H ++ [(Sum.inr (FieldType.object (am_nm 20), List.replicate (nI c).toNatClampNeg Value.null) : am_E)]) (.ref b) = some (FieldType.object "java/lang/Object", vs) := by
    unfold am_arr
    simp only [h1]
  have hv1 : ∀ v ∈ vs, v = .null ∨ ∃ q fs, v = .ref q ∧ (H ++ [(Sum.inr (FieldType.object (am_nm 20), List.replicate (nI c).toNatClampNeg Value.null) : am_E)])[q]? = some (.inl (7, fs)) := fun v hm => by
    rcases hv v hm with e | ⟨q, fs, e1, e2⟩
    · exact Or.inl e
    · exact Or.inr ⟨q, fs, e1, by rw [List.getElem?_append_left (List.getElem?_eq_some_iff.mp e2).1]; exact e2⟩
  refine ax_intro (ms44 xs) (Nat.le_of_ble_eq_true rfl) ?_
  refine ax_aload_n (dd D44_ok 0 rfl) rfl (Or.inr (Or.inr ⟨_, rfl⟩)) ?_
  refine ax_ldcC (dd D44_ok 1 rfl) pl13_110 ?_
  refine ax_acmp_ne (tgt := 13) (dd D44_ok 2 rfl) ⟨Or.inr (Or.inr ⟨_, rfl⟩), Or.inr (Or.inr ⟨_, rfl⟩), Or.inl rfl⟩ (by decide) (fun c => absurd rfl c) (fun _ => ?_)
  refine ax_iload_n (dd D44_ok 3 rfl) rfl ?_
  refine ax_anewarr (dd D44_ok 4 rfl) pl13_2 (by decide) (nI_pos (by omega)) (by rw [cn]; omega) ?_
  refine ax_goto (tgt := 24) (dd D44_ok 5 rfl) (by decide) ?_
  refine ax_astore_n (dd D44_ok 11 rfl) (Nat.le_of_ble_eq_true rfl) (Or.inr (Or.inl ⟨_, rfl⟩)) ?_
  refine ax_aload_n (dd D44_ok 12 rfl) rfl (Or.inr (Or.inl ⟨_, rfl⟩)) ?_
  refine ax_iconst (v := 0) (dd D44_ok 13 rfl) (by decide) ?_
  refine ax_aload_n (dd D44_ok 14 rfl) rfl (Or.inr (Or.inl ⟨_, rfl⟩)) ?_
  refine ax_iconst (v := 0) (dd D44_ok 15 rfl) (by decide) ?_
  refine ax_aload_n (dd D44_ok 16 rfl) rfl (Or.inr (Or.inl ⟨_, rfl⟩)) ?_
  refine ax_alen (dd D44_ok 17 rfl) harr1 (Or.inr (Or.inr (Or.inr ⟨_, by decide, rfl⟩))) ?_
  refine ax_iload_n (dd D44_ok 18 rfl) rfl ?_
  refine ax_min (dd D44_ok 19 rfl) pl13_304 (Nat.le_of_ble_eq_true rfl) ?_
  have hmin : (if nI c < Int32.ofNat vs.length then nI c else Int32.ofNat vs.length) = nI vs.length := by
    rw [if_neg]
    · rfl
    · refine Int32.not_lt.mpr ?_
      exact (nI_leI (a := vs.length) (b := c) (by omega) (by omega)).mpr hc
  rw [hmin]
  have cl : (nI vs.length).toNatClampNeg = vs.length := nI_clamp (by omega)
  refine ax_copy (dd D44_ok 20 rfl) pl13_150 (Nat.le_of_ble_eq_true rfl) h1 h2 (Or.inr ⟨rfl, hv1⟩) (by decide) (by decide) (nI_pos (by omega)) ?_ ?_ ?_
  · rw [cl]
    show 0 + vs.length ≤ _
    omega
  · rw [cl, List.length_replicate, cn]
    show 0 + vs.length ≤ c
    omega
  · refine ax_aload_n (dd D44_ok 21 rfl) rfl (Or.inr (Or.inl ⟨_, rfl⟩)) ?_
    refine ax_aret (dd D44_ok 22 rfl) rfl (Or.inr (Or.inl ⟨_, rfl⟩)) ?_
    rw [cn, cl]
    show Q (some (.ref H.length)) (List.set _ H.length (.inr (FieldType.object "java/lang/Object", am_cpy vs (List.replicate c .null) 0 0 vs.length)))
    rw [cpy_n hc, List.set_append_right _ _ (Nat.le_refl _), Nat.sub_self]
    exact hQ
theorem r43 {xs : List Int32} {H : am_H} {d : Nat} {b c : Nat} {vs : List Value} (h0 : H[b]? = some (.inr (FieldType.object "java/lang/Object", vs))) (hc : vs.length ≤ c) (hc2 : c ≤ 100000) (hv : ob_ok H vs) : ∀ Q : Option Value → am_H → Prop, Q (some (.ref H.length)) (H ++ [.inr (FieldType.object "java/lang/Object", (List.range c).map (fun j => vs.getD j .null))]) → am_T (am_Bx xs) am_nm (d + 2) 43 [.ref b, .int (nI c)] H Q := by
  intro Q hQ
  refine ax_intro (ms43 xs) (Nat.le_of_ble_eq_true rfl) ?_
  refine ax_aload_n (dd D43_ok 0 rfl) rfl (Or.inr (Or.inl ⟨_, rfl⟩)) ?_
  refine ax_iload_n (dd D43_ok 1 rfl) rfl ?_
  refine ax_aload_n (dd D43_ok 2 rfl) rfl (Or.inr (Or.inl ⟨_, rfl⟩)) ?_
  refine ax_getc (dd D43_ok 3 rfl) pl13_86 (Nat.le_of_ble_eq_true rfl) h0 ?_
  refine ax_calls (as := [.ref b, .int (nI c), .retAddr 3]) (rest := []) (dd D43_ok 4 rfl) pl13_300 rfl (Nat.le_of_ble_eq_true rfl) rfl (r44 h0 hc hc2 hv _ ?_)
  exact ax_aret (dd D43_ok 5 rfl) rfl (Or.inr (Or.inl ⟨_, rfl⟩)) hQ
/-- how far a full list grows -/
def gl (N : Nat) : Nat := if N = 0 then 10 else N + max 1 (N / 2)
theorem gl_gt (N : Nat) : N < gl N ∧ gl N ≤ 2 * N + 10 := by
  unfold gl
  split
  · omega
  · refine ⟨by omega, ?_⟩
    have : max 1 (N / 2) ≤ N + 1 := by omega
    omega
theorem sh1 {N : Nat} (hN : N < 100000) : (nI N) >>> ((1 : Int32) &&& 31) = nI (N / 2) := by
  apply Int32.toInt_inj.mp
  rw [nI_toInt (by omega), show ((1 : Int32) &&& 31) = 1 by decide]
  show ((nI N >>> 1).toBitVec).toInt = _
  rw [Int32.toBitVec_shiftRight, show ((1 : Int32).toBitVec.smod 32) = 1#32 by decide]
  show ((nI N).toBitVec.sshiftRight 1).toInt = _
  rw [BitVec.toInt_sshiftRight]
  show (nI N).toInt >>> 1 = _
  rw [nI_toInt (by omega), Int.shiftRight_eq_div_pow]
  simp
theorem gl_eq {N : Nat} (h0 : ¬ N = 0) (hN : N < 5000) : nI N + (if (nI N + 1) - nI N < (nI N) >>> ((1 : Int32) &&& 31) then (nI N) >>> ((1 : Int32) &&& 31) else (nI N + 1) - nI N) = nI (gl N) := by
  have e1 : (nI N + 1) - nI N = nI 1 := by
    rw [Int32.add_comm, Int32.add_sub_cancel]
    rfl
  rw [sh1 (by omega), e1]
  unfold gl
  rw [if_neg h0]
  by_cases c : 1 < N / 2
  · rw [if_pos (Int32.not_le.mp (nI_ge (a := 1) (b := N / 2) c (by omega))), nI_add, Nat.max_eq_right (by omega)]
  · rw [if_neg (fun q => by
      rw [Int32.lt_iff_toInt_lt, nI_toInt (by omega), nI_toInt (by omega)] at q
      omega), nI_add, Nat.max_eq_left (by omega)]
theorem r40 {xs : List Int32} {H : am_H} {d : Nat} {l N : Nat} {m : Int32} {ed : Value} {vs : List Value} (h0 : H[l]? = some (Sum.inl (10, [Value.int m, ed, Value.int (nI N)]) : am_E)) (ha : am_arr (am_Bx xs) H ed = some (FieldType.object "java/lang/Object", vs)) (hN : vs.length = N) (hN2 : N < 5000) (he : (∃ b, ed = .ref b) ∧ ¬ N = 0 ∨ ed = .retAddr 2 ∧ N = 0) (hv : ob_ok H vs) : ∀ Q : Option Value → am_H → Prop, Q (some (.ref H.length)) ((H ++ [(Sum.inr (FieldType.object "java/lang/Object", (List.range (gl N)).map (fun j => vs.getD j .null)) : am_E)]).set l (Sum.inl (10, [Value.int m, (.ref H.length), Value.int (nI N)]) : am_E)) → am_T (am_Bx xs) am_nm (d + 3) 40 [.ref l, .int (nI N + 1)] H Q := by
  intro Q hQ
  have hl : l < H.length := (List.getElem?_eq_some_iff.mp h0).1
  have h1 : (H ++ [(Sum.inr (FieldType.object "java/lang/Object", (List.range (gl N)).map (fun j => vs.getD j .null)) : am_E)])[l]? = some (Sum.inl (10, [Value.int m, ed, Value.int (nI N)]) : am_E) := by
    rw [List.getElem?_append_left hl]
    exact h0
  have hs : (Sum.inl (10, [Value.int m, ed, Value.int (nI N)]) : am_E) = .inl (10, [.int m, ed, .int (nI N)]) := rfl
  have isr : am_isR ed := by
    rcases he with ⟨⟨b, e⟩, _⟩ | ⟨e, _⟩
    · exact Or.inr (Or.inl ⟨b, e⟩)
    · exact Or.inr (Or.inr ⟨2, e⟩)
  refine ax_intro (ms40 xs) (Nat.le_of_ble_eq_true rfl) ?_
  refine ax_aload_n (dd D40_ok 0 rfl) rfl (Or.inr (Or.inl ⟨_, rfl⟩)) ?_
  refine ax_getf (dd D40_ok 1 rfl) pl10_9 (Or.inl rfl) (am_get_of h0 rfl) ?_
  refine ax_alen (dd D40_ok 2 rfl) ha (Or.inr (Or.inr (Or.inr ⟨_, by decide, rfl⟩))) ?_
  rw [hN, show Int32.ofNat N = nI N from rfl]
  refine ax_istore_n (dd D40_ok 3 rfl) (Nat.le_of_ble_eq_true rfl) ?_
  refine ax_iload_n (dd D40_ok 4 rfl) rfl ?_
  rcases he with ⟨⟨b, rfl⟩, hN0⟩ | ⟨rfl, hN0⟩
  · have hb : H[b]? = some (.inr (FieldType.object "java/lang/Object", vs)) := by
      unfold am_arr at ha
      cases hc : H[b]? with
      | none => simp [hc] at ha
      | some e =>
        cases e with
        | inl y => simp [hc] at ha
        | inr y => simp only [hc] at ha; rw [Option.some.inj ha]
    refine ax_if_gt (tgt := 20) (dd D40_ok 5 rfl) (by decide) (fun _ => ?_) (fun c => ?_)
    · refine ax_iload_n (dd D40_ok 10 rfl) rfl ?_
      refine ax_iload_n (dd D40_ok 11 rfl) rfl ?_
      refine ax_iload_n (dd D40_ok 12 rfl) rfl ?_
      refine ax_isub (dd D40_ok 13 rfl) ?_
      refine ax_iload_n (dd D40_ok 14 rfl) rfl ?_
      refine ax_iconst (v := 1) (dd D40_ok 15 rfl) (by decide) ?_
      refine ax_ishr (dd D40_ok 16 rfl) ?_
      have hg := gl_gt N
      refine ax_calls (as := [.int (nI N), .int ((nI N + 1) - nI N), .int ((nI N) >>> ((1 : Int32) &&& 31))]) (rest := []) (dd D40_ok 17 rfl) pl10_73 rfl (Nat.le_of_ble_eq_true rfl) rfl (r41 (gl_eq hN0 hN2) ?_ ?_ _ ?_)
      · exact Int32.not_le.mp (nI_ge (a := 0) (b := gl N) (by omega) (by omega))
      · intro q
        rw [Int32.lt_iff_toInt_lt, nI_toInt (by omega), show (2147483639 : Int32).toInt = 2147483639 by decide] at q
        omega
      · refine ax_istore_n (dd D40_ok 18 rfl) (Nat.le_of_ble_eq_true rfl) ?_
        refine ax_aload_n (dd D40_ok 19 rfl) rfl (Or.inr (Or.inl ⟨_, rfl⟩)) ?_
        refine ax_aload_n (dd D40_ok 20 rfl) rfl (Or.inr (Or.inl ⟨_, rfl⟩)) ?_
        refine ax_getf (dd D40_ok 21 rfl) pl10_9 (Or.inl rfl) (am_get_of h0 rfl) ?_
        refine ax_iload_n (dd D40_ok 22 rfl) rfl ?_
        refine ax_calls (as := [.ref b, .int (nI (gl N))]) (rest := [.ref l]) (dd D40_ok 23 rfl) pl10_66 rfl (Nat.le_of_ble_eq_true rfl) rfl (r43 hb (by omega) (by omega) hv _ ?_)
        refine ax_dup_x1 (dd D40_ok 24 rfl) ?_
        refine ax_pf (dd D40_ok 25 rfl) pl10_9 h1 rfl rfl rfl rfl rfl (fun q => absurd q (by decide)) ?_
        exact ax_aret (dd D40_ok 26 rfl) rfl (Or.inr (Or.inl ⟨_, rfl⟩)) hQ
    · exact absurd (Int32.not_le.mp (nI_ge (a := 0) (b := N) (by omega) (by omega))) c
  · subst hN0
    have hvs : vs = [] := List.length_eq_zero_iff.mp hN
    subst hvs
    refine ax_if_gt (tgt := 20) (dd D40_ok 5 rfl) (by decide) (fun c => absurd c (by decide)) (fun _ => ?_)
    refine ax_aload_n (dd D40_ok 6 rfl) rfl (Or.inr (Or.inl ⟨_, rfl⟩)) ?_
    refine ax_getf (dd D40_ok 7 rfl) pl10_9 (Or.inl rfl) (am_get_of h0 rfl) ?_
    refine ax_gets (dd D40_ok 8 rfl) pl10_39 ?_
    refine ax_acmp_eq (tgt := 45) (dd D40_ok 9 rfl) ⟨Or.inr (Or.inr ⟨_, rfl⟩), Or.inr (Or.inr ⟨_, rfl⟩), Or.inl rfl⟩ (by decide) (fun _ => ?_) (fun c => absurd rfl c)
    refine ax_aload_n (dd D40_ok 27 rfl) rfl (Or.inr (Or.inl ⟨_, rfl⟩)) ?_
    refine ax_bipush (v := 10) (dd D40_ok 28 rfl) (by decide) ?_
    refine ax_iload_n (dd D40_ok 29 rfl) rfl ?_
    refine ax_max (dd D40_ok 30 rfl) pl10_79 (Nat.le_of_ble_eq_true rfl) ?_
    rw [show (if (10 : Int32) < nI 0 + 1 then nI 0 + 1 else 10) = 10 by decide]
    refine ax_anewarr (dd D40_ok 31 rfl) pl10_7 (by decide) (by decide) (by decide) ?_
    refine ax_dup_x1 (dd D40_ok 32 rfl) ?_
    refine ax_pf (dd D40_ok 33 rfl) pl10_9 h1 rfl rfl rfl rfl rfl (fun q => absurd q (by decide)) ?_
    exact ax_aret (dd D40_ok 34 rfl) rfl (Or.inr (Or.inl ⟨_, rfl⟩)) hQ
