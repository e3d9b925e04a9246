/-! the list of words: ArrayList.add over the heap itself (by hand: wip/whole/gen/c65.py) -/
theorem nset {H : am_H} {l : Nat} {c c0 : am_E} (h0 : H[l]? = some c0) : (H.set l c)[l]? = some c := List.getElem?_set_self (List.getElem?_eq_some_iff.mp h0).1
theorem oset {H : am_H} {l a : Nat} {c c0 e : am_E} (h0 : H[l]? = some c0) (h1 : H[a]? = some e) (hne : ¬ e = c0) : (H.set l c)[a]? = some e := by
  rw [List.getElem?_set_ne (fun q => hne (by
    subst q
    rw [h0] at h1
    exact (Option.some.inj h1).symm))]
  exact h1
theorem r39 {xs : List Int32} {H : am_H} {d : Nat} {l N : Nat} {m : Int32} {ed : Value} {vs : List Value} (h0 : H[l]? = some (Sum.inl (10, [Value.int m, ed, Value.int (nI N)]) : am_E)) (ha : am_arr (am_Bx xs) H ed = some (FieldType.object "java/lang/Object", vs)) (hN : vs.length = N) (hN2 : N < 5000) (he : (∃ b, ed = .ref b) ∧ ¬ N = 0 ∨ ed = .retAddr 2 ∧ N = 0) (hv : ob_ok H vs) : ∀ Q : Option Value → am_H → Prop, Q (some (.ref H.length)) ((H ++ [(Sum.inr (FieldType.object "java/lang/Object", (List.range (gl N)).map (fun j => vs.getD j .null)) : am_E)]).set l (Sum.inl (10, [Value.int m, (.ref H.length), Value.int (nI N)]) : am_E)) → am_T (am_Bx xs) am_nm (d + 4) 39 [.ref l] H Q := by
  intro Q hQ
  refine ax_intro (ms39 xs) (Nat.le_of_ble_eq_true rfl) ?_
  refine ax_aload_n (dd D39_ok 0 rfl) rfl (Or.inr (Or.inl ⟨_, rfl⟩)) ?_
  refine ax_aload_n (dd D39_ok 1 rfl) rfl (Or.inr (Or.inl ⟨_, rfl⟩)) ?_
  refine ax_getf (dd D39_ok 2 rfl) pl10_48 (Or.inl rfl) (am_get_of h0 rfl) ?_
  refine ax_iconst (v := 1) (dd D39_ok 3 rfl) (by decide) ?_
  refine ax_iadd (dd D39_ok 4 rfl) ?_
  refine ax_callv (as := [.int (nI N + 1)]) (rest := []) (dd D39_ok 5 rfl) pl10_69 rfl (Nat.le_of_ble_eq_true rfl) rfl (ms40 xs) h0 (r40 h0 ha hN hN2 he hv _ ?_)
  exact ax_aret (dd D39_ok 6 rfl) rfl (Or.inr (Or.inl ⟨_, rfl⟩)) hQ
theorem into_w {H : am_H} {q : Nat} {fs : List Value} (hq : H[q]? = some (.inl (7, fs))) : am_into am_nm H (FieldType.object "java/lang/Object") (.ref q) (.ref q) := ⟨rfl, "java/lang/Object", by decide, rfl, Or.inr ⟨q, 7, fs, rfl, hq, Or.inr ⟨rfl, rfl⟩⟩⟩
theorem r38a {xs : List Int32} {H : am_H} {d : Nat} {l N b q : Nat} {m : Int32} {vs fs : List Value} (h0 : H[l]? = some (Sum.inl (10, [Value.int m, (.ref b), Value.int (nI N)]) : am_E)) (hb : H[b]? = some (.inr (FieldType.object "java/lang/Object", vs))) (hq : H[q]? = some (.inl (7, fs))) (hN : N < vs.length) (hl : vs.length ≤ 100000) : ∀ Q : Option Value → am_H → Prop, Q none ((H.set b (Sum.inr (FieldType.object "java/lang/Object", vs.set N (.ref q)) : am_E)).set l (Sum.inl (10, [Value.int m, (.ref b), Value.int (nI (N + 1))]) : am_E)) → am_T (am_Bx xs) am_nm (d + 1) 38 [.ref l, .ref q, .ref b, .int (nI N)] H Q := by
  intro Q hQ
  have cN : (nI N).toNatClampNeg = N := nI_clamp (by omega)
  have ha : am_arr (am_Bx xs) H (.ref b) = some (FieldType.object "java/lang/Object", vs) := by
    unfold am_arr
    simp only [hb]
  have h1 : (H.set b (Sum.inr (FieldType.object "java/lang/Object", vs.set N (.ref q)) : am_E))[l]? = some (Sum.inl (10, [Value.int m, (.ref b), Value.int (nI N)]) : am_E) := oset hb h0 (fun q => by cases q)
  refine ax_intro (ms38 xs) (Nat.le_of_ble_eq_true rfl) ?_
  refine ax_iload_n (dd D38_ok 0 rfl) rfl ?_
  refine ax_aload_n (dd D38_ok 1 rfl) rfl (Or.inr (Or.inl ⟨_, rfl⟩)) ?_
  refine ax_alen (dd D38_ok 2 rfl) ha (Or.inr (Or.inr (Or.inr ⟨_, by decide, rfl⟩))) ?_
  refine ax_icmp_ne (tgt := 11) (dd D38_ok 3 rfl) (by decide) (fun _ => ?_) (fun c => ?_)
  · refine ax_aload_n (dd D38_ok 7 rfl) rfl (Or.inr (Or.inl ⟨_, rfl⟩)) ?_
    refine ax_iload_n (dd D38_ok 8 rfl) rfl ?_
    refine ax_aload_n (dd D38_ok 9 rfl) rfl (Or.inr (Or.inl ⟨_, rfl⟩)) ?_
    refine ax_aast (dd D38_ok 10 rfl) hb (into_w hq) (nI_pos (by omega)) (by rw [cN]; exact hN) ?_
    rw [cN]
    refine ax_aload_n (dd D38_ok 11 rfl) rfl (Or.inr (Or.inl ⟨_, rfl⟩)) ?_
    refine ax_iload_n (dd D38_ok 12 rfl) rfl ?_
    refine ax_iconst (v := 1) (dd D38_ok 13 rfl) (by decide) ?_
    refine ax_iadd (dd D38_ok 14 rfl) ?_
    rw [nI_1]
    refine ax_pf (dd D38_ok 15 rfl) pl10_48 h1 rfl rfl rfl rfl rfl (fun q => absurd q (by decide)) ?_
    exact ax_vret (dd D38_ok 16 rfl) rfl hQ
  · exfalso
    have := congrArg Int32.toInt (Classical.not_not.mp c)
    rw [nI_toInt (by omega), show (Int32.ofNat vs.length).toInt = (nI vs.length).toInt from rfl, nI_toInt (by omega)] at this
    omega
theorem r38b {xs : List Int32} {H : am_H} {d : Nat} {l N q : Nat} {m : Int32} {ed : Value} {vs fs : List Value} (h0 : H[l]? = some (Sum.inl (10, [Value.int m, ed, Value.int (nI N)]) : am_E)) (ha : am_arr (am_Bx xs) H ed = some (FieldType.object "java/lang/Object", vs)) (hq : H[q]? = some (.inl (7, fs))) (hN : vs.length = N) (hN2 : N < 5000) (he : (∃ b, ed = .ref b) ∧ ¬ N = 0 ∨ ed = .retAddr 2 ∧ N = 0) (hv : ob_ok H vs) : ∀ Q : Option Value → am_H → Prop, Q none ((((H ++ [(Sum.inr (FieldType.object "java/lang/Object", (List.range (gl N)).map (fun j => vs.getD j .null)) : am_E)]).set l (Sum.inl (10, [Value.int m, (.ref H.length), Value.int (nI N)]) : am_E)).set H.length (Sum.inr (FieldType.object "java/lang/Object", ((List.range (gl N)).map (fun j => vs.getD j .null)).set N (.ref q)) : am_E)).set l (Sum.inl (10, [Value.int m, (.ref H.length), Value.int (nI (N + 1))]) : am_E)) → am_T (am_Bx xs) am_nm (d + 5) 38 [.ref l, .ref q, ed, .int (nI N)] H Q := by
  intro Q hQ
  have cN : (nI N).toNatClampNeg = N := nI_clamp (by omega)
  have hg := gl_gt N
  have hl : l < H.length := (List.getElem?_eq_some_iff.mp h0).1
  have isr : am_isR ed := by
    rcases he with ⟨⟨b, e⟩, _⟩ | ⟨e, _⟩
    · exact Or.inr (Or.inl ⟨b, e⟩)
    · exact Or.inr (Or.inr ⟨2, e⟩)
  have a0 : (H ++ [(Sum.inr (FieldType.object "java/lang/Object", (List.range (gl N)).map (fun j => vs.getD j .null)) : am_E)])[l]? = some (Sum.inl (10, [Value.int m, ed, Value.int (nI N)]) : am_E) := by
    rw [List.getElem?_append_left hl]
    exact h0
  have a1 : (H ++ [(Sum.inr (FieldType.object "java/lang/Object", (List.range (gl N)).map (fun j => vs.getD j .null)) : am_E)])[H.length]? = some (Sum.inr (FieldType.object "java/lang/Object", (List.range (gl N)).map (fun j => vs.getD j .null)) : am_E) := by
    rw [List.getElem?_append_right (Nat.le_refl _), Nat.sub_self]
    rfl
  have a2 : (H ++ [(Sum.inr (FieldType.object "java/lang/Object", (List.range (gl N)).map (fun j => vs.getD j .null)) : am_E)])[q]? = some (.inl (7, fs)) := by
    rw [List.getElem?_append_left (List.getElem?_eq_some_iff.mp hq).1]
    exact hq
  have b1 : ((H ++ [(Sum.inr (FieldType.object "java/lang/Object", (List.range (gl N)).map (fun j => vs.getD j .null)) : am_E)]).set l (Sum.inl (10, [Value.int m, (.ref H.length), Value.int (nI N)]) : am_E))[H.length]? = some (Sum.inr (FieldType.object "java/lang/Object", (List.range (gl N)).map (fun j => vs.getD j .null)) : am_E) := oset a0 a1 (fun q => by cases q)
  have b2 : ((H ++ [(Sum.inr (FieldType.object "java/lang/Object", (List.range (gl N)).map (fun j => vs.getD j .null)) : am_E)]).set l (Sum.inl (10, [Value.int m, (.ref H.length), Value.int (nI N)]) : am_E))[q]? = some (.inl (7, fs)) := oset a0 a2 (fun q => by cases q)
  have b0 : ((H ++ [(Sum.inr (FieldType.object "java/lang/Object", (List.range (gl N)).map (fun j => vs.getD j .null)) : am_E)]).set l (Sum.inl (10, [Value.int m, (.ref H.length), Value.int (nI N)]) : am_E))[l]? = some (Sum.inl (10, [Value.int m, (.ref H.length), Value.int (nI N)]) : am_E) := nset a0
  have c0 : (((H ++ [(Sum.inr (FieldType.object "java/lang/Object", (List.range (gl N)).map (fun j => vs.getD j .null)) : am_E)]).set l (Sum.inl (10, [Value.int m, (.ref H.length), Value.int (nI N)]) : am_E)).set H.length (Sum.inr (FieldType.object "java/lang/Object", ((List.range (gl N)).map (fun j => vs.getD j .null)).set N (.ref q)) : am_E))[l]? = some (Sum.inl (10, [Value.int m, (.ref H.length), Value.int (nI N)]) : am_E) := oset b1 b0 (fun q => by cases q)
  refine ax_intro (ms38 xs) (Nat.le_of_ble_eq_true rfl) ?_
  refine ax_iload_n (dd D38_ok 0 rfl) rfl ?_
  refine ax_aload_n (dd D38_ok 1 rfl) rfl isr ?_
  refine ax_alen (dd D38_ok 2 rfl) ha (Or.inr (Or.inr (Or.inr ⟨_, by decide, rfl⟩))) ?_
  rw [hN]
  refine ax_icmp_ne (tgt := 11) (dd D38_ok 3 rfl) (by decide) (fun c => absurd rfl c) (fun _ => ?_)
  refine ax_aload_n (dd D38_ok 4 rfl) rfl (Or.inr (Or.inl ⟨_, rfl⟩)) ?_
  refine ax_callv (as := []) (rest := []) (dd D38_ok 5 rfl) pl10_129 rfl (Nat.le_of_ble_eq_true rfl) rfl (ms39 xs) h0 (r39 h0 ha hN hN2 he hv _ ?_)
  refine ax_astore_n (dd D38_ok 6 rfl) (Nat.le_of_ble_eq_true rfl) (Or.inr (Or.inl ⟨_, rfl⟩)) ?_
  refine ax_aload_n (dd D38_ok 7 rfl) rfl (Or.inr (Or.inl ⟨_, rfl⟩)) ?_
  refine ax_iload_n (dd D38_ok 8 rfl) rfl ?_
  refine ax_aload_n (dd D38_ok 9 rfl) rfl (Or.inr (Or.inl ⟨_, rfl⟩)) ?_
  refine ax_aast (dd D38_ok 10 rfl) b1 (into_w b2) (nI_pos (by omega)) (by rw [cN]; simp; omega) ?_
  rw [cN]
  refine ax_aload_n (dd D38_ok 11 rfl) rfl (Or.inr (Or.inl ⟨_, rfl⟩)) ?_
  refine ax_iload_n (dd D38_ok 12 rfl) rfl ?_
  refine ax_iconst (v := 1) (dd D38_ok 13 rfl) (by decide) ?_
  refine ax_iadd (dd D38_ok 14 rfl) ?_
  rw [nI_1]
  refine ax_pf (dd D38_ok 15 rfl) pl10_48 c0 rfl rfl rfl rfl rfl (fun q => absurd q (by decide)) ?_
  exact ax_vret (dd D38_ok 16 rfl) rfl hQ
theorem r37a {xs : List Int32} {H : am_H} {d : Nat} {l N b q : Nat} {m : Int32} {vs fs : List Value} (h0 : H[l]? = some (Sum.inl (10, [Value.int m, (.ref b), Value.int (nI N)]) : am_E)) (hb : H[b]? = some (.inr (FieldType.object "java/lang/Object", vs))) (hq : H[q]? = some (.inl (7, fs))) (hN : N < vs.length) (hl : vs.length ≤ 100000) : ∀ Q : Option Value → am_H → Prop, Q (some (.int 1)) (((H.set l (Sum.inl (10, [Value.int (m + 1), (.ref b), Value.int (nI N)]) : am_E)).set b (Sum.inr (FieldType.object "java/lang/Object", vs.set N (.ref q)) : am_E)).set l (Sum.inl (10, [Value.int (m + 1), (.ref b), Value.int (nI (N + 1))]) : am_E)) → am_T (am_Bx xs) am_nm (d + 2) 37 [.ref l, .ref q] H Q := by
  intro Q hQ
  have g0 : (H.set l (Sum.inl (10, [Value.int (m + 1), (.ref b), Value.int (nI N)]) : am_E))[l]? = some (Sum.inl (10, [Value.int (m + 1), (.ref b), Value.int (nI N)]) : am_E) := nset h0
  have gb : (H.set l (Sum.inl (10, [Value.int (m + 1), (.ref b), Value.int (nI N)]) : am_E))[b]? = some (.inr (FieldType.object "java/lang/Object", vs)) := oset h0 hb (fun q => by cases q)
  have gq : (H.set l (Sum.inl (10, [Value.int (m + 1), (.ref b), Value.int (nI N)]) : am_E))[q]? = some (.inl (7, fs)) := oset h0 hq (fun q => by cases q)
  refine ax_intro (ms37 xs) (Nat.le_of_ble_eq_true rfl) ?_
  refine ax_aload_n (dd D37_ok 0 rfl) rfl (Or.inr (Or.inl ⟨_, rfl⟩)) ?_
  refine ax_dup (dd D37_ok 1 rfl) ?_
  refine ax_getf (dd D37_ok 2 rfl) pl10_63 (Or.inl rfl) (am_get_of h0 rfl) ?_
  refine ax_iconst (v := 1) (dd D37_ok 3 rfl) (by decide) ?_
  refine ax_iadd (dd D37_ok 4 rfl) ?_
  refine ax_pf (dd D37_ok 5 rfl) pl10_63 h0 rfl rfl rfl rfl rfl (fun q => absurd q (by decide)) ?_
  refine ax_aload_n (dd D37_ok 6 rfl) rfl (Or.inr (Or.inl ⟨_, rfl⟩)) ?_
  refine ax_aload_n (dd D37_ok 7 rfl) rfl (Or.inr (Or.inl ⟨_, rfl⟩)) ?_
  refine ax_aload_n (dd D37_ok 8 rfl) rfl (Or.inr (Or.inl ⟨_, rfl⟩)) ?_
  refine ax_getf (dd D37_ok 9 rfl) pl10_9 (Or.inl rfl) (am_get_of g0 rfl) ?_
  refine ax_aload_n (dd D37_ok 10 rfl) rfl (Or.inr (Or.inl ⟨_, rfl⟩)) ?_
  refine ax_getf (dd D37_ok 11 rfl) pl10_48 (Or.inl rfl) (am_get_of g0 rfl) ?_
  refine ax_callv (as := [.ref q, .ref b, .int (nI N)]) (rest := []) (dd D37_ok 12 rfl) pl10_131 rfl (Nat.le_of_ble_eq_true rfl) rfl (ms38 xs) g0 (r38a g0 gb gq hN hl _ ?_)
  refine ax_iconst (v := 1) (dd D37_ok 13 rfl) (by decide) ?_
  exact ax_iret (dd D37_ok 14 rfl) rfl hQ
theorem r37b {xs : List Int32} {H : am_H} {d : Nat} {l N q : Nat} {m : Int32} {ed : Value} {vs fs : List Value} (h0 : H[l]? = some (Sum.inl (10, [Value.int m, ed, Value.int (nI N)]) : am_E)) (ha : am_arr (am_Bx xs) H ed = some (FieldType.object "java/lang/Object", vs)) (hq : H[q]? = some (.inl (7, fs))) (hN : vs.length = N) (hN2 : N < 5000) (he : (∃ b, ed = .ref b) ∧ ¬ N = 0 ∨ ed = .retAddr 2 ∧ N = 0) (hv : ob_ok H vs) : ∀ Q : Option Value → am_H → Prop, Q (some (.int 1)) (((((H.set l (Sum.inl (10, [Value.int (m + 1), ed, Value.int (nI N)]) : am_E)) ++ [(Sum.inr (FieldType.object "java/lang/Object", (List.range (gl N)).map (fun j => vs.getD j .null)) : am_E)]).set l (Sum.inl (10, [Value.int (m + 1), (.ref H.length), Value.int (nI N)]) : am_E)).set H.length (Sum.inr (FieldType.object "java/lang/Object", ((List.range (gl N)).map (fun j => vs.getD j .null)).set N (.ref q)) : am_E)).set l (Sum.inl (10, [Value.int (m + 1), (.ref H.length), Value.int (nI (N + 1))]) : am_E)) → am_T (am_Bx xs) am_nm (d + 6) 37 [.ref l, .ref q] H Q := by
  intro Q hQ
  have g0 : (H.set l (Sum.inl (10, [Value.int (m + 1), ed, Value.int (nI N)]) : am_E))[l]? = some (Sum.inl (10, [Value.int (m + 1), ed, Value.int (nI N)]) : am_E) := nset h0
  have gq : (H.set l (Sum.inl (10, [Value.int (m + 1), ed, Value.int (nI N)]) : am_E))[q]? = some (.inl (7, fs)) := oset h0 hq (fun q => by cases q)
  have gv : ob_ok (H.set l (Sum.inl (10, [Value.int (m + 1), ed, Value.int (nI N)]) : am_E)) vs := fun v hm => by
    rcases hv v hm with e | ⟨q, fs, e1, e2⟩
    · exact Or.inl e
    · exact Or.inr ⟨q, fs, e1, oset h0 e2 (fun q => by cases q)⟩
  have ga : am_arr (am_Bx xs) (H.set l (Sum.inl (10, [Value.int (m + 1), ed, Value.int (nI N)]) : am_E)) ed = some (FieldType.object "java/lang/Object", vs) := by
    rcases he with ⟨⟨b, rfl⟩, hN0⟩ | ⟨rfl, hN0⟩
    · have hb : H[b]? = some (.inr (FieldType.object "java/lang/Object", vs)) := by
        unfold am_arr at ha
        cases hc : H[b]? with
        | none => simp [hc] at ha
        | some e =>
          cases e with
          | inl y => simp [hc] at ha
          | inr y => simp only [hc] at ha; rw [Option.some.inj ha]
      have gb : (H.set l (Sum.inl (10, [Value.int (m + 1), (.ref b), Value.int (nI N)]) : am_E))[b]? = some (.inr (FieldType.object "java/lang/Object", vs)) := oset h0 hb (fun q => by cases q)
      unfold am_arr
      simp only [gb]
    · exact ha
  have hlen : (H.set l (Sum.inl (10, [Value.int (m + 1), ed, Value.int (nI N)]) : am_E)).length = H.length := List.length_set
  refine ax_intro (ms37 xs) (Nat.le_of_ble_eq_true rfl) ?_
  refine ax_aload_n (dd D37_ok 0 rfl) rfl (Or.inr (Or.inl ⟨_, rfl⟩)) ?_
  refine ax_dup (dd D37_ok 1 rfl) ?_
  refine ax_getf (dd D37_ok 2 rfl) pl10_63 (Or.inl rfl) (am_get_of h0 rfl) ?_
  refine ax_iconst (v := 1) (dd D37_ok 3 rfl) (by decide) ?_
  refine ax_iadd (dd D37_ok 4 rfl) ?_
  refine ax_pf (dd D37_ok 5 rfl) pl10_63 h0 rfl rfl rfl rfl rfl (fun q => absurd q (by decide)) ?_
  refine ax_aload_n (dd D37_ok 6 rfl) rfl (Or.inr (Or.inl ⟨_, rfl⟩)) ?_
  refine ax_aload_n (dd D37_ok 7 rfl) rfl (Or.inr (Or.inl ⟨_, rfl⟩)) ?_
  refine ax_aload_n (dd D37_ok 8 rfl) rfl (Or.inr (Or.inl ⟨_, rfl⟩)) ?_
  refine ax_getf (dd D37_ok 9 rfl) pl10_9 (Or.inl rfl) (am_get_of g0 rfl) ?_
  refine ax_aload_n (dd D37_ok 10 rfl) rfl (Or.inr (Or.inl ⟨_, rfl⟩)) ?_
  refine ax_getf (dd D37_ok 11 rfl) pl10_48 (Or.inl rfl) (am_get_of g0 rfl) ?_
  refine ax_callv (as := [.ref q, ed, .int (nI N)]) (rest := []) (dd D37_ok 12 rfl) pl10_131 rfl (Nat.le_of_ble_eq_true rfl) rfl (ms38 xs) g0 (r38b g0 ga gq hN hN2 he gv _ ?_)
  refine ax_iconst (v := 1) (dd D37_ok 13 rfl) (by decide) ?_
  rw [hlen]
  exact ax_iret (dd D37_ok 14 rfl) rfl hQ
