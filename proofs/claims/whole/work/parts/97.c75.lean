/-! a call ends in one way: what holds of its end for each of many holds for all at once (by program: wip/whole/gen/c75.py) -/
section ALL
variable {B : am_B} {cn : Nat → String} {d : Nat} {I : am_I} {ι : Type}
set_option maxHeartbeats 4000000 in
theorem am_nx_all {P : am_F → Prop} {R : ι → am_F → Prop} {pc : Nat} {ls : List (Option Value)} {st : List Value} {h : am_H} {i : Instr} (hT : ∀ m as h Q0 (Qp : ι → Option Value → am_H → Prop), am_T B cn d m as h Q0 → (∀ p, am_T B cn d m as h (Qp p)) → am_T B cn d m as h (fun v h' => Q0 v h' ∧ ∀ p, Qp p v h')) (hx : am_nx B cn (am_T B cn d) I P pc ls st h i) (hq : ∀ p, am_nx B cn (am_T B cn d) I (R p) pc ls st h i) : am_nx B cn (am_T B cn d) I (fun F => P F ∧ ∀ p, R p F) pc ls st h i := by
  have hbr : ∀ {pc ls st h off C}, am_br P pc ls st h off C → (∀ p, am_br (R p) pc ls st h off C) → am_br (fun F => P F ∧ ∀ p, R p F) pc ls st h off C := by
    rintro pc ls st h off C ⟨t, a, b, c⟩ hq
    have ht : ∀ p, (C → R p (t, ls, st, h)) ∧ (¬ C → R p (pc + 3, ls, st, h)) := fun p => by
      obtain ⟨t', a', b', c'⟩ := hq p
      have : t = t' := by omega
      subst this
      exact ⟨b', c'⟩
    exact ⟨t, a, fun q => ⟨b q, fun p => (ht p).1 q⟩, fun q => ⟨c q, fun p => (ht p).2 q⟩⟩
  have hc1 : ∀ {pc ls st h off} {C : Int32 → Prop}, am_c1 P pc ls st h off C → (∀ p, am_c1 (R p) pc ls st h off C) → am_c1 (fun F => P F ∧ ∀ p, R p F) pc ls st h off C := by
    rintro pc ls st h off C ⟨x, r, rfl, b⟩ hq
    refine ⟨x, r, rfl, hbr b (fun p => ?_)⟩
    obtain ⟨x', r', e', b'⟩ := hq p
    cases e'
    exact b'
  have hc2 : ∀ {pc ls st h off} {C : Int32 → Int32 → Prop}, am_c2 P pc ls st h off C → (∀ p, am_c2 (R p) pc ls st h off C) → am_c2 (fun F => P F ∧ ∀ p, R p F) pc ls st h off C := by
    rintro pc ls st h off C ⟨x, y, r, rfl, b⟩ hq
    refine ⟨x, y, r, rfl, hbr b (fun p => ?_)⟩
    obtain ⟨x', y', r', e', b'⟩ := hq p
    cases e'
    exact b'
  have hb2 : ∀ {pc ls st h f}, am_b2 P pc ls st h f → (∀ p, am_b2 (R p) pc ls st h f) → am_b2 (fun F => P F ∧ ∀ p, R p F) pc ls st h f := by
    rintro pc ls st h f ⟨x, y, r, rfl, b⟩ hq
    refine ⟨x, y, r, rfl, b, fun p => ?_⟩
    obtain ⟨x', y', r', e', b'⟩ := hq p
    cases e'
    exact b'
  have had : ∀ {pc ls st h ok}, am_ald B P pc ls st h ok → (∀ p, am_ald B (R p) pc ls st h ok) → am_ald B (fun F => P F ∧ ∀ p, R p F) pc ls st h ok := by
    rintro pc ls st h ok ⟨j, r, q, ty, vs, v, rfl, b, c, e, f, g⟩ hq
    refine ⟨j, r, q, ty, vs, v, rfl, b, c, e, f, g, fun p => ?_⟩
    obtain ⟨j', r', q', ty', vs', v', a', b', c', e', f', g'⟩ := hq p
    cases a'
    cases (b.symm.trans b')
    cases (f.symm.trans f')
    exact g'
  have hat : ∀ {pc ls st h} {ok : FieldType → Value → Value → Prop}, (∀ ty w v v', ok ty w v → ok ty w v' → v = v') → am_ast P pc ls st h ok → (∀ p, am_ast (R p) pc ls st h ok) → am_ast (fun F => P F ∧ ∀ p, R p F) pc ls st h ok := by
    rintro pc ls st h ok hok ⟨w, j, q, r, ty, vs, v, rfl, b, c, e, f, g⟩ hq
    refine ⟨w, j, q, r, ty, vs, v, rfl, b, c, e, f, g, fun p => ?_⟩
    obtain ⟨w', j', q', r', ty', vs', v', a', b', c', e', f', g'⟩ := hq p
    cases a'
    cases (b.symm.trans b')
    have := hok _ _ _ _ c c'
    subst this
    exact g'
  have hap : ∀ {as as' : List Value} {b b' : Nat} {r r' : List Value}, as.length = as'.length → as.reverse ++ Value.ref b :: r = as'.reverse ++ Value.ref b' :: r' → as = as' ∧ b = b' ∧ r = r' := by
    intro as as' b b' r r' hl e
    obtain ⟨e1, e2⟩ := List.append_inj e (by simp [hl])
    cases e2
    exact ⟨List.reverse_inj.mp e1, rfl, rfl⟩
  have hap2 : ∀ {as as' : List Value} {r r' : List Value}, as.length = as'.length → as.reverse ++ r = as'.reverse ++ r' → as = as' ∧ r = r' := by
    intro as as' r r' hl e
    obtain ⟨e1, e2⟩ := List.append_inj e (by simp [hl])
    exact ⟨List.reverse_inj.mp e1, e2⟩
  cases i
  case iconst n =>
    exact ⟨hx, fun p => hq p⟩
  case bipush n =>
    exact ⟨hx, fun p => hq p⟩
  case sipush n =>
    exact ⟨hx, fun p => hq p⟩
  case aconst_null =>
    exact ⟨hx, fun p => hq p⟩
  case ldc idx =>
    rcases hx with ⟨x, y, h1, hz⟩ | ⟨x, y, h1, hz⟩
    · refine Or.inl ⟨x, y, h1, hz, fun p => ?_⟩
      rcases hq p with ⟨x', y', h1', hz'⟩ | ⟨x', y', h1', hz'⟩
      · cases (h1.symm.trans h1')
        exact hz'
      · cases (h1.symm.trans h1')
    · refine Or.inr ⟨x, y, h1, hz, fun p => ?_⟩
      rcases hq p with ⟨x', y', h1', hz'⟩ | ⟨x', y', h1', hz'⟩
      · cases (h1.symm.trans h1')
      · cases (h1.symm.trans h1')
        exact hz'
  case iload k =>
    obtain ⟨x, h1, hz⟩ := hx
    refine ⟨x, h1, hz, fun p => ?_⟩
    obtain ⟨x', h1', hz'⟩ := hq p
    cases (h1.symm.trans h1')
    exact hz'
  case iload_n k =>
    obtain ⟨x, h1, hz⟩ := hx
    refine ⟨x, h1, hz, fun p => ?_⟩
    obtain ⟨x', h1', hz'⟩ := hq p
    cases (h1.symm.trans h1')
    exact hz'
  case aload k =>
    obtain ⟨x, h1, h2, hz⟩ := hx
    refine ⟨x, h1, h2, hz, fun p => ?_⟩
    obtain ⟨x', h1', h2', hz'⟩ := hq p
    cases (h1.symm.trans h1')
    exact hz'
  case aload_n k =>
    obtain ⟨x, h1, h2, hz⟩ := hx
    refine ⟨x, h1, h2, hz, fun p => ?_⟩
    obtain ⟨x', h1', h2', hz'⟩ := hq p
    cases (h1.symm.trans h1')
    exact hz'
  case istore k =>
    obtain ⟨x, r, rfl, h2, hz⟩ := hx
    refine ⟨x, r, rfl, h2, hz, fun p => ?_⟩
    obtain ⟨x', r', h1', h2', hz'⟩ := hq p
    cases h1'
    exact hz'
  case istore_n k =>
    obtain ⟨x, r, rfl, h2, hz⟩ := hx
    refine ⟨x, r, rfl, h2, hz, fun p => ?_⟩
    obtain ⟨x', r', h1', h2', hz'⟩ := hq p
    cases h1'
    exact hz'
  case astore k =>
    obtain ⟨x, r, rfl, h2, h3, hz⟩ := hx
    refine ⟨x, r, rfl, h2, h3, hz, fun p => ?_⟩
    obtain ⟨x', r', h1', h2', h3', hz'⟩ := hq p
    cases h1'
    exact hz'
  case astore_n k =>
    obtain ⟨x, r, rfl, h2, h3, hz⟩ := hx
    refine ⟨x, r, rfl, h2, h3, hz, fun p => ?_⟩
    obtain ⟨x', r', h1', h2', h3', hz'⟩ := hq p
    cases h1'
    exact hz'
  case iinc k n =>
    obtain ⟨x, h1, hz⟩ := hx
    refine ⟨x, h1, hz, fun p => ?_⟩
    obtain ⟨x', h1', hz'⟩ := hq p
    cases (h1.symm.trans h1')
    exact hz'
  case iadd =>
    exact hb2 hx hq
  case isub =>
    exact hb2 hx hq
  case imul =>
    exact hb2 hx hq
  case iand =>
    exact hb2 hx hq
  case ishr =>
    exact hb2 hx hq
  case iushr =>
    exact hb2 hx hq
  case idiv =>
    obtain ⟨x, y, r, rfl, h2, hz⟩ := hx
    refine ⟨x, y, r, rfl, h2, hz, fun p => ?_⟩
    obtain ⟨x', y', r', h1', h2', hz'⟩ := hq p
    cases h1'
    exact hz'
  case i2b =>
    obtain ⟨x, r, rfl, hz⟩ := hx
    refine ⟨x, r, rfl, hz, fun p => ?_⟩
    obtain ⟨x', r', h1', hz'⟩ := hq p
    cases h1'
    exact hz'
  case dup =>
    obtain ⟨x, r, rfl, hz⟩ := hx
    refine ⟨x, r, rfl, hz, fun p => ?_⟩
    obtain ⟨x', r', h1', hz'⟩ := hq p
    cases h1'
    exact hz'
  case pop =>
    obtain ⟨x, r, rfl, hz⟩ := hx
    refine ⟨x, r, rfl, hz, fun p => ?_⟩
    obtain ⟨x', r', h1', hz'⟩ := hq p
    cases h1'
    exact hz'
  case dup_x1 =>
    obtain ⟨x, y, r, rfl, hz⟩ := hx
    refine ⟨x, y, r, rfl, hz, fun p => ?_⟩
    obtain ⟨x', y', r', h1', hz'⟩ := hq p
    cases h1'
    exact hz'
  case dup2 =>
    obtain ⟨x, y, r, rfl, hz⟩ := hx
    refine ⟨x, y, r, rfl, hz, fun p => ?_⟩
    obtain ⟨x', y', r', h1', hz'⟩ := hq p
    cases h1'
    exact hz'
  case goto off =>
    obtain ⟨t, h1, hz⟩ := hx
    refine ⟨t, h1, hz, fun p => ?_⟩
    obtain ⟨t', h1', hz'⟩ := hq p
    have ex : t = t' := by omega
    subst ex
    exact hz'
  case ifCond c off =>
    cases c <;> exact hc1 hx hq
  case if_icmp c off =>
    cases c <;> exact hc2 hx hq
  case ifnull off =>
    obtain ⟨v, r, rfl, h2, h3⟩ := hx
    refine ⟨v, r, rfl, h2, hbr h3 (fun p => ?_)⟩
    obtain ⟨v', r', h1', h2', h3'⟩ := hq p
    cases h1'
    exact h3'
  case ifnonnull off =>
    obtain ⟨v, r, rfl, h2, h3⟩ := hx
    refine ⟨v, r, rfl, h2, hbr h3 (fun p => ?_)⟩
    obtain ⟨v', r', h1', h2', h3'⟩ := hq p
    cases h1'
    exact h3'
  case if_acmp c off =>
    cases c
    · obtain ⟨v, w, r, rfl, h2, h3⟩ := hx
      refine ⟨v, w, r, rfl, h2, hbr h3 (fun p => ?_)⟩
      obtain ⟨v', w', r', h1', h2', h3'⟩ := hq p
      cases h1'
      exact h3'
    · obtain ⟨v, w, r, rfl, h2, h3⟩ := hx
      refine ⟨v, w, r, rfl, h2, hbr h3 (fun p => ?_)⟩
      obtain ⟨v', w', r', h1', h2', h3'⟩ := hq p
      cases h1'
      exact h3'
  case tableswitch a b c e =>
    obtain ⟨x, r, rfl, t, h2, hz⟩ := hx
    refine ⟨x, r, rfl, t, h2, hz, fun p => ?_⟩
    obtain ⟨x', r', h1', t', h2', hz'⟩ := hq p
    cases h1'
    have ex : t = t' := by
      rcases h2 with ⟨q1, q2⟩ | ⟨q1, q2, off, q3, q4⟩
      · rcases h2' with ⟨s1, s2⟩ | ⟨s1, s2, off', s3, s4⟩
        · omega
        · exact absurd q1 (fun z => z.elim s1 s2)
      · rcases h2' with ⟨s1, s2⟩ | ⟨s1, s2, off', s3, s4⟩
        · exact absurd s1 (fun z => z.elim q1 q2)
        · cases (q3.symm.trans s3)
          omega
    subst ex
    exact hz'
  case lookupswitch a b =>
    obtain ⟨x, r, rfl, h2, t, h3, hz⟩ := hx
    refine ⟨x, r, rfl, h2, t, h3, hz, fun p => ?_⟩
    obtain ⟨x', r', h1', h2', t', h3', hz'⟩ := hq p
    cases h1'
    have ex : t = t' := by omega
    subst ex
    exact hz'
  case getfield idx =>
    obtain ⟨a, r, t, c, k, v, rfl, h2, h3, h4, hz⟩ := hx
    refine ⟨a, r, t, c, k, v, rfl, h2, h3, h4, hz, fun p => ?_⟩
    obtain ⟨a', r', t', c', k', v', h1', h2', h3', h4', hz'⟩ := hq p
    cases h1'
    cases (h2.symm.trans h2')
    cases (h4.symm.trans h4')
    exact hz'
  case putfield idx =>
    obtain ⟨a, r, c, k, v, w, ts, ty, fin, rfl, h2, h3, h4, h5, h6, h7, hz⟩ := hx
    refine ⟨a, r, c, k, v, w, ts, ty, fin, rfl, h2, h3, h4, h5, h6, h7, hz, fun p => ?_⟩
    obtain ⟨a', r', c', k', v', w', ts', ty', fin', h1', h2', h3', h4', h5', h6', h7', hz'⟩ := hq p
    cases h1'
    cases (h2.symm.trans h2')
    exact hz'
  case getstatic idx =>
    obtain ⟨j, y, h1, hz⟩ := hx
    refine ⟨j, y, h1, hz, fun p => ?_⟩
    obtain ⟨j', y', h1', hz'⟩ := hq p
    cases (h1.symm.trans h1')
    exact hz'
  case arraylength =>
    obtain ⟨r, q, ty, vs, rfl, h2, h3, hz⟩ := hx
    refine ⟨r, q, ty, vs, rfl, h2, h3, hz, fun p => ?_⟩
    obtain ⟨r', q', ty', vs', h1', h2', h3', hz'⟩ := hq p
    cases h1'
    cases (h2.symm.trans h2')
    exact hz'
  case iaload =>
    exact had hx hq
  case baload =>
    exact had hx hq
  case aaload =>
    exact had hx hq
  case iastore =>
    exact hat (fun ty w v v' q q' => q.2.1.trans q'.2.1.symm) hx hq
  case bastore =>
    refine hat (fun ty w v v' q q' => ?_) hx hq
    obtain ⟨x, e1, e2⟩ := q
    obtain ⟨x', e1', e2'⟩ := q'
    cases (e1.symm.trans e1')
    rcases e2 with ⟨a1, a2⟩ | ⟨a1, a2⟩ <;> rcases e2' with ⟨b1, b2⟩ | ⟨b1, b2⟩
    · exact a2.trans b2.symm
    · cases (a1.symm.trans b1)
    · cases (a1.symm.trans b1)
    · exact a2.trans b2.symm
  case aastore =>
    exact hat (fun ty w v v' q q' => q.1.trans q'.1.symm) hx hq
  case new idx =>
    obtain ⟨c, y, ts, h1, h2, h3, hz⟩ := hx
    refine ⟨c, y, ts, h1, h2, h3, hz, fun p => ?_⟩
    obtain ⟨c', y', ts', h1', h2', h3', hz'⟩ := hq p
    cases (h1.symm.trans h1')
    cases (h2.symm.trans h2')
    exact hz'
  case newarray at_ =>
    obtain ⟨n, r, ty, rfl, h2, h3, h4, h5, hz⟩ := hx
    refine ⟨n, r, ty, rfl, h2, h3, h4, h5, hz, fun p => ?_⟩
    obtain ⟨n', r', ty', h1', h2', h3', h4', h5', hz'⟩ := hq p
    cases h1'
    subst h2
    subst h2'
    exact hz'
  case anewarray idx =>
    obtain ⟨n, r, c, y, rfl, h2, h3, h4, h5, hz⟩ := hx
    refine ⟨n, r, c, y, rfl, h2, h3, h4, h5, hz, fun p => ?_⟩
    obtain ⟨n', r', c', y', h1', h2', h3', h4', h5', hz'⟩ := hq p
    cases h1'
    cases (h2.symm.trans h2')
    exact hz'
  case checkcast idx =>
    obtain ⟨v, r, c, y, rfl, h2, h3, hz⟩ := hx
    refine ⟨v, r, c, y, rfl, h2, h3, hz, fun p => ?_⟩
    obtain ⟨v', r', c', y', h1', h2', h3', hz'⟩ := hq p
    cases h1'
    exact hz'
  case invokevirtual idx =>
    rcases hx with ⟨a, r, vs, x, y, h1, rfl, h3, h4, hz⟩ | ⟨m, n, as, b, r, J, fs, h1, h2, h3, h4, h5, h6, hz⟩
    · refine Or.inl ⟨a, r, vs, x, y, h1, rfl, h3, h4, hz, fun p => ?_⟩
      rcases hq p with ⟨a', r', vs', x', y', h1', h2', h3', h4', hz'⟩ | ⟨m', n', as', b', r', J', fs', h1', h2', h3', h4', h5', h6', hz'⟩
      · cases h2'
        exact hz'
      · cases (h1.symm.trans h1')
    · refine Or.inr ⟨m, n, as, b, r, J, fs, h1, h2, h3, h4, h5, h6, hT _ _ _ _ (fun p v h' => R p (pc + 3, ls, v.toList ++ r, h')) hz (fun p => ?_)⟩
      rcases hq p with ⟨a', r', vs', x', y', h1', h2', h3', h4', hz'⟩ | ⟨m', n', as', b', r', J', fs', h1', h2', h3', h4', h5', h6', hz'⟩
      · cases (h1.symm.trans h1')
      · cases (h1.symm.trans h1')
        obtain ⟨rfl, rfl, rfl⟩ := hap (h2.trans h2'.symm) (h3.symm.trans h3')
        exact hz'
  case invokestatic idx =>
    rcases hx with ⟨n, dp, a, sp, b, r, ty, vs, ws, x, y, h1, rfl, h3, h4, h5, h6, h7, h8, h9, h10, h11, hz⟩ | ⟨a, b, r, x, y, h1, rfl, h3, hz⟩ | ⟨a, b, r, x, y, h1, rfl, h3, hz⟩ | ⟨m, n, as, r, h1, h2, h3, h4, hz⟩
    · refine Or.inl ⟨n, dp, a, sp, b, r, ty, vs, ws, x, y, h1, rfl, h3, h4, h5, h6, h7, h8, h9, h10, h11, hz, fun p => ?_⟩
      rcases hq p with ⟨n', dp', a', sp', b', r', ty', vs', ws', x', y', h1', h2', h3', h4', h5', h6', h7', h8', h9', h10', h11', hz'⟩ | ⟨a', b', r', x', y', h1', h2', h3', hz'⟩ | ⟨a', b', r', x', y', h1', h2', h3', hz'⟩ | ⟨m', n', as', r', h1', h2', h3', h4', hz'⟩
      · cases h2'
        cases (h4.symm.trans h4')
        cases (h5.symm.trans h5')
        exact hz'
      · cases (h1.symm.trans h1')
      · cases (h1.symm.trans h1')
      · cases (h1.symm.trans h1')
    · refine Or.inr (Or.inl ⟨a, b, r, x, y, h1, rfl, h3, hz, fun p => ?_⟩)
      rcases hq p with ⟨n', dp', a', sp', b', r', ty', vs', ws', x', y', h1', h2', h3', h4', h5', h6', h7', h8', h9', h10', h11', hz'⟩ | ⟨a', b', r', x', y', h1', h2', h3', hz'⟩ | ⟨a', b', r', x', y', h1', h2', h3', hz'⟩ | ⟨m', n', as', r', h1', h2', h3', h4', hz'⟩
      · cases (h1.symm.trans h1')
      · cases h2'
        exact hz'
      · cases (h1.symm.trans h1')
      · cases (h1.symm.trans h1')
    · refine Or.inr (Or.inr (Or.inl ⟨a, b, r, x, y, h1, rfl, h3, hz, fun p => ?_⟩))
      rcases hq p with ⟨n', dp', a', sp', b', r', ty', vs', ws', x', y', h1', h2', h3', h4', h5', h6', h7', h8', h9', h10', h11', hz'⟩ | ⟨a', b', r', x', y', h1', h2', h3', hz'⟩ | ⟨a', b', r', x', y', h1', h2', h3', hz'⟩ | ⟨m', n', as', r', h1', h2', h3', h4', hz'⟩
      · cases (h1.symm.trans h1')
      · cases (h1.symm.trans h1')
      · cases h2'
        exact hz'
      · cases (h1.symm.trans h1')
    · refine Or.inr (Or.inr (Or.inr ⟨m, n, as, r, h1, h2, h3, h4, hT _ _ _ _ (fun p v h' => R p (pc + 3, ls, v.toList ++ r, h')) hz (fun p => ?_)⟩))
      rcases hq p with ⟨n', dp', a', sp', b', r', ty', vs', ws', x', y', h1', h2', h3', h4', h5', h6', h7', h8', h9', h10', h11', hz'⟩ | ⟨a', b', r', x', y', h1', h2', h3', hz'⟩ | ⟨a', b', r', x', y', h1', h2', h3', hz'⟩ | ⟨m', n', as', r', h1', h2', h3', h4', hz'⟩
      · cases (h1.symm.trans h1')
      · cases (h1.symm.trans h1')
      · cases (h1.symm.trans h1')
      · cases (h1.symm.trans h1')
        obtain ⟨rfl, rfl⟩ := hap2 (h2.trans h2'.symm) (h3.symm.trans h3')
        exact hz'
  case invokespecial idx =>
    rcases hx with ⟨a, r, x, y, h1, rfl, h3, hz⟩ | ⟨t, m, n, as, b, r, h1, h2, h3, h4, h5, hz⟩
    · refine Or.inl ⟨a, r, x, y, h1, rfl, h3, hz, fun p => ?_⟩
      rcases hq p with ⟨a', r', x', y', h1', h2', h3', hz'⟩ | ⟨t', m', n', as', b', r', h1', h2', h3', h4', h5', hz'⟩
      · cases h2'
        exact hz'
      · exfalso
        cases (h1.symm.trans h1')
        rcases h2' with z | z <;> exact absurd z (by decide)
    · refine Or.inr ⟨t, m, n, as, b, r, h1, h2, h3, h4, h5, am_T_mono (fun v h' q => ⟨q.1.1, q.1.2, fun p => (q.2 p).2⟩) (hT _ _ _ _ (fun p v h' => v = none ∧ R p (pc + 3, ls, r, h')) hz (fun p => ?_))⟩
      rcases hq p with ⟨a', r', x', y', h1', h2', h3', hz'⟩ | ⟨t', m', n', as', b', r', h1', h2', h3', h4', h5', hz'⟩
      · exfalso
        cases (h1.symm.trans h1')
        rcases h2 with z | z <;> exact absurd z (by decide)
      · cases (h1.symm.trans h1')
        obtain ⟨rfl, rfl, rfl⟩ := hap (h3.trans h3'.symm) (h4.symm.trans h4')
        exact hz'
  all_goals exact False.elim hx
theorem am_wp_inv {Q : Option Value → am_H → Prop} {F : am_F} (h : am_wp B cn (am_T B cn d) Q I F) : am_ok B cn (am_T B cn d) Q I (am_wp B cn (am_T B cn d) Q I) F := by
  refine h (am_ok B cn (am_T B cn d) Q I (am_wp B cn (am_T B cn d) Q I)) (fun F hF => ?_)
  obtain ⟨i, len, hd, hl, hx⟩ := hF
  refine ⟨i, len, hd, hl, ?_⟩
  rcases hx with hx | hx
  · refine Or.inl (am_nx_mono (fun F' hF' => ?_) hx)
    obtain ⟨i', len', hd', hl', hx'⟩ := hF'
    rcases hx' with hx' | hx'
    · exact am_r hd' hl' hx'
    · exact am_rr hd' hl' hx'
  · exact Or.inr hx
theorem am_re_nx {Q : Option Value → am_H → Prop} {P : am_F → Prop} {pc : Nat} {ls : List (Option Value)} {st : List Value} {h : am_H} {i : Instr} (hr : am_re Q I st h i) (hx : am_nx B cn (am_T B cn d) I P pc ls st h i) : False := by
  obtain ⟨v, _, _, _, hk⟩ := hr
  rcases hk with ⟨rfl, _⟩ | ⟨rfl, _⟩ | ⟨rfl, _⟩ <;> exact hx
theorem am_wp_all (hT : ∀ m as h Q0 (Qp : ι → Option Value → am_H → Prop), am_T B cn d m as h Q0 → (∀ p, am_T B cn d m as h (Qp p)) → am_T B cn d m as h (fun v h' => Q0 v h' ∧ ∀ p, Qp p v h')) {Q0 : Option Value → am_H → Prop} {Qp : ι → Option Value → am_H → Prop} {F : am_F} (h0 : am_wp B cn (am_T B cn d) Q0 I F) (hp : ∀ p, am_wp B cn (am_T B cn d) (Qp p) I F) : am_wp B cn (am_T B cn d) (fun v h' => Q0 v h' ∧ ∀ p, Qp p v h') I F := by
  refine h0 (fun F => (∀ p, am_wp B cn (am_T B cn d) (Qp p) I F) → am_wp B cn (am_T B cn d) (fun v h' => Q0 v h' ∧ ∀ p, Qp p v h') I F) (fun F hF hq => ?_) hp
  obtain ⟨i, len, hd, hl, hx⟩ := hF
  have hok : ∀ p, am_nx B cn (am_T B cn d) I (am_wp B cn (am_T B cn d) (Qp p) I) F.1 F.2.1 F.2.2.1 F.2.2.2 i ∨ am_re (Qp p) I F.2.2.1 F.2.2.2 i := fun p => by
    obtain ⟨i', len', hd', hl', hx'⟩ := am_wp_inv (hq p)
    have := hd.symm.trans hd'
    cases this
    exact hx'
  rcases hx with hx | hx
  · have hnx := am_nx_all hT hx (fun p => (hok p).resolve_right (fun z => am_re_nx z hx))
    exact am_r hd hl (am_nx_mono (fun F' hF' => hF'.1 hF'.2) hnx)
  · refine am_rr hd hl ?_
    have hre : ∀ p, am_re (Qp p) I F.2.2.1 F.2.2.2 i := fun p => (hok p).resolve_left (fun z => am_re_nx hx z)
    obtain ⟨v, e1, e2, e3, e4⟩ := hx
    refine ⟨v, e1, e2, ⟨e3, fun p => ?_⟩, e4⟩
    obtain ⟨v', f1, f2, f3, f4⟩ := hre p
    have : v = v' := by
      rw [e1] at f1
      cases v <;> cases v' <;> first | rfl | (exfalso; simp at f1; done) | (simp at f1; rw [f1])
    rw [this]
    exact f3
theorem am_T_all : ∀ (d m : Nat) (as : List Value) (h : am_H) (Q0 : Option Value → am_H → Prop) (Qp : ι → Option Value → am_H → Prop), am_T B cn d m as h Q0 → (∀ p, am_T B cn d m as h (Qp p)) → am_T B cn d m as h (fun v h' => Q0 v h' ∧ ∀ p, Qp p v h') := by
  intro d
  induction d with
  | zero => intro m as h Q0 Qp h0 _; exact h0
  | succ d ih =>
    intro m as h Q0 Qp h0 hp
    obtain ⟨I, h1, h2, h3⟩ := h0
    refine ⟨I, h1, h2, am_wp_all ih h3 (fun p => ?_)⟩
    obtain ⟨I', h1', h2', h3'⟩ := hp p
    cases (h1.symm.trans h1')
    exact h3'
end ALL
