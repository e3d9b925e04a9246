/-! rules of the small machine: one instruction backward -/
section AMX
variable {B : am_B} {cn : Nat → String} {d : Nat} {I : am_I} {Q : Option Value → am_H → Prop}
set_option maxHeartbeats 4000000 in
theorem am_nx_mono {P P' : am_F → Prop} {pc : Nat} {ls : List (Option Value)} {st : List Value} {h : am_H} {i : Instr} (hP : ∀ F, P F → P' F) (hx : am_nx B cn (am_T B cn d) I P pc ls st h i) : am_nx B cn (am_T B cn d) I P' pc ls st h i := by
  have hbr : ∀ {pc ls st h off C}, am_br P pc ls st h off C → am_br P' pc ls st h off C := fun ⟨t, a, b, c⟩ => ⟨t, a, fun q => hP _ (b q), fun q => hP _ (c q)⟩
  have hc1 : ∀ {pc ls st h off C}, am_c1 P pc ls st h off C → am_c1 P' pc ls st h off C := fun ⟨x, r, a, b⟩ => ⟨x, r, a, hbr b⟩
  have hc2 : ∀ {pc ls st h off C}, am_c2 P pc ls st h off C → am_c2 P' pc ls st h off C := fun ⟨x, y, r, a, b⟩ => ⟨x, y, r, a, hbr b⟩
  have hb2 : ∀ {pc ls st h f}, am_b2 P pc ls st h f → am_b2 P' pc ls st h f := fun ⟨x, y, r, a, b⟩ => ⟨x, y, r, a, hP _ b⟩
  have had : ∀ {pc ls st h ok}, am_ald B P pc ls st h ok → am_ald B P' pc ls st h ok := fun ⟨j, r, q, ty, vs, v, a, b, c, e, f, g⟩ => ⟨j, r, q, ty, vs, v, a, b, c, e, f, hP _ g⟩
  have hat : ∀ {pc ls st h ok}, am_ast P pc ls st h ok → am_ast P' pc ls st h ok := fun ⟨w, j, q, r, ty, vs, v, a, b, c, e, f, g⟩ => ⟨w, j, q, r, ty, vs, v, a, b, c, e, f, hP _ g⟩
  cases i
  case iconst n =>
    exact hP _ hx
  case bipush n =>
    exact hP _ hx
  case sipush n =>
    exact hP _ hx
  case aconst_null =>
    exact hP _ hx
  case ldc idx =>
    rcases hx with ⟨x, y, h1, h2⟩ | ⟨x, y, h1, h2⟩
    · exact Or.inl ⟨x, y, h1, hP _ h2⟩
    · exact Or.inr ⟨x, y, h1, hP _ h2⟩
  case iload k =>
    obtain ⟨x, h1, h2⟩ := hx
    exact ⟨x, h1, hP _ h2⟩
  case iload_n k =>
    obtain ⟨x, h1, h2⟩ := hx
    exact ⟨x, h1, hP _ h2⟩
  case aload k =>
    obtain ⟨x, h1, h2, h3⟩ := hx
    exact ⟨x, h1, h2, hP _ h3⟩
  case aload_n k =>
    obtain ⟨x, h1, h2, h3⟩ := hx
    exact ⟨x, h1, h2, hP _ h3⟩
  case istore k =>
    obtain ⟨x, r, h1, h2, h3⟩ := hx
    exact ⟨x, r, h1, h2, hP _ h3⟩
  case istore_n k =>
    obtain ⟨x, r, h1, h2, h3⟩ := hx
    exact ⟨x, r, h1, h2, hP _ h3⟩
  case astore k =>
    obtain ⟨x, r, h1, h2, h3, h4⟩ := hx
    exact ⟨x, r, h1, h2, h3, hP _ h4⟩
  case astore_n k =>
    obtain ⟨x, r, h1, h2, h3, h4⟩ := hx
    exact ⟨x, r, h1, h2, h3, hP _ h4⟩
  case iinc k n =>
    obtain ⟨x, h1, h2⟩ := hx
    exact ⟨x, h1, hP _ h2⟩
  case iadd =>
    exact hb2 hx
  case isub =>
    exact hb2 hx
  case imul =>
    exact hb2 hx
  case iand =>
    exact hb2 hx
  case ishr =>
    exact hb2 hx
  case iushr =>
    exact hb2 hx
  case idiv =>
    obtain ⟨x, y, r, h1, h2, h3⟩ := hx
    exact ⟨x, y, r, h1, h2, hP _ h3⟩
  case i2b =>
    obtain ⟨x, r, h1, h2⟩ := hx
    exact ⟨x, r, h1, hP _ h2⟩
  case dup =>
    obtain ⟨x, r, h1, h2⟩ := hx
    exact ⟨x, r, h1, hP _ h2⟩
  case pop =>
    obtain ⟨x, r, h1, h2⟩ := hx
    exact ⟨x, r, h1, hP _ h2⟩
  case dup_x1 =>
    obtain ⟨x, y, r, h1, h2⟩ := hx
    exact ⟨x, y, r, h1, hP _ h2⟩
  case dup2 =>
    obtain ⟨x, y, r, h1, h2⟩ := hx
    exact ⟨x, y, r, h1, hP _ h2⟩
  case goto off =>
    obtain ⟨t, h1, h2⟩ := hx
    exact ⟨t, h1, hP _ h2⟩
  case ifCond c off =>
    cases c <;> exact hc1 hx
  case if_icmp c off =>
    cases c <;> exact hc2 hx
  case ifnull off =>
    obtain ⟨v, r, h1, h2, h3⟩ := hx
    exact ⟨v, r, h1, h2, hbr h3⟩
  case ifnonnull off =>
    obtain ⟨v, r, h1, h2, h3⟩ := hx
    exact ⟨v, r, h1, h2, hbr h3⟩
  case if_acmp c off =>
    cases c
    · obtain ⟨v, w, r, h1, h2, h3⟩ := hx
      exact ⟨v, w, r, h1, h2, hbr h3⟩
    · obtain ⟨v, w, r, h1, h2, h3⟩ := hx
      exact ⟨v, w, r, h1, h2, hbr h3⟩
  case tableswitch a b c e =>
    obtain ⟨x, r, h1, t, h2, h3⟩ := hx
    exact ⟨x, r, h1, t, h2, hP _ h3⟩
  case lookupswitch a b =>
    obtain ⟨x, r, h1, h2, t, h3, h4⟩ := hx
    exact ⟨x, r, h1, h2, t, h3, hP _ h4⟩
  case getfield idx =>
    obtain ⟨a, r, t, c, k, v, h1, h2, h3, h4, h5⟩ := hx
    exact ⟨a, r, t, c, k, v, h1, h2, h3, h4, hP _ h5⟩
  case putfield idx =>
    obtain ⟨a, r, c, k, v, w, ts, ty, fin, h1, h2, h3, h4, h5, h6, h7, h8⟩ := hx
    exact ⟨a, r, c, k, v, w, ts, ty, fin, h1, h2, h3, h4, h5, h6, h7, hP _ h8⟩
  case getstatic idx =>
    obtain ⟨j, y, h1, h2⟩ := hx
    exact ⟨j, y, h1, hP _ h2⟩
  case arraylength =>
    obtain ⟨r, q, ty, vs, h1, h2, h3, h4⟩ := hx
    exact ⟨r, q, ty, vs, h1, h2, h3, hP _ h4⟩
  case iaload =>
    exact had hx
  case baload =>
    exact had hx
  case aaload =>
    exact had hx
  case iastore =>
    exact hat hx
  case bastore =>
    exact hat hx
  case aastore =>
    exact hat hx
  case new idx =>
    obtain ⟨c, y, ts, h1, h2, h3, h4⟩ := hx
    exact ⟨c, y, ts, h1, h2, h3, hP _ h4⟩
  case newarray at_ =>
    obtain ⟨n, r, ty, h1, h2, h3, h4, h5, h6⟩ := hx
    exact ⟨n, r, ty, h1, h2, h3, h4, h5, hP _ h6⟩
  case anewarray idx =>
    obtain ⟨n, r, c, y, h1, h2, h3, h4, h5, h6⟩ := hx
    exact ⟨n, r, c, y, h1, h2, h3, h4, h5, hP _ h6⟩
  case checkcast idx =>
    obtain ⟨v, r, c, y, h1, h2, h3, h4⟩ := hx
    exact ⟨v, r, c, y, h1, h2, h3, hP _ h4⟩
  case invokevirtual idx =>
    rcases hx with ⟨a, r, vs, x, y, h1, h2, h3, h4, h5⟩ | ⟨m, n, as, b, r, J, fs, h1, h2, h3, h4, h5, h6, h7⟩
    · exact Or.inl ⟨a, r, vs, x, y, h1, h2, h3, h4, hP _ h5⟩
    · exact Or.inr ⟨m, n, as, b, r, J, fs, h1, h2, h3, h4, h5, h6, am_T_mono (fun v h q => hP _ q) h7⟩
  case invokestatic idx =>
    rcases hx with ⟨n, dp, a, sp, b, r, ty, vs, ws, x, y, h1, h2, h3, h4, h5, h6, h7, h8, h9, h10, h11, h12⟩ | ⟨a, b, r, x, y, h1, h2, h3, h4⟩ | ⟨a, b, r, x, y, h1, h2, h3, h4⟩ | ⟨m, n, as, r, h1, h2, h3, h4, h5⟩
    · exact Or.inl ⟨n, dp, a, sp, b, r, ty, vs, ws, x, y, h1, h2, h3, h4, h5, h6, h7, h8, h9, h10, h11, hP _ h12⟩
    · exact Or.inr (Or.inl ⟨a, b, r, x, y, h1, h2, h3, hP _ h4⟩)
    · exact Or.inr (Or.inr (Or.inl ⟨a, b, r, x, y, h1, h2, h3, hP _ h4⟩))
    · exact Or.inr (Or.inr (Or.inr ⟨m, n, as, r, h1, h2, h3, h4, am_T_mono (fun v h q => hP _ q) h5⟩))
  case invokespecial idx =>
    rcases hx with ⟨a, r, x, y, h1, h2, h3, h4⟩ | ⟨t, m, n, as, b, r, h1, h2, h3, h4, h5, h6⟩
    · exact Or.inl ⟨a, r, x, y, h1, h2, h3, hP _ h4⟩
    · exact Or.inr ⟨t, m, n, as, b, r, h1, h2, h3, h4, h5, am_T_mono (fun v h q => ⟨q.1, hP _ q.2⟩) h6⟩
  all_goals exact False.elim hx
/-- one instruction -/
theorem am_r {pc len : Nat} {ls : List (Option Value)} {st : List Value} {h : am_H} {i : Instr} (hd : decode I.2.1 pc = .ok (i, len)) (hl : am_len i len = true) (hx : am_nx B cn (am_T B cn d) I (am_wp B cn (am_T B cn d) Q I) pc ls st h i) : am_wp B cn (am_T B cn d) Q I (pc, ls, st, h) :=
  fun P hP => hP _ ⟨i, len, hd, hl, Or.inl (am_nx_mono (fun F hF => hF P hP) hx)⟩
/-- the end -/
theorem am_rr {pc len : Nat} {ls : List (Option Value)} {st : List Value} {h : am_H} {i : Instr} (hd : decode I.2.1 pc = .ok (i, len)) (hl : am_len i len = true) (hx : am_re Q I st h i) : am_wp B cn (am_T B cn d) Q I (pc, ls, st, h) :=
  fun P hP => hP _ ⟨i, len, hd, hl, Or.inr hx⟩
end AMX
