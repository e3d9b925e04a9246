/-! a call that ends with Q shows that Q holds of something (by program: wip/whole/gen/c48.py) -/
section AME
variable {B : am_B} {cn : Nat → String} {d : Nat} {I : am_I}
theorem am_nx_C {C : Prop} {pc : Nat} {ls : List (Option Value)} {st : List Value} {h : am_H} {i : Instr} (hT : ∀ m as h, am_T B cn d m as h (fun _ _ => C) → C) (hx : am_nx B cn (am_T B cn d) I (fun _ => C) pc ls st h i) : C := by
  have hbr : ∀ {pc ls st h off D}, am_br (fun _ => C) pc ls st h off D → C := fun {_ _ _ _ _ D} ⟨t, a, b, c⟩ => (Classical.em D).elim b c
  have hc1 : ∀ {pc ls st h off D}, am_c1 (fun _ => C) pc ls st h off D → C := fun ⟨x, r, a, b⟩ => hbr b
  have hc2 : ∀ {pc ls st h off D}, am_c2 (fun _ => C) pc ls st h off D → C := fun ⟨x, y, r, a, b⟩ => hbr b
  have hb2 : ∀ {pc ls st h f}, am_b2 (fun _ => C) pc ls st h f → C := fun ⟨x, y, r, a, b⟩ => b
  have had : ∀ {pc ls st h ok}, am_ald B (fun _ => C) pc ls st h ok → C := fun ⟨j, r, q, ty, vs, v, a, b, c, e, f, g⟩ => g
  have hat : ∀ {pc ls st h ok}, am_ast (fun _ => C) pc ls st h ok → C := fun ⟨w, j, q, r, ty, vs, v, a, b, c, e, f, g⟩ => g
  cases i
  case iconst n =>
    exact hx
  case bipush n =>
    exact hx
  case sipush n =>
    exact hx
  case aconst_null =>
    exact hx
  case ldc idx =>
    rcases hx with ⟨x, y, h1, h2⟩ | ⟨x, y, h1, h2⟩
    · exact h2
    · exact h2
  case iload k =>
    obtain ⟨x, h1, h2⟩ := hx
    exact h2
  case iload_n k =>
    obtain ⟨x, h1, h2⟩ := hx
    exact h2
  case aload k =>
    obtain ⟨x, h1, h2, h3⟩ := hx
    exact h3
  case aload_n k =>
    obtain ⟨x, h1, h2, h3⟩ := hx
    exact h3
  case istore k =>
    obtain ⟨x, r, h1, h2, h3⟩ := hx
    exact h3
  case istore_n k =>
    obtain ⟨x, r, h1, h2, h3⟩ := hx
    exact h3
  case astore k =>
    obtain ⟨x, r, h1, h2, h3, h4⟩ := hx
    exact h4
  case astore_n k =>
    obtain ⟨x, r, h1, h2, h3, h4⟩ := hx
    exact h4
  case iinc k n =>
    obtain ⟨x, h1, h2⟩ := hx
    exact h2
  case iadd =>
    obtain ⟨_, _, _, _, bb⟩ := hx
    exact bb
  case isub =>
    obtain ⟨_, _, _, _, bb⟩ := hx
    exact bb
  case imul =>
    obtain ⟨_, _, _, _, bb⟩ := hx
    exact bb
  case iand =>
    obtain ⟨_, _, _, _, bb⟩ := hx
    exact bb
  case ishr =>
    obtain ⟨_, _, _, _, bb⟩ := hx
    exact bb
  case iushr =>
    obtain ⟨_, _, _, _, bb⟩ := hx
    exact bb
  case idiv =>
    obtain ⟨x, y, r, h1, h2, h3⟩ := hx
    exact h3
  case i2b =>
    obtain ⟨x, r, h1, h2⟩ := hx
    exact h2
  case dup =>
    obtain ⟨x, r, h1, h2⟩ := hx
    exact h2
  case pop =>
    obtain ⟨x, r, h1, h2⟩ := hx
    exact h2
  case dup_x1 =>
    obtain ⟨x, y, r, h1, h2⟩ := hx
    exact h2
  case dup2 =>
    obtain ⟨x, y, r, h1, h2⟩ := hx
    exact h2
  case goto off =>
    obtain ⟨t, h1, h2⟩ := hx
    exact h2
  case ifCond c off =>
    cases c <;> exact hc1 hx
  case if_icmp c off =>
    cases c <;> exact hc2 hx
  case ifnull off =>
    obtain ⟨v, r, h1, h2, h3⟩ := hx
    exact hbr h3
  case ifnonnull off =>
    obtain ⟨v, r, h1, h2, h3⟩ := hx
    exact hbr h3
  case if_acmp c off =>
    cases c
    · obtain ⟨v, w, r, h1, h2, h3⟩ := hx
      exact hbr h3
    · obtain ⟨v, w, r, h1, h2, h3⟩ := hx
      exact hbr h3
  case tableswitch a b c e =>
    obtain ⟨x, r, h1, t, h2, h3⟩ := hx
    exact h3
  case lookupswitch a b =>
    obtain ⟨x, r, h1, h2, t, h3, h4⟩ := hx
    exact h4
  case getfield idx =>
    obtain ⟨a, r, t, c, k, v, h1, h2, h3, h4, h5⟩ := hx
    exact h5
  case putfield idx =>
    obtain ⟨a, r, c, k, v, w, ts, ty, fin, h1, h2, h3, h4, h5, h6, h7, h8⟩ := hx
    exact h8
  case getstatic idx =>
    obtain ⟨j, y, h1, h2⟩ := hx
    exact h2
  case arraylength =>
    obtain ⟨r, q, ty, vs, h1, h2, h3, h4⟩ := hx
    exact h4
  case iaload =>
    exact @had pc ls st h _ hx
  case baload =>
    exact @had pc ls st h _ hx
  case aaload =>
    exact @had pc ls st h _ hx
  case iastore =>
    exact @hat pc ls st h _ hx
  case bastore =>
    exact @hat pc ls st h _ hx
  case aastore =>
    exact @hat pc ls st h _ hx
  case new idx =>
    obtain ⟨c, y, ts, h1, h2, h3, h4⟩ := hx
    exact h4
  case newarray at_ =>
    obtain ⟨n, r, ty, h1, h2, h3, h4, h5, h6⟩ := hx
    exact h6
  case anewarray idx =>
    obtain ⟨n, r, c, y, h1, h2, h3, h4, h5, h6⟩ := hx
    exact h6
  case checkcast idx =>
    obtain ⟨v, r, c, y, h1, h2, h3, h4⟩ := hx
    exact h4
  case invokevirtual idx =>
    rcases hx with ⟨a, r, vs, x, y, h1, h2, h3, h4, h5⟩ | ⟨m, n, as, b, r, J, fs, h1, h2, h3, h4, h5, h6, h7⟩
    · exact h5
    · exact hT _ _ _ h7
  case invokestatic idx =>
    rcases hx with ⟨n, dp, a, sp, b, r, ty, vs, ws, x, y, h1, h2, h3, h4, h5, h6, h7, h8, h9, h10, h11, h12⟩ | ⟨a, b, r, x, y, h1, h2, h3, h4⟩ | ⟨a, b, r, x, y, h1, h2, h3, h4⟩ | ⟨m, n, as, r, h1, h2, h3, h4, h5⟩
    · exact h12
    · exact h4
    · exact h4
    · exact hT _ _ _ h5
  case invokespecial idx =>
    rcases hx with ⟨a, r, x, y, h1, h2, h3, h4⟩ | ⟨t, m, n, as, b, r, h1, h2, h3, h4, h5, h6⟩
    · exact h4
    · exact hT _ _ _ (am_T_mono (fun _ _ q => q.2) h6)
  all_goals exact False.elim hx
theorem am_T_C {C : Prop} : ∀ (d m : Nat) (as : List Value) (h : am_H), am_T B cn d m as h (fun _ _ => C) → C := by
  intro d
  induction d with
  | zero => intro m as h q; exact q.elim
  | succ d ih =>
    intro m as h q
    obtain ⟨I, _, _, w⟩ := q
    refine w (fun _ => C) (fun F hF => ?_)
    obtain ⟨i, len, hd, hl, hx⟩ := hF
    rcases hx with hx | hx
    · exact am_nx_C (d := d) (fun m as h => ih m as h) hx
    · obtain ⟨v, _, _, c, _⟩ := hx
      exact c
theorem am_T_ex {m : Nat} {as : List Value} {h : am_H} {Q : Option Value → am_H → Prop} (ht : am_T B cn d m as h Q) : ∃ v h', Q v h' := am_T_C d m as h (am_T_mono (fun v h' q => ⟨v, h', q⟩) ht)
end AME
