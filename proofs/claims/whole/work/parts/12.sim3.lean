/-! the small machine's runs are runs of the JVM -/
section AMZ
variable {l : Launch} {B : am_B} {nm : Nat → String} {my : Nat → MethodName} {cl : List vw_C} {Ts NW : List Cond} {D : va_G} {DA : FieldType → ClassId} {sa : Nat → Nat} {base : Nat}
variable {I : am_I} {h0 : am_H} {d : Nat} {Q : Option Value → am_H → Prop} {Z : Option Value → am_H → State → Array Value → List Frame → State → Prop}
set_option maxHeartbeats 4000000 in
theorem am_nx_sim {pc len : Nat} {ls : List (Option Value)} {st : List Value} {h : am_H} {i : Instr} (hT : am_Tab B nm my cl Ts NW) (hB : ∀ i ty vs, B.2.2.2 i = some (ty, vs) → ∀ v ∈ vs, v.category = 1) (hS : am_Sim l B nm my cl Ts NW D DA sa base d) (hd : decode I.2.1 pc = .ok (i, len)) (hl : am_len i len = true)
    (hx : am_nx B nm (am_T B nm d) I (am_P l B nm cl Ts NW D DA sa base I h0 (d + 1) Q Z) pc ls st h i) : am_P l B nm cl Ts NW D DA sa base I h0 (d + 1) Q Z (pc, ls, st, h) := by
  cases i
  case iconst n =>
    obtain rfl : len = 1 := by simpa [am_len] using hl
    exact am_i_iconst hd hx
  case bipush n =>
    obtain rfl : len = 2 := by simpa [am_len] using hl
    exact am_i_bipush hd hx
  case sipush n =>
    obtain rfl : len = 3 := by simpa [am_len] using hl
    exact am_i_sipush hd hx
  case ldc idx =>
    obtain rfl : len = 2 := by simpa [am_len] using hl
    rcases hx with ⟨x, y, h1, h2⟩ | ⟨x, y, h1, h2⟩
    · exact am_i_ldc hT hd h1 h2
    · exact am_i_ldcM hT hd h1 h2
  case aconst_null =>
    obtain rfl : len = 1 := by simpa [am_len] using hl
    exact am_i_null hd hx
  case iload k =>
    obtain rfl : len = 2 := by simpa [am_len] using hl
    obtain ⟨x, h1, h2⟩ := hx
    exact am_i_iload hd h1 h2
  case iload_n k =>
    obtain rfl : len = 1 := by simpa [am_len] using hl
    obtain ⟨x, h1, h2⟩ := hx
    exact am_i_iload_n hd h1 h2
  case aload k =>
    obtain rfl : len = 2 := by simpa [am_len] using hl
    obtain ⟨x, h1, h2, h3⟩ := hx
    exact am_i_aload hd h1 h2 h3
  case aload_n k =>
    obtain rfl : len = 1 := by simpa [am_len] using hl
    obtain ⟨x, h1, h2, h3⟩ := hx
    exact am_i_aload_n hd h1 h2 h3
  case istore k =>
    obtain rfl : len = 2 := by simpa [am_len] using hl
    obtain ⟨x, rest, rfl, h1, h2⟩ := hx
    exact am_i_istore hd h1 h2
  case istore_n k =>
    obtain rfl : len = 1 := by simpa [am_len] using hl
    obtain ⟨x, rest, rfl, h1, h2⟩ := hx
    exact am_i_istore_n hd h1 h2
  case astore k =>
    obtain rfl : len = 2 := by simpa [am_len] using hl
    obtain ⟨x, rest, rfl, h1, h2, h3⟩ := hx
    exact am_i_astore hd h1 h2 h3
  case astore_n k =>
    obtain rfl : len = 1 := by simpa [am_len] using hl
    obtain ⟨x, rest, rfl, h1, h2, h3⟩ := hx
    exact am_i_astore_n hd h1 h2 h3
  case iinc k n =>
    obtain rfl : len = 3 := by simpa [am_len] using hl
    obtain ⟨x, h1, h2⟩ := hx
    exact am_i_iinc hd h1 h2
  case iadd =>
    obtain rfl : len = 1 := by simpa [am_len] using hl
    obtain ⟨x, y, rest, rfl, h1⟩ := hx
    exact am_i_iadd hd h1
  case isub =>
    obtain rfl : len = 1 := by simpa [am_len] using hl
    obtain ⟨x, y, rest, rfl, h1⟩ := hx
    exact am_i_isub hd h1
  case imul =>
    obtain rfl : len = 1 := by simpa [am_len] using hl
    obtain ⟨x, y, rest, rfl, h1⟩ := hx
    exact am_i_imul hd h1
  case iand =>
    obtain rfl : len = 1 := by simpa [am_len] using hl
    obtain ⟨x, y, rest, rfl, h1⟩ := hx
    exact am_i_iand hd h1
  case ishr =>
    obtain rfl : len = 1 := by simpa [am_len] using hl
    obtain ⟨x, y, rest, rfl, h1⟩ := hx
    exact am_i_ishr hd h1
  case iushr =>
    obtain rfl : len = 1 := by simpa [am_len] using hl
    obtain ⟨x, y, rest, rfl, h1⟩ := hx
    exact am_i_iushr hd h1
  case idiv =>
    obtain rfl : len = 1 := by simpa [am_len] using hl
    obtain ⟨x, y, rest, rfl, h1, h2⟩ := hx
    exact am_i_idiv h1 hd h2
  case i2b =>
    obtain rfl : len = 1 := by simpa [am_len] using hl
    obtain ⟨x, rest, rfl, h1⟩ := hx
    exact am_i_i2b hd h1
  case dup =>
    obtain rfl : len = 1 := by simpa [am_len] using hl
    obtain ⟨v, rest, rfl, h1⟩ := hx
    exact am_i_dup hd h1
  case dup_x1 =>
    obtain rfl : len = 1 := by simpa [am_len] using hl
    obtain ⟨v, w, rest, rfl, h1⟩ := hx
    exact am_i_dup_x1 hd h1
  case dup2 =>
    obtain rfl : len = 1 := by simpa [am_len] using hl
    obtain ⟨v, w, rest, rfl, h1⟩ := hx
    exact am_i_dup2 hd h1
  case pop =>
    obtain rfl : len = 1 := by simpa [am_len] using hl
    obtain ⟨v, rest, rfl, h1⟩ := hx
    exact am_i_pop hd h1
  case goto off =>
    obtain rfl : len = 3 := by simpa [am_len] using hl
    obtain ⟨tgt, h1, h2⟩ := hx
    exact am_i_goto hd h1 h2
  case ifCond c off =>
    obtain rfl : len = 3 := by simpa [am_len] using hl
    cases c
    case eq =>
      obtain ⟨x, rest, rfl, tgt, h1, h2, h3⟩ := hx
      exact am_i_c1eq hd h1 h2 h3
    case ne =>
      obtain ⟨x, rest, rfl, tgt, h1, h2, h3⟩ := hx
      exact am_i_c1ne hd h1 h2 h3
    case lt =>
      obtain ⟨x, rest, rfl, tgt, h1, h2, h3⟩ := hx
      exact am_i_c1lt hd h1 h2 h3
    case ge =>
      obtain ⟨x, rest, rfl, tgt, h1, h2, h3⟩ := hx
      exact am_i_c1ge hd h1 h2 h3
    case gt =>
      obtain ⟨x, rest, rfl, tgt, h1, h2, h3⟩ := hx
      exact am_i_c1gt hd h1 h2 h3
    case le =>
      obtain ⟨x, rest, rfl, tgt, h1, h2, h3⟩ := hx
      exact am_i_c1le hd h1 h2 h3
  case if_icmp c off =>
    obtain rfl : len = 3 := by simpa [am_len] using hl
    cases c
    case eq =>
      obtain ⟨x, y, rest, rfl, tgt, h1, h2, h3⟩ := hx
      exact am_i_c2eq hd h1 h2 h3
    case ne =>
      obtain ⟨x, y, rest, rfl, tgt, h1, h2, h3⟩ := hx
      exact am_i_c2ne hd h1 h2 h3
    case lt =>
      obtain ⟨x, y, rest, rfl, tgt, h1, h2, h3⟩ := hx
      exact am_i_c2lt hd h1 h2 h3
    case ge =>
      obtain ⟨x, y, rest, rfl, tgt, h1, h2, h3⟩ := hx
      exact am_i_c2ge hd h1 h2 h3
    case gt =>
      obtain ⟨x, y, rest, rfl, tgt, h1, h2, h3⟩ := hx
      exact am_i_c2gt hd h1 h2 h3
    case le =>
      obtain ⟨x, y, rest, rfl, tgt, h1, h2, h3⟩ := hx
      exact am_i_c2le hd h1 h2 h3
  case if_acmp c off =>
    obtain rfl : len = 3 := by simpa [am_len] using hl
    cases c
    case eq =>
      obtain ⟨v, w, rest, rfl, h0, tgt, h1, h2, h3⟩ := hx
      exact am_i_acmpeq hd h0 h1 h2 h3
    case ne =>
      obtain ⟨v, w, rest, rfl, h0, tgt, h1, h2, h3⟩ := hx
      exact am_i_acmpne hd h0 h1 h2 h3
  case ifnull off =>
    obtain rfl : len = 3 := by simpa [am_len] using hl
    obtain ⟨v, rest, rfl, h0, tgt, h1, h2, h3⟩ := hx
    exact am_i_ifnull hd h0 h1 h2 h3
  case ifnonnull off =>
    obtain rfl : len = 3 := by simpa [am_len] using hl
    obtain ⟨v, rest, rfl, h0, tgt, h1, h2, h3⟩ := hx
    exact am_i_ifnonnull hd h0 h1 h2 h3
  case tableswitch a b c e =>
    obtain ⟨x, rest, rfl, tgt, h1, h2⟩ := hx
    exact am_i_tableswitch hd h1 h2
  case lookupswitch a b =>
    obtain ⟨x, rest, rfl, h1, tgt, h2, h3⟩ := hx
    exact am_i_lookupswitch hd h1 h2 h3
  case getfield idx =>
    obtain rfl : len = 3 := by simpa [am_len] using hl
    obtain ⟨a, rest, t, c, k, v, rfl, h1, h2, h3, h4⟩ := hx
    exact am_i_getfield hT hd h1 h2 h3 h4
  case putfield idx =>
    obtain rfl : len = 3 := by simpa [am_len] using hl
    obtain ⟨a, rest, c, k, v, w, ts, ty, fin, rfl, h1, h2, h3, h4, h5, h6, h7⟩ := hx
    exact am_i_putfield hT hd h1 h2 h3 h4 h5 h6 h7
  case getstatic idx =>
    obtain rfl : len = 3 := by simpa [am_len] using hl
    obtain ⟨j, y, h1, h2⟩ := hx
    exact am_i_getstatic hd h1 h2
  case arraylength =>
    obtain rfl : len = 1 := by simpa [am_len] using hl
    obtain ⟨r, rest, ty, vs, rfl, h1, h2, h3⟩ := hx
    exact am_i_len hd h1 h2 h3
  case iaload =>
    obtain rfl : len = 1 := by simpa [am_len] using hl
    obtain ⟨j, r, rest, ty, vs, v, rfl, h1, h2, h3, h4, h5⟩ := hx
    exact am_i_ald hB hd (Or.inl ⟨rfl, h2⟩) h1 h3 h4 h5
  case baload =>
    obtain rfl : len = 1 := by simpa [am_len] using hl
    obtain ⟨j, r, rest, ty, vs, v, rfl, h1, h2, h3, h4, h5⟩ := hx
    exact am_i_ald hB hd (Or.inr (Or.inl ⟨rfl, h2⟩)) h1 h3 h4 h5
  case aaload =>
    obtain rfl : len = 1 := by simpa [am_len] using hl
    obtain ⟨j, r, rest, ty, vs, v, rfl, h1, h2, h3, h4, h5⟩ := hx
    exact am_i_ald hB hd (Or.inr (Or.inr ⟨rfl, h2⟩)) h1 h3 h4 h5
  case iastore =>
    obtain rfl : len = 1 := by simpa [am_len] using hl
    obtain ⟨w, j, a, rest, ty, vs, v, rfl, h1, ⟨rfl, rfl, x, rfl⟩, h3, h4, h5⟩ := hx
    exact am_i_iast hd h1 h3 h4 h5
  case bastore =>
    obtain rfl : len = 1 := by simpa [am_len] using hl
    obtain ⟨w, j, a, rest, ty, vs, v, rfl, h1, ⟨x, rfl, ⟨rfl, rfl⟩ | ⟨rfl, rfl⟩⟩, h3, h4, h5⟩ := hx
    · exact am_i_bast hd h1 h3 h4 h5
    · exact am_i_zast hd h1 h3 h4 h5
  case aastore =>
    obtain rfl : len = 1 := by simpa [am_len] using hl
    obtain ⟨w, j, a, rest, ty, vs, v, rfl, h1, ⟨rfl, C, h6, rfl, rfl | ⟨b, c, fs, rfl, h7, h8⟩⟩, h3, h4, h5⟩ := hx
    · exact am_i_aastN hd h6 h1 h3 h4 h5
    · exact am_i_aast hT hd h6 h1 h7 h8 h3 h4 h5
  case new idx =>
    obtain rfl : len = 3 := by simpa [am_len] using hl
    obtain ⟨c, y, ts, h1, h2, h3, h4⟩ := hx
    exact am_i_new hT hd h1 h2 h4 h3
  case newarray at_ =>
    obtain rfl : len = 2 := by simpa [am_len] using hl
    obtain ⟨n, rest, ty, rfl, h1, h2, h3, h4, h5⟩ := hx
    exact am_i_newarray hT hd h1 h2 h3 h4 h5
  case anewarray idx =>
    obtain rfl : len = 3 := by simpa [am_len] using hl
    obtain ⟨n, rest, c, y, rfl, h1, h2, h3, h4, h5⟩ := hx
    exact am_i_anewarray hT hd h1 h2 h3 h4 h5
  case checkcast idx =>
    obtain rfl : len = 3 := by simpa [am_len] using hl
    obtain ⟨v, rest, c, y, rfl, h1, h2, h3⟩ := hx
    exact am_i_cast hT hd h1 h2 h3
  case invokevirtual idx =>
    obtain rfl : len = 3 := by simpa [am_len] using hl
    rcases hx with ⟨a, rest, vs, x, y, h1, rfl, h2, h3, h4⟩ | ⟨m, n, as, b, rest, J, fs, h1, h2, rfl, h3, h4, h5, h6⟩
    · exact am_i_getClass hT (Nat.succ_le_succ (Nat.zero_le _)) hd h1 h2 h3 h4
    · exact am_i_virtual hT hS hd h1 h2 h3 h4 h5 h6
  case invokestatic idx =>
    obtain rfl : len = 3 := by simpa [am_len] using hl
    rcases hx with ⟨n, dp, a, sp, b, rest, ty, vs, ws, x, y, h1, rfl, h2, h3, h4, h5, h6, h7, h8, h9, h10, h11⟩ | ⟨a, b, rest, x, y, h1, rfl, h2, h3⟩ | ⟨a, b, rest, x, y, h1, rfl, h2, h3⟩ | ⟨m, n, as, rest, h1, h2, rfl, h3, h4⟩
    · exact am_i_copy hT (Nat.succ_le_succ (Nat.zero_le _)) hd h1 h2 h3 h4 h5 h6 h7 h8 h9 h10 h11
    · exact am_i_mmax hT (Nat.succ_le_succ (Nat.zero_le _)) hd h1 h2 h3
    · exact am_i_mmin hT (Nat.succ_le_succ (Nat.zero_le _)) hd h1 h2 h3
    · exact am_i_static hT hS hd h1 h2 h3 h4
  case invokespecial idx =>
    obtain rfl : len = 3 := by simpa [am_len] using hl
    rcases hx with ⟨a, rest, x, y, h1, rfl, h2, h3⟩ | ⟨t, m, n, as, b, rest, h1, h2, h3, rfl, h4, h5⟩
    · exact am_i_objInit hT (Nat.succ_le_succ (Nat.zero_le _)) hd h1 h2 h3
    · exact am_i_special hT hS hd h1 h2 h3 h4 h5
  all_goals exact False.elim hx
end AMZ
