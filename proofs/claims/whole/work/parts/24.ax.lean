/-! the same rules over the heap itself -/
section AXR
variable {xs : List Int32} {d : Nat} {Q : Option Value → am_H → Prop} {I : am_I} {pc : Nat} {ls : List (Option Value)} {st rest : List Value} {h : am_H}
theorem ax_iconst {n : Int} {v : Int32} (hd : decode I.2.1 pc = .ok (.iconst n, 1)) (hv : Int32.ofInt n = v) (k : am_wp (am_Bx xs) am_nm (am_T (am_Bx xs) am_nm d) Q I (pc + 1, ls, .int v :: st, h)) : am_wp (am_Bx xs) am_nm (am_T (am_Bx xs) am_nm d) Q I (pc, ls, st, h) :=
  am_r hd rfl (show am_nx _ _ _ _ _ _ _ _ _ _ from by subst hv; exact k)
theorem ax_bipush {n : Int} {v : Int32} (hd : decode I.2.1 pc = .ok (.bipush n, 2)) (hv : (Int8.ofInt n).toInt32 = v) (k : am_wp (am_Bx xs) am_nm (am_T (am_Bx xs) am_nm d) Q I (pc + 2, ls, .int v :: st, h)) : am_wp (am_Bx xs) am_nm (am_T (am_Bx xs) am_nm d) Q I (pc, ls, st, h) :=
  am_r hd rfl (show am_nx _ _ _ _ _ _ _ _ _ _ from by subst hv; exact k)
theorem ax_sipush {n : Int} {v : Int32} (hd : decode I.2.1 pc = .ok (.sipush n, 3)) (hv : (Int16.ofInt n).toInt32 = v) (k : am_wp (am_Bx xs) am_nm (am_T (am_Bx xs) am_nm d) Q I (pc + 3, ls, .int v :: st, h)) : am_wp (am_Bx xs) am_nm (am_T (am_Bx xs) am_nm d) Q I (pc, ls, st, h) :=
  am_r hd rfl (show am_nx _ _ _ _ _ _ _ _ _ _ from by subst hv; exact k)
theorem ax_null  (hd : decode I.2.1 pc = .ok (.aconst_null, 1))  (k : am_wp (am_Bx xs) am_nm (am_T (am_Bx xs) am_nm d) Q I (pc + 1, ls, .null :: st, h)) : am_wp (am_Bx xs) am_nm (am_T (am_Bx xs) am_nm d) Q I (pc, ls, st, h) :=
  am_r hd rfl (show am_nx _ _ _ _ _ _ _ _ _ _ from k)
theorem ax_iload {i : Nat} {x : Int32} (hd : decode I.2.1 pc = .ok (.iload i, 2)) (hx : ls[i]? = some (some (.int x))) (k : am_wp (am_Bx xs) am_nm (am_T (am_Bx xs) am_nm d) Q I (pc + 2, ls, .int x :: st, h)) : am_wp (am_Bx xs) am_nm (am_T (am_Bx xs) am_nm d) Q I (pc, ls, st, h) :=
  am_r hd rfl (show am_nx _ _ _ _ _ _ _ _ _ _ from ⟨x, hx, k⟩)
theorem ax_iload_n {i : Fin 4} {x : Int32} (hd : decode I.2.1 pc = .ok (.iload_n i, 1)) (hx : ls[i.val]? = some (some (.int x))) (k : am_wp (am_Bx xs) am_nm (am_T (am_Bx xs) am_nm d) Q I (pc + 1, ls, .int x :: st, h)) : am_wp (am_Bx xs) am_nm (am_T (am_Bx xs) am_nm d) Q I (pc, ls, st, h) :=
  am_r hd rfl (show am_nx _ _ _ _ _ _ _ _ _ _ from ⟨x, hx, k⟩)
theorem ax_aload {i : Nat} {v : Value} (hd : decode I.2.1 pc = .ok (.aload i, 2)) (hx : ls[i]? = some (some v)) (hv : am_isR v) (k : am_wp (am_Bx xs) am_nm (am_T (am_Bx xs) am_nm d) Q I (pc + 2, ls, v :: st, h)) : am_wp (am_Bx xs) am_nm (am_T (am_Bx xs) am_nm d) Q I (pc, ls, st, h) :=
  am_r hd rfl (show am_nx _ _ _ _ _ _ _ _ _ _ from ⟨_, hx, hv, k⟩)
theorem ax_aload_n {i : Fin 4} {v : Value} (hd : decode I.2.1 pc = .ok (.aload_n i, 1)) (hx : ls[i.val]? = some (some v)) (hv : am_isR v) (k : am_wp (am_Bx xs) am_nm (am_T (am_Bx xs) am_nm d) Q I (pc + 1, ls, v :: st, h)) : am_wp (am_Bx xs) am_nm (am_T (am_Bx xs) am_nm d) Q I (pc, ls, st, h) :=
  am_r hd rfl (show am_nx _ _ _ _ _ _ _ _ _ _ from ⟨_, hx, hv, k⟩)
theorem ax_istore {i : Nat} {x : Int32} (hd : decode I.2.1 pc = .ok (.istore i, 2)) (hx : i < ls.length) (k : am_wp (am_Bx xs) am_nm (am_T (am_Bx xs) am_nm d) Q I (pc + 2, (ls.set i (some (.int x))), st, h)) : am_wp (am_Bx xs) am_nm (am_T (am_Bx xs) am_nm d) Q I (pc, ls, .int x :: st, h) :=
  am_r hd rfl (show am_nx _ _ _ _ _ _ _ _ _ _ from ⟨x, st, rfl, hx, k⟩)
theorem ax_istore_n {i : Fin 4} {x : Int32} (hd : decode I.2.1 pc = .ok (.istore_n i, 1)) (hx : i.val < ls.length) (k : am_wp (am_Bx xs) am_nm (am_T (am_Bx xs) am_nm d) Q I (pc + 1, (ls.set i.val (some (.int x))), st, h)) : am_wp (am_Bx xs) am_nm (am_T (am_Bx xs) am_nm d) Q I (pc, ls, .int x :: st, h) :=
  am_r hd rfl (show am_nx _ _ _ _ _ _ _ _ _ _ from ⟨x, st, rfl, hx, k⟩)
theorem ax_astore {i : Nat} {v : Value} (hd : decode I.2.1 pc = .ok (.astore i, 2)) (hx : i < ls.length) (hv : am_isR v) (k : am_wp (am_Bx xs) am_nm (am_T (am_Bx xs) am_nm d) Q I (pc + 2, (ls.set i (some v)), st, h)) : am_wp (am_Bx xs) am_nm (am_T (am_Bx xs) am_nm d) Q I (pc, ls, v :: st, h) :=
  am_r hd rfl (show am_nx _ _ _ _ _ _ _ _ _ _ from ⟨v, st, rfl, hv, hx, k⟩)
theorem ax_astore_n {i : Fin 4} {v : Value} (hd : decode I.2.1 pc = .ok (.astore_n i, 1)) (hx : i.val < ls.length) (hv : am_isR v) (k : am_wp (am_Bx xs) am_nm (am_T (am_Bx xs) am_nm d) Q I (pc + 1, (ls.set i.val (some v)), st, h)) : am_wp (am_Bx xs) am_nm (am_T (am_Bx xs) am_nm d) Q I (pc, ls, v :: st, h) :=
  am_r hd rfl (show am_nx _ _ _ _ _ _ _ _ _ _ from ⟨v, st, rfl, hv, hx, k⟩)
theorem ax_iinc {i : Nat} {n : Int} {x v : Int32} (hd : decode I.2.1 pc = .ok (.iinc i n, 3)) (hx : ls[i]? = some (some (.int x))) (hv : x + Int32.ofInt n = v) (k : am_wp (am_Bx xs) am_nm (am_T (am_Bx xs) am_nm d) Q I (pc + 3, (ls.set i (some (.int v))), st, h)) : am_wp (am_Bx xs) am_nm (am_T (am_Bx xs) am_nm d) Q I (pc, ls, st, h) :=
  am_r hd rfl (show am_nx _ _ _ _ _ _ _ _ _ _ from ⟨x, hx, by subst hv; exact k⟩)
theorem ax_iadd {x y : Int32} (hd : decode I.2.1 pc = .ok (.iadd, 1))  (k : am_wp (am_Bx xs) am_nm (am_T (am_Bx xs) am_nm d) Q I (pc + 1, ls, .int (x + y) :: st, h)) : am_wp (am_Bx xs) am_nm (am_T (am_Bx xs) am_nm d) Q I (pc, ls, .int y :: .int x :: st, h) :=
  am_r hd rfl (show am_nx _ _ _ _ _ _ _ _ _ _ from ⟨x, y, st, rfl, k⟩)
theorem ax_isub {x y : Int32} (hd : decode I.2.1 pc = .ok (.isub, 1))  (k : am_wp (am_Bx xs) am_nm (am_T (am_Bx xs) am_nm d) Q I (pc + 1, ls, .int (x - y) :: st, h)) : am_wp (am_Bx xs) am_nm (am_T (am_Bx xs) am_nm d) Q I (pc, ls, .int y :: .int x :: st, h) :=
  am_r hd rfl (show am_nx _ _ _ _ _ _ _ _ _ _ from ⟨x, y, st, rfl, k⟩)
theorem ax_imul {x y : Int32} (hd : decode I.2.1 pc = .ok (.imul, 1))  (k : am_wp (am_Bx xs) am_nm (am_T (am_Bx xs) am_nm d) Q I (pc + 1, ls, .int (x * y) :: st, h)) : am_wp (am_Bx xs) am_nm (am_T (am_Bx xs) am_nm d) Q I (pc, ls, .int y :: .int x :: st, h) :=
  am_r hd rfl (show am_nx _ _ _ _ _ _ _ _ _ _ from ⟨x, y, st, rfl, k⟩)
theorem ax_iand {x y : Int32} (hd : decode I.2.1 pc = .ok (.iand, 1))  (k : am_wp (am_Bx xs) am_nm (am_T (am_Bx xs) am_nm d) Q I (pc + 1, ls, .int (x &&& y) :: st, h)) : am_wp (am_Bx xs) am_nm (am_T (am_Bx xs) am_nm d) Q I (pc, ls, .int y :: .int x :: st, h) :=
  am_r hd rfl (show am_nx _ _ _ _ _ _ _ _ _ _ from ⟨x, y, st, rfl, k⟩)
theorem ax_ishr {x y : Int32} (hd : decode I.2.1 pc = .ok (.ishr, 1))  (k : am_wp (am_Bx xs) am_nm (am_T (am_Bx xs) am_nm d) Q I (pc + 1, ls, .int (x >>> (y &&& 31)) :: st, h)) : am_wp (am_Bx xs) am_nm (am_T (am_Bx xs) am_nm d) Q I (pc, ls, .int y :: .int x :: st, h) :=
  am_r hd rfl (show am_nx _ _ _ _ _ _ _ _ _ _ from ⟨x, y, st, rfl, k⟩)
theorem ax_iushr {x y : Int32} (hd : decode I.2.1 pc = .ok (.iushr, 1))  (k : am_wp (am_Bx xs) am_nm (am_T (am_Bx xs) am_nm d) Q I (pc + 1, ls, .int ((x.toUInt32 >>> (y.toUInt32 &&& Int32.toUInt32 31)).toInt32) :: st, h)) : am_wp (am_Bx xs) am_nm (am_T (am_Bx xs) am_nm d) Q I (pc, ls, .int y :: .int x :: st, h) :=
  am_r hd rfl (show am_nx _ _ _ _ _ _ _ _ _ _ from ⟨x, y, st, rfl, k⟩)
theorem ax_idiv {x y : Int32} (hd : decode I.2.1 pc = .ok (.idiv, 1)) (hy : ¬ y = 0) (k : am_wp (am_Bx xs) am_nm (am_T (am_Bx xs) am_nm d) Q I (pc + 1, ls, .int (x / y) :: st, h)) : am_wp (am_Bx xs) am_nm (am_T (am_Bx xs) am_nm d) Q I (pc, ls, .int y :: .int x :: st, h) :=
  am_r hd rfl (show am_nx _ _ _ _ _ _ _ _ _ _ from ⟨x, y, st, rfl, hy, k⟩)
theorem ax_i2b {x : Int32} (hd : decode I.2.1 pc = .ok (.i2b, 1))  (k : am_wp (am_Bx xs) am_nm (am_T (am_Bx xs) am_nm d) Q I (pc + 1, ls, .int x.toInt8.toInt32 :: st, h)) : am_wp (am_Bx xs) am_nm (am_T (am_Bx xs) am_nm d) Q I (pc, ls, .int x :: st, h) :=
  am_r hd rfl (show am_nx _ _ _ _ _ _ _ _ _ _ from ⟨x, st, rfl, k⟩)
theorem ax_dup {v : Value} (hd : decode I.2.1 pc = .ok (.dup, 1))  (k : am_wp (am_Bx xs) am_nm (am_T (am_Bx xs) am_nm d) Q I (pc + 1, ls, v :: v :: st, h)) : am_wp (am_Bx xs) am_nm (am_T (am_Bx xs) am_nm d) Q I (pc, ls, v :: st, h) :=
  am_r hd rfl (show am_nx _ _ _ _ _ _ _ _ _ _ from ⟨v, st, rfl, k⟩)
theorem ax_dup_x1 {v w : Value} (hd : decode I.2.1 pc = .ok (.dup_x1, 1))  (k : am_wp (am_Bx xs) am_nm (am_T (am_Bx xs) am_nm d) Q I (pc + 1, ls, v :: w :: v :: st, h)) : am_wp (am_Bx xs) am_nm (am_T (am_Bx xs) am_nm d) Q I (pc, ls, v :: w :: st, h) :=
  am_r hd rfl (show am_nx _ _ _ _ _ _ _ _ _ _ from ⟨v, w, st, rfl, k⟩)
theorem ax_dup2 {v w : Value} (hd : decode I.2.1 pc = .ok (.dup2, 1))  (k : am_wp (am_Bx xs) am_nm (am_T (am_Bx xs) am_nm d) Q I (pc + 1, ls, v :: w :: v :: w :: st, h)) : am_wp (am_Bx xs) am_nm (am_T (am_Bx xs) am_nm d) Q I (pc, ls, v :: w :: st, h) :=
  am_r hd rfl (show am_nx _ _ _ _ _ _ _ _ _ _ from ⟨v, w, st, rfl, k⟩)
theorem ax_pop {v : Value} (hd : decode I.2.1 pc = .ok (.pop, 1))  (k : am_wp (am_Bx xs) am_nm (am_T (am_Bx xs) am_nm d) Q I (pc + 1, ls, st, h)) : am_wp (am_Bx xs) am_nm (am_T (am_Bx xs) am_nm d) Q I (pc, ls, v :: st, h) :=
  am_r hd rfl (show am_nx _ _ _ _ _ _ _ _ _ _ from ⟨v, st, rfl, k⟩)
theorem ax_goto {off : Int} {tgt : Nat} (hd : decode I.2.1 pc = .ok (.goto off, 3)) (ht : (pc : Int) + off = (tgt : Int)) (k : am_wp (am_Bx xs) am_nm (am_T (am_Bx xs) am_nm d) Q I (tgt, ls, st, h)) : am_wp (am_Bx xs) am_nm (am_T (am_Bx xs) am_nm d) Q I (pc, ls, st, h) :=
  am_r hd rfl (show am_nx _ _ _ _ _ _ _ _ _ _ from ⟨tgt, ht, k⟩)
theorem ax_if_eq {x : Int32} {off : Int} {tgt : Nat} (hd : decode I.2.1 pc = .ok (.ifCond .eq off, 3)) (ht : (pc : Int) + off = (tgt : Int)) (k1 : x = 0 → am_wp (am_Bx xs) am_nm (am_T (am_Bx xs) am_nm d) Q I (tgt, ls, st, h)) (k2 : ¬ (x = 0) → am_wp (am_Bx xs) am_nm (am_T (am_Bx xs) am_nm d) Q I (pc + 3, ls, st, h)) : am_wp (am_Bx xs) am_nm (am_T (am_Bx xs) am_nm d) Q I (pc, ls, .int x :: st, h) :=
  am_r hd rfl (show am_nx _ _ _ _ _ _ _ _ _ _ from ⟨x, st, rfl, tgt, ht, k1, k2⟩)
theorem ax_icmp_eq {x y : Int32} {off : Int} {tgt : Nat} (hd : decode I.2.1 pc = .ok (.if_icmp .eq off, 3)) (ht : (pc : Int) + off = (tgt : Int)) (k1 : x = y → am_wp (am_Bx xs) am_nm (am_T (am_Bx xs) am_nm d) Q I (tgt, ls, st, h)) (k2 : ¬ (x = y) → am_wp (am_Bx xs) am_nm (am_T (am_Bx xs) am_nm d) Q I (pc + 3, ls, st, h)) : am_wp (am_Bx xs) am_nm (am_T (am_Bx xs) am_nm d) Q I (pc, ls, .int y :: .int x :: st, h) :=
  am_r hd rfl (show am_nx _ _ _ _ _ _ _ _ _ _ from ⟨x, y, st, rfl, tgt, ht, k1, k2⟩)
theorem ax_if_ne {x : Int32} {off : Int} {tgt : Nat} (hd : decode I.2.1 pc = .ok (.ifCond .ne off, 3)) (ht : (pc : Int) + off = (tgt : Int)) (k1 : ¬ x = 0 → am_wp (am_Bx xs) am_nm (am_T (am_Bx xs) am_nm d) Q I (tgt, ls, st, h)) (k2 : ¬ (¬ x = 0) → am_wp (am_Bx xs) am_nm (am_T (am_Bx xs) am_nm d) Q I (pc + 3, ls, st, h)) : am_wp (am_Bx xs) am_nm (am_T (am_Bx xs) am_nm d) Q I (pc, ls, .int x :: st, h) :=
  am_r hd rfl (show am_nx _ _ _ _ _ _ _ _ _ _ from ⟨x, st, rfl, tgt, ht, k1, k2⟩)
theorem ax_icmp_ne {x y : Int32} {off : Int} {tgt : Nat} (hd : decode I.2.1 pc = .ok (.if_icmp .ne off, 3)) (ht : (pc : Int) + off = (tgt : Int)) (k1 : ¬ x = y → am_wp (am_Bx xs) am_nm (am_T (am_Bx xs) am_nm d) Q I (tgt, ls, st, h)) (k2 : ¬ (¬ x = y) → am_wp (am_Bx xs) am_nm (am_T (am_Bx xs) am_nm d) Q I (pc + 3, ls, st, h)) : am_wp (am_Bx xs) am_nm (am_T (am_Bx xs) am_nm d) Q I (pc, ls, .int y :: .int x :: st, h) :=
  am_r hd rfl (show am_nx _ _ _ _ _ _ _ _ _ _ from ⟨x, y, st, rfl, tgt, ht, k1, k2⟩)
theorem ax_if_lt {x : Int32} {off : Int} {tgt : Nat} (hd : decode I.2.1 pc = .ok (.ifCond .lt off, 3)) (ht : (pc : Int) + off = (tgt : Int)) (k1 : x < 0 → am_wp (am_Bx xs) am_nm (am_T (am_Bx xs) am_nm d) Q I (tgt, ls, st, h)) (k2 : ¬ (x < 0) → am_wp (am_Bx xs) am_nm (am_T (am_Bx xs) am_nm d) Q I (pc + 3, ls, st, h)) : am_wp (am_Bx xs) am_nm (am_T (am_Bx xs) am_nm d) Q I (pc, ls, .int x :: st, h) :=
  am_r hd rfl (show am_nx _ _ _ _ _ _ _ _ _ _ from ⟨x, st, rfl, tgt, ht, k1, k2⟩)
theorem ax_icmp_lt {x y : Int32} {off : Int} {tgt : Nat} (hd : decode I.2.1 pc = .ok (.if_icmp .lt off, 3)) (ht : (pc : Int) + off = (tgt : Int)) (k1 : x < y → am_wp (am_Bx xs) am_nm (am_T (am_Bx xs) am_nm d) Q I (tgt, ls, st, h)) (k2 : ¬ (x < y) → am_wp (am_Bx xs) am_nm (am_T (am_Bx xs) am_nm d) Q I (pc + 3, ls, st, h)) : am_wp (am_Bx xs) am_nm (am_T (am_Bx xs) am_nm d) Q I (pc, ls, .int y :: .int x :: st, h) :=
  am_r hd rfl (show am_nx _ _ _ _ _ _ _ _ _ _ from ⟨x, y, st, rfl, tgt, ht, k1, k2⟩)
theorem ax_if_ge {x : Int32} {off : Int} {tgt : Nat} (hd : decode I.2.1 pc = .ok (.ifCond .ge off, 3)) (ht : (pc : Int) + off = (tgt : Int)) (k1 : 0 ≤ x → am_wp (am_Bx xs) am_nm (am_T (am_Bx xs) am_nm d) Q I (tgt, ls, st, h)) (k2 : ¬ (0 ≤ x) → am_wp (am_Bx xs) am_nm (am_T (am_Bx xs) am_nm d) Q I (pc + 3, ls, st, h)) : am_wp (am_Bx xs) am_nm (am_T (am_Bx xs) am_nm d) Q I (pc, ls, .int x :: st, h) :=
  am_r hd rfl (show am_nx _ _ _ _ _ _ _ _ _ _ from ⟨x, st, rfl, tgt, ht, k1, k2⟩)
theorem ax_icmp_ge {x y : Int32} {off : Int} {tgt : Nat} (hd : decode I.2.1 pc = .ok (.if_icmp .ge off, 3)) (ht : (pc : Int) + off = (tgt : Int)) (k1 : y ≤ x → am_wp (am_Bx xs) am_nm (am_T (am_Bx xs) am_nm d) Q I (tgt, ls, st, h)) (k2 : ¬ (y ≤ x) → am_wp (am_Bx xs) am_nm (am_T (am_Bx xs) am_nm d) Q I (pc + 3, ls, st, h)) : am_wp (am_Bx xs) am_nm (am_T (am_Bx xs) am_nm d) Q I (pc, ls, .int y :: .int x :: st, h) :=
  am_r hd rfl (show am_nx _ _ _ _ _ _ _ _ _ _ from ⟨x, y, st, rfl, tgt, ht, k1, k2⟩)
theorem ax_if_gt {x : Int32} {off : Int} {tgt : Nat} (hd : decode I.2.1 pc = .ok (.ifCond .gt off, 3)) (ht : (pc : Int) + off = (tgt : Int)) (k1 : 0 < x → am_wp (am_Bx xs) am_nm (am_T (am_Bx xs) am_nm d) Q I (tgt, ls, st, h)) (k2 : ¬ (0 < x) → am_wp (am_Bx xs) am_nm (am_T (am_Bx xs) am_nm d) Q I (pc + 3, ls, st, h)) : am_wp (am_Bx xs) am_nm (am_T (am_Bx xs) am_nm d) Q I (pc, ls, .int x :: st, h) :=
  am_r hd rfl (show am_nx _ _ _ _ _ _ _ _ _ _ from ⟨x, st, rfl, tgt, ht, k1, k2⟩)
theorem ax_icmp_gt {x y : Int32} {off : Int} {tgt : Nat} (hd : decode I.2.1 pc = .ok (.if_icmp .gt off, 3)) (ht : (pc : Int) + off = (tgt : Int)) (k1 : y < x → am_wp (am_Bx xs) am_nm (am_T (am_Bx xs) am_nm d) Q I (tgt, ls, st, h)) (k2 : ¬ (y < x) → am_wp (am_Bx xs) am_nm (am_T (am_Bx xs) am_nm d) Q I (pc + 3, ls, st, h)) : am_wp (am_Bx xs) am_nm (am_T (am_Bx xs) am_nm d) Q I (pc, ls, .int y :: .int x :: st, h) :=
  am_r hd rfl (show am_nx _ _ _ _ _ _ _ _ _ _ from ⟨x, y, st, rfl, tgt, ht, k1, k2⟩)
theorem ax_if_le {x : Int32} {off : Int} {tgt : Nat} (hd : decode I.2.1 pc = .ok (.ifCond .le off, 3)) (ht : (pc : Int) + off = (tgt : Int)) (k1 : x ≤ 0 → am_wp (am_Bx xs) am_nm (am_T (am_Bx xs) am_nm d) Q I (tgt, ls, st, h)) (k2 : ¬ (x ≤ 0) → am_wp (am_Bx xs) am_nm (am_T (am_Bx xs) am_nm d) Q I (pc + 3, ls, st, h)) : am_wp (am_Bx xs) am_nm (am_T (am_Bx xs) am_nm d) Q I (pc, ls, .int x :: st, h) :=
  am_r hd rfl (show am_nx _ _ _ _ _ _ _ _ _ _ from ⟨x, st, rfl, tgt, ht, k1, k2⟩)
theorem ax_icmp_le {x y : Int32} {off : Int} {tgt : Nat} (hd : decode I.2.1 pc = .ok (.if_icmp .le off, 3)) (ht : (pc : Int) + off = (tgt : Int)) (k1 : x ≤ y → am_wp (am_Bx xs) am_nm (am_T (am_Bx xs) am_nm d) Q I (tgt, ls, st, h)) (k2 : ¬ (x ≤ y) → am_wp (am_Bx xs) am_nm (am_T (am_Bx xs) am_nm d) Q I (pc + 3, ls, st, h)) : am_wp (am_Bx xs) am_nm (am_T (am_Bx xs) am_nm d) Q I (pc, ls, .int y :: .int x :: st, h) :=
  am_r hd rfl (show am_nx _ _ _ _ _ _ _ _ _ _ from ⟨x, y, st, rfl, tgt, ht, k1, k2⟩)
theorem ax_ifnull {v : Value} {off : Int} {tgt : Nat} (hd : decode I.2.1 pc = .ok (.ifnull off, 3)) (hv : am_isR v) (ht : (pc : Int) + off = (tgt : Int)) (k1 : v = .null → am_wp (am_Bx xs) am_nm (am_T (am_Bx xs) am_nm d) Q I (tgt, ls, st, h)) (k2 : ¬ v = .null → am_wp (am_Bx xs) am_nm (am_T (am_Bx xs) am_nm d) Q I (pc + 3, ls, st, h)) : am_wp (am_Bx xs) am_nm (am_T (am_Bx xs) am_nm d) Q I (pc, ls, v :: st, h) :=
  am_r hd rfl (show am_nx _ _ _ _ _ _ _ _ _ _ from ⟨v, st, rfl, hv, tgt, ht, k1, k2⟩)
theorem ax_ifnonnull {v : Value} {off : Int} {tgt : Nat} (hd : decode I.2.1 pc = .ok (.ifnonnull off, 3)) (hv : am_isR v) (ht : (pc : Int) + off = (tgt : Int)) (k1 : ¬ v = .null → am_wp (am_Bx xs) am_nm (am_T (am_Bx xs) am_nm d) Q I (tgt, ls, st, h)) (k2 : ¬ ¬ v = .null → am_wp (am_Bx xs) am_nm (am_T (am_Bx xs) am_nm d) Q I (pc + 3, ls, st, h)) : am_wp (am_Bx xs) am_nm (am_T (am_Bx xs) am_nm d) Q I (pc, ls, v :: st, h) :=
  am_r hd rfl (show am_nx _ _ _ _ _ _ _ _ _ _ from ⟨v, st, rfl, hv, tgt, ht, k1, k2⟩)
theorem ax_getf {idx a t c k : Nat} {v : Value} (hd : decode I.2.1 pc = .ok (.getfield idx, 3)) (hb : am_pool I.1 idx = (t, c, k)) (ht : t = 1 ∨ t = 2) (hg : am_get h c a k = some v) (kk : am_wp (am_Bx xs) am_nm (am_T (am_Bx xs) am_nm d) Q I (pc + 3, ls, v :: st, h)) : am_wp (am_Bx xs) am_nm (am_T (am_Bx xs) am_nm d) Q I (pc, ls, .ref a :: st, h) :=
  am_r hd rfl (show am_nx _ _ _ _ _ _ _ _ _ _ from ⟨a, st, t, c, k, v, rfl, hb, ht, hg, kk⟩)
theorem ax_putf {idx a c k : Nat} {v w : Value} {ts : List (FieldType × Bool)} {ty : FieldType} {fin : Bool} (hd : decode I.2.1 pc = .ok (.putfield idx, 3)) (hb : am_pool I.1 idx = (1, c, k)) (hg : am_get h c a k = some w) (hts : am_fl c = some ts) (hty : ts[k]? = some (ty, fin)) (hfit : am_fit ty v = true) (hfin : fin = true → I.2.2.2.2 = true ∧ c = I.1) (kk : am_wp (am_Bx xs) am_nm (am_T (am_Bx xs) am_nm d) Q I (pc + 3, ls, st, am_put h a k v)) : am_wp (am_Bx xs) am_nm (am_T (am_Bx xs) am_nm d) Q I (pc, ls, v :: .ref a :: st, h) :=
  am_r hd rfl (show am_nx _ _ _ _ _ _ _ _ _ _ from ⟨a, st, c, k, v, w, ts, ty, fin, rfl, hb, hg, hts, hty, hfit, hfin, kk⟩)
theorem ax_ret {v : Option Value} {i : Instr} (hd : decode I.2.1 pc = .ok (i, 1)) (hl : am_len i 1 = true) (ha : am_ans I.2.2.2.1 v = true) (hi : i = .return_ ∧ v = none ∨ (i = .ireturn ∧ ∃ x, v = some (.int x)) ∨ i = .areturn ∧ ∃ r, v = some r ∧ am_isR r) (hQ : Q v h) : am_wp (am_Bx xs) am_nm (am_T (am_Bx xs) am_nm d) Q I (pc, ls, v.toList, h) :=
  am_rr hd hl ⟨v, rfl, ha, hQ, hi⟩
theorem ax_iret {x : Int32} (hd : decode I.2.1 pc = .ok (.ireturn, 1)) (ha : am_ans I.2.2.2.1 (some (.int x)) = true) (hQ : Q (some (.int x)) h) : am_wp (am_Bx xs) am_nm (am_T (am_Bx xs) am_nm d) Q I (pc, ls, [.int x], h) :=
  am_rr hd rfl ⟨some (.int x), rfl, ha, hQ, Or.inr (Or.inl ⟨rfl, x, rfl⟩)⟩
theorem ax_vret (hd : decode I.2.1 pc = .ok (.return_, 1)) (ha : am_ans I.2.2.2.1 none = true) (hQ : Q none h) : am_wp (am_Bx xs) am_nm (am_T (am_Bx xs) am_nm d) Q I (pc, ls, [], h) :=
  am_rr hd rfl ⟨none, rfl, ha, hQ, Or.inl ⟨rfl, rfl⟩⟩
theorem ax_intro {mi : Nat} {as : List Value} {J : am_I} (hI : (am_Bx xs).2.1 mi = some J) (hl : as.length ≤ J.2.2.1) (hw : am_wp (am_Bx xs) am_nm (am_T (am_Bx xs) am_nm d) Q J (0, as.map some ++ List.replicate (J.2.2.1 - as.length) none, [], h)) : am_T (am_Bx xs) am_nm (d + 1) mi as h Q :=
  ⟨J, hI, hl, hw⟩
end AXR
