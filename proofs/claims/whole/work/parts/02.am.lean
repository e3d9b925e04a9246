/-! THE SMALL MACHINE: a machine over lists, the JVM's instructions as predicate transformers. What is shown of it (am_T) holds of the JVM (am_sim). -/
/-- a cell: an object (its class's number, its fields), or an array (its components' type, the components). Value.ref i is the i-th cell of the list, Value.retAddr j the j-th constant (an array that nobody writes) -/
abbrev am_E : Type := (Nat × List Value) ⊕ (FieldType × List Value)
abbrev am_H : Type := List am_E
/-- program counter, locals, operands, heap -/
abbrev am_F : Type := Nat × List (Option Value) × List Value × am_H
/-- a method: its class's number, its code, how many locals, what it returns, whether it is a constructor -/
abbrev am_I : Type := Nat × ByteArray × Nat × Option FieldType × Bool
/-- the tables: what a pool entry of a class is; the methods; the fields of the classes (type, final); the constants -/
abbrev am_B : Type := (Nat → Nat → Nat × Nat × Nat) × (Nat → Option am_I) × (Nat → Option (List (FieldType × Bool))) × (Nat → Option (FieldType × List Value))
abbrev am_C : Type := Nat → List Value → am_H → (Option Value → am_H → Prop) → Prop
def am_isR (v : Value) : Prop := v = .null ∨ (∃ a, v = .ref a) ∨ ∃ j, v = .retAddr j
def am_cmpR (B : am_B) (v w : Value) : Prop := am_isR v ∧ am_isR w ∧ (v = w ∨ (¬ ∃ i j, v = .retAddr i ∧ w = .retAddr j) ∧ ∀ j, v = .retAddr j ∨ w = .retAddr j → (B.2.2.2 j).isSome = true)
def am_get (h : am_H) (c a k : Nat) : Option Value := match h[a]? with
  | some (.inl (c', fs)) => if c' = c then fs[k]? else none
  | _ => none
def am_put (h : am_H) (a k : Nat) (v : Value) : am_H := match h[a]? with
  | some (.inl (c', fs)) => h.set a (.inl (c', fs.set k v))
  | _ => h
/-- an array that can be read -/
def am_arr (B : am_B) (h : am_H) : Value → Option (FieldType × List Value)
  | .ref a => match h[a]? with
    | some (.inr x) => some x
    | _ => none
  | .retAddr j => B.2.2.2 j
  | _ => none
def am_fit : FieldType → Value → Bool
  | .int, .int _ => true
  | .boolean, .int x => x == 0 || x == 1
  | .object _, .null | .object _, .ref _ | .object _, .retAddr _ => true
  | .array _, .null | .array _, .ref _ | .array _, .retAddr _ => true
  | _, _ => false
/-- what a method may answer -/
def am_ans : Option FieldType → Option Value → Bool
  | none, none => true
  | some .int, some (.int _) => true
  | some .boolean, some (.int x) => x == 0 || x == 1
  | some (.object _), some .null | some (.object _), some (.ref _) | some (.object _), some (.retAddr _) => true
  | some (.array _), some .null | some (.array _), some (.ref _) | some (.array _), some (.retAddr _) => true
  | _, _ => false
def am_br (P : am_F → Prop) (pc : Nat) (ls : List (Option Value)) (st : List Value) (h : am_H) (off : Int) (C : Prop) : Prop :=
  ∃ tgt : Nat, (pc : Int) + off = (tgt : Int) ∧ (C → P (tgt, ls, st, h)) ∧ (¬ C → P (pc + 3, ls, st, h))
def am_c1 (P : am_F → Prop) (pc : Nat) (ls : List (Option Value)) (st : List Value) (h : am_H) (off : Int) (C : Int32 → Prop) : Prop :=
  ∃ x rest, st = .int x :: rest ∧ am_br P pc ls rest h off (C x)
def am_c2 (P : am_F → Prop) (pc : Nat) (ls : List (Option Value)) (st : List Value) (h : am_H) (off : Int) (C : Int32 → Int32 → Prop) : Prop :=
  ∃ x y rest, st = .int y :: .int x :: rest ∧ am_br P pc ls rest h off (C x y)
def am_b2 (P : am_F → Prop) (pc : Nat) (ls : List (Option Value)) (st : List Value) (h : am_H) (f : Int32 → Int32 → Int32) : Prop :=
  ∃ x y rest, st = .int y :: .int x :: rest ∧ P (pc + 1, ls, .int (f x y) :: rest, h)
def am_ald (B : am_B) (P : am_F → Prop) (pc : Nat) (ls : List (Option Value)) (st : List Value) (h : am_H) (ok : FieldType → Prop) : Prop :=
  ∃ j r rest ty vs v, st = .int j :: r :: rest ∧ am_arr B h r = some (ty, vs) ∧ ok ty ∧ ¬ j < 0 ∧ vs[j.toNatClampNeg]? = some v ∧ P (pc + 1, ls, v :: rest, h)
def am_ast (P : am_F → Prop) (pc : Nat) (ls : List (Option Value)) (st : List Value) (h : am_H) (ok : FieldType → Value → Value → Prop) : Prop :=
  ∃ w j a rest ty vs v, st = w :: .int j :: .ref a :: rest ∧ h[a]? = some (.inr (ty, vs)) ∧ ok ty w v ∧ ¬ j < 0 ∧ j.toNatClampNeg < vs.length ∧ P (pc + 1, ls, rest, h.set a (.inr (ty, vs.set j.toNatClampNeg v)))
/-- the component kinds of the arrays of references -/
def am_refs : List String := ["LineFlow$Node", "LineFlow$Flow", "java/lang/Object"]
def am_tyk (ty : FieldType) : Prop := ty = .int ∨ ty = .byte ∨ ty = .boolean ∨ ∃ C, C ∈ am_refs ∧ ty = .object C
/-- what may stand in an array of references -/
def am_into (cn : Nat → String) (h : am_H) (ty : FieldType) (w v : Value) : Prop := v = w ∧ ∃ C, C ∈ am_refs ∧ ty = .object C ∧ (w = .null ∨ ∃ b c fs, w = .ref b ∧ h[b]? = some (.inl (c, fs)) ∧ (cn c = C ∨ C = "java/lang/Object" ∧ c = 7))
def am_cpy (vs ws : List Value) (sp dp n : Nat) : List Value := (List.range ws.length).map (va_cpy (fun j => vs.getD j .null) (fun j => ws.getD j .null) sp dp n)
/-- one instruction that stays in the method; T: what calls do; cn: the names of the numbered object kinds -/
def am_nx (B : am_B) (cn : Nat → String) (T : am_C) (I : am_I) (P : am_F → Prop) (pc : Nat) (ls : List (Option Value)) (st : List Value) (h : am_H) (i : Instr) : Prop := match i with
  | .iconst n => P (pc + 1, ls, .int (Int32.ofInt n) :: st, h)
  | .bipush n => P (pc + 2, ls, .int (Int8.ofInt n).toInt32 :: st, h)
  | .sipush n => P (pc + 3, ls, .int (Int16.ofInt n).toInt32 :: st, h)
  | .ldc idx => (∃ x y, B.1 I.1 idx = (12, x, y) ∧ P (pc + 2, ls, .int (Int32.ofNat x) :: st, h)) ∨ ∃ x y, B.1 I.1 idx = (15, x, y) ∧ P (pc + 2, ls, .retAddr 3 :: st, h)
  | .aconst_null => P (pc + 1, ls, .null :: st, h)
  | .iload k => ∃ x, ls[k]? = some (some (.int x)) ∧ P (pc + 2, ls, .int x :: st, h)
  | .iload_n k => ∃ x, ls[k.val]? = some (some (.int x)) ∧ P (pc + 1, ls, .int x :: st, h)
  | .aload k => ∃ v, ls[k]? = some (some v) ∧ am_isR v ∧ P (pc + 2, ls, v :: st, h)
  | .aload_n k => ∃ v, ls[k.val]? = some (some v) ∧ am_isR v ∧ P (pc + 1, ls, v :: st, h)
  | .istore k => ∃ x rest, st = .int x :: rest ∧ k < ls.length ∧ P (pc + 2, ls.set k (some (.int x)), rest, h)
  | .istore_n k => ∃ x rest, st = .int x :: rest ∧ k.val < ls.length ∧ P (pc + 1, ls.set k.val (some (.int x)), rest, h)
  | .astore k => ∃ v rest, st = v :: rest ∧ am_isR v ∧ k < ls.length ∧ P (pc + 2, ls.set k (some v), rest, h)
  | .astore_n k => ∃ v rest, st = v :: rest ∧ am_isR v ∧ k.val < ls.length ∧ P (pc + 1, ls.set k.val (some v), rest, h)
  | .iinc k n => ∃ x, ls[k]? = some (some (.int x)) ∧ P (pc + 3, ls.set k (some (.int (x + Int32.ofInt n))), st, h)
  | .iadd => am_b2 P pc ls st h (fun x y => x + y)
  | .isub => am_b2 P pc ls st h (fun x y => x - y)
  | .imul => am_b2 P pc ls st h (fun x y => x * y)
  | .iand => am_b2 P pc ls st h (fun x y => x &&& y)
  | .idiv => ∃ x y rest, st = .int y :: .int x :: rest ∧ ¬ y = 0 ∧ P (pc + 1, ls, .int (x / y) :: rest, h)
  | .ishr => am_b2 P pc ls st h (fun x y => x >>> (y &&& 31))
  | .iushr => am_b2 P pc ls st h (fun x y => (x.toUInt32 >>> (y.toUInt32 &&& Int32.toUInt32 31)).toInt32)
  | .i2b => ∃ x rest, st = .int x :: rest ∧ P (pc + 1, ls, .int x.toInt8.toInt32 :: rest, h)
  | .dup => ∃ v rest, st = v :: rest ∧ P (pc + 1, ls, v :: v :: rest, h)
  | .dup_x1 => ∃ v w rest, st = v :: w :: rest ∧ P (pc + 1, ls, v :: w :: v :: rest, h)
  | .dup2 => ∃ v w rest, st = v :: w :: rest ∧ P (pc + 1, ls, v :: w :: v :: w :: rest, h)
  | .pop => ∃ v rest, st = v :: rest ∧ P (pc + 1, ls, rest, h)
  | .goto off => ∃ tgt : Nat, (pc : Int) + off = (tgt : Int) ∧ P (tgt, ls, st, h)
  | .ifCond .eq off => am_c1 P pc ls st h off (fun x => x = 0)
  | .ifCond .ne off => am_c1 P pc ls st h off (fun x => ¬ x = 0)
  | .ifCond .lt off => am_c1 P pc ls st h off (fun x => x < 0)
  | .ifCond .ge off => am_c1 P pc ls st h off (fun x => 0 ≤ x)
  | .ifCond .gt off => am_c1 P pc ls st h off (fun x => 0 < x)
  | .ifCond .le off => am_c1 P pc ls st h off (fun x => x ≤ 0)
  | .if_icmp .eq off => am_c2 P pc ls st h off (fun x y => x = y)
  | .if_icmp .ne off => am_c2 P pc ls st h off (fun x y => ¬ x = y)
  | .if_icmp .lt off => am_c2 P pc ls st h off (fun x y => x < y)
  | .if_icmp .ge off => am_c2 P pc ls st h off (fun x y => y ≤ x)
  | .if_icmp .gt off => am_c2 P pc ls st h off (fun x y => y < x)
  | .if_icmp .le off => am_c2 P pc ls st h off (fun x y => x ≤ y)
  | .ifnull off => ∃ v rest, st = v :: rest ∧ am_isR v ∧ am_br P pc ls rest h off (v = .null)
  | .ifnonnull off => ∃ v rest, st = v :: rest ∧ am_isR v ∧ am_br P pc ls rest h off (¬ v = .null)
  | .if_acmp .eq off => ∃ v w rest, st = w :: v :: rest ∧ am_cmpR B v w ∧ am_br P pc ls rest h off (v = w)
  | .if_acmp .ne off => ∃ v w rest, st = w :: v :: rest ∧ am_cmpR B v w ∧ am_br P pc ls rest h off (¬ v = w)
  | .tableswitch dflt lo hi offs => ∃ x rest, st = .int x :: rest ∧ ∃ tgt : Nat, ((x.toInt < lo ∨ hi < x.toInt) ∧ (pc : Int) + dflt = (tgt : Int) ∨ ¬ x.toInt < lo ∧ ¬ hi < x.toInt ∧ ∃ off, offs[(x.toInt - lo).toNat]? = some off ∧ (pc : Int) + off = (tgt : Int)) ∧ P (tgt, ls, rest, h)
  | .lookupswitch dflt ps => ∃ x rest, st = .int x :: rest ∧ (ps.toList.zip (ps.toList.drop 1)).all (fun (a, next) => a.1 < next.1) = true ∧ ∃ tgt : Nat, (pc : Int) + Op.lookupswitch.offset ps.toList dflt x.toInt = (tgt : Int) ∧ P (tgt, ls, rest, h)
  | .getfield idx => ∃ a rest t c k v, st = .ref a :: rest ∧ B.1 I.1 idx = (t, c, k) ∧ (t = 1 ∨ t = 2) ∧ am_get h c a k = some v ∧ P (pc + 3, ls, v :: rest, h)
  | .putfield idx => ∃ a rest c k v w ts ty fin, st = v :: .ref a :: rest ∧ B.1 I.1 idx = (1, c, k) ∧ am_get h c a k = some w ∧ B.2.2.1 c = some ts ∧ ts[k]? = some (ty, fin) ∧ am_fit ty v = true ∧ (fin = true → I.2.2.2.2 = true ∧ c = I.1) ∧ P (pc + 3, ls, rest, am_put h a k v)
  | .getstatic idx => ∃ j y, B.1 I.1 idx = (3, j, y) ∧ P (pc + 3, ls, .retAddr j :: st, h)
  | .arraylength => ∃ r rest ty vs, st = r :: rest ∧ am_arr B h r = some (ty, vs) ∧ am_tyk ty ∧ P (pc + 1, ls, .int (Int32.ofNat vs.length) :: rest, h)
  | .iaload => am_ald B P pc ls st h (fun ty => ty = .int)
  | .baload => am_ald B P pc ls st h (fun ty => ty = .byte ∨ ty = .boolean)
  | .aaload => am_ald B P pc ls st h (fun ty => ∃ C, C ∈ am_refs ∧ ty = .object C)
  | .iastore => am_ast P pc ls st h (fun ty w v => ty = .int ∧ v = w ∧ ∃ x, w = .int x)
  | .bastore => am_ast P pc ls st h (fun ty w v => ∃ x, w = .int x ∧ (ty = .byte ∧ v = .int x.toInt8.toInt32 ∨ ty = .boolean ∧ v = .int (x &&& 1)))
  | .aastore => am_ast P pc ls st h (am_into cn h)
  | .new idx => ∃ c y ts, B.1 I.1 idx = (9, c, y) ∧ B.2.2.1 c = some ts ∧ (∀ q ∈ ts, (defaultValue q.1).category = 1) ∧ P (pc + 3, ls, .ref h.length :: st, h ++ [.inl (c, ts.map (fun q => defaultValue q.1))])
  | .newarray at_ => ∃ n rest ty, st = .int n :: rest ∧ newarray.typeOf at_ = ty ∧ (ty = .int ∨ ty = .byte ∨ ty = .boolean) ∧ ¬ n < 0 ∧ n.toNatClampNeg ≤ 100000 ∧ P (pc + 2, ls, .ref h.length :: rest, h ++ [.inr (ty, List.replicate n.toNatClampNeg (.int 0))])
  | .anewarray idx => ∃ n rest c y, st = .int n :: rest ∧ B.1 I.1 idx = (9, c, y) ∧ cn c ∈ am_refs ∧ ¬ n < 0 ∧ n.toNatClampNeg ≤ 100000 ∧ P (pc + 3, ls, .ref h.length :: rest, h ++ [.inr (.object (cn c), List.replicate n.toNatClampNeg .null)])
  | .checkcast idx => ∃ v rest c y, st = v :: rest ∧ B.1 I.1 idx = (9, c, y) ∧ (v = .null ∨ ∃ a fs, v = .ref a ∧ h[a]? = some (.inl (c, fs))) ∧ P (pc + 3, ls, v :: rest, h)
  | .invokevirtual idx => (∃ a rest vs x y, B.1 I.1 idx = (14, x, y) ∧ st = .ref a :: rest ∧ rest.length ≤ 8 ∧ h[a]? = some (.inr (.object "java/lang/Object", vs)) ∧ P (pc + 3, ls, .retAddr 3 :: rest, h)) ∨ ∃ m n as b rest J fs, B.1 I.1 idx = (4, m, n) ∧ as.length = n ∧ st = as.reverse ++ .ref b :: rest ∧ rest.length ≤ 8 ∧ B.2.1 m = some J ∧ h[b]? = some (.inl (J.1, fs)) ∧ T m (.ref b :: as) h (fun v h' => P (pc + 3, ls, v.toList ++ rest, h'))
  | .invokestatic idx => (∃ n dp a sp b rest ty vs ws x y, B.1 I.1 idx = (13, x, y) ∧ st = .int n :: .int dp :: .ref a :: .int sp :: .ref b :: rest ∧ rest.length ≤ 8 ∧ h[b]? = some (.inr (ty, vs)) ∧ h[a]? = some (.inr (ty, ws)) ∧ (ty = .byte ∧ (∀ v ∈ vs, fits .byte v = true) ∨ ty = .object "java/lang/Object" ∧ ∀ v ∈ vs, v = .null ∨ ∃ q fs, v = .ref q ∧ h[q]? = some (.inl (7, fs))) ∧
      ¬ sp < 0 ∧ ¬ dp < 0 ∧ ¬ n < 0 ∧ sp.toNatClampNeg + n.toNatClampNeg ≤ vs.length ∧ dp.toNatClampNeg + n.toNatClampNeg ≤ ws.length ∧ P (pc + 3, ls, rest, h.set a (.inr (ty, am_cpy vs ws sp.toNatClampNeg dp.toNatClampNeg n.toNatClampNeg)))) ∨
      (∃ a b rest x y, B.1 I.1 idx = (16, x, y) ∧ st = .int b :: .int a :: rest ∧ rest.length ≤ 8 ∧ P (pc + 3, ls, .int (if a < b then b else a) :: rest, h)) ∨ (∃ a b rest x y, B.1 I.1 idx = (17, x, y) ∧ st = .int b :: .int a :: rest ∧ rest.length ≤ 8 ∧ P (pc + 3, ls, .int (if b < a then b else a) :: rest, h)) ∨ ∃ m n as rest, B.1 I.1 idx = (5, m, n) ∧ as.length = n ∧ st = as.reverse ++ rest ∧ rest.length ≤ 8 ∧ T m as h (fun v h' => P (pc + 3, ls, v.toList ++ rest, h'))
  | .invokespecial idx => (∃ a rest x y, B.1 I.1 idx = (8, x, y) ∧ st = .ref a :: rest ∧ rest.length ≤ 8 ∧ P (pc + 3, ls, rest, h)) ∨
      ∃ t m n as b rest, B.1 I.1 idx = (t, m, n) ∧ (t = 6 ∨ t = 7) ∧ as.length = n ∧ st = as.reverse ++ .ref b :: rest ∧ rest.length ≤ 8 ∧ T m (.ref b :: as) h (fun v h' => v = none ∧ P (pc + 3, ls, rest, h'))
  | _ => False
/-- one instruction that ends the method -/
def am_re (Q : Option Value → am_H → Prop) (I : am_I) (st : List Value) (h : am_H) (i : Instr) : Prop :=
  ∃ v : Option Value, st = v.toList ∧ am_ans I.2.2.2.1 v = true ∧ Q v h ∧ (i = .return_ ∧ v = none ∨ (i = .ireturn ∧ ∃ x, v = some (.int x)) ∨ i = .areturn ∧ ∃ r, v = some r ∧ am_isR r)
def am_len : Instr → Nat → Bool
  | .bipush _, n | .iload _, n | .aload _, n | .istore _, n | .astore _, n | .ldc _, n | .newarray _, n => n == 2
  | .sipush _, n | .iinc _ _, n | .goto _, n | .ifCond _ _, n | .if_icmp _ _, n | .if_acmp _ _, n | .ifnull _, n | .ifnonnull _, n => n == 3
  | .getfield _, n | .putfield _, n | .getstatic _, n | .new _, n | .anewarray _, n | .checkcast _, n | .invokevirtual _, n | .invokestatic _, n | .invokespecial _, n => n == 3
  | .tableswitch _ _ _ _, _ | .lookupswitch _ _, _ => true
  | _, n => n == 1
def am_ok (B : am_B) (cn : Nat → String) (T : am_C) (Q : Option Value → am_H → Prop) (I : am_I) (P : am_F → Prop) (F : am_F) : Prop :=
  ∃ (i : Instr) (len : Nat), decode I.2.1 F.1 = .ok (i, len) ∧ am_len i len = true ∧ (am_nx B cn T I P F.1 F.2.1 F.2.2.1 F.2.2.2 i ∨ am_re Q I F.2.2.1 F.2.2.2 i)
/-- from here the method ends with Q: the least predicate that is closed under the instructions -/
def am_wp (B : am_B) (cn : Nat → String) (T : am_C) (Q : Option Value → am_H → Prop) (I : am_I) (F : am_F) : Prop :=
  ∀ P : am_F → Prop, (∀ F, am_ok B cn T Q I P F → P F) → P F
/-- a call of method m, at most d deep, ends with Q -/
def am_T (B : am_B) (cn : Nat → String) : Nat → am_C
  | 0 => fun _ _ _ _ => False
  | d + 1 => fun m as h Q => ∃ I : am_I, B.2.1 m = some I ∧ as.length ≤ I.2.2.1 ∧ am_wp B cn (am_T B cn d) Q I (0, as.map some ++ List.replicate (I.2.2.1 - as.length) none, [], h)
theorem am_re_mono {Q Q' : Option Value → am_H → Prop} {I : am_I} {st : List Value} {h : am_H} {i : Instr} (hQ : ∀ v h, Q v h → Q' v h) (hr : am_re Q I st h i) : am_re Q' I st h i := by
  obtain ⟨v, h1, h2, h3, h4⟩ := hr
  exact ⟨v, h1, h2, hQ _ _ h3, h4⟩
theorem am_wp_mono {B : am_B} {cn : Nat → String} {T : am_C} {Q Q' : Option Value → am_H → Prop} {I : am_I} {F : am_F} (hQ : ∀ v h, Q v h → Q' v h) (hw : am_wp B cn T Q I F) : am_wp B cn T Q' I F := by
  intro P hP
  refine hw P (fun F' hF => hP F' ?_)
  obtain ⟨i, len, hd, hl, h⟩ := hF
  exact ⟨i, len, hd, hl, h.imp id (am_re_mono hQ)⟩
theorem am_T_mono {B : am_B} {cn : Nat → String} {d m : Nat} {as : List Value} {h : am_H} {Q Q' : Option Value → am_H → Prop} (hQ : ∀ v h, Q v h → Q' v h) (ht : am_T B cn d m as h Q) : am_T B cn d m as h Q' := by
  cases d with
  | zero => exact ht
  | succ d =>
    obtain ⟨I, h1, h2, h3⟩ := ht
    exact ⟨I, h1, h2, am_wp_mono hQ h3⟩
