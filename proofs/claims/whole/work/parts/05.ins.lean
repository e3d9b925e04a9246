/-! one instruction: operands, places, numbers, branches -/
section AMI
variable {l : Launch} {B : am_B} {nm : Nat → String} {my : Nat → MethodName} {cl : List vw_C} {Ts NW : List Cond} {D : va_G} {DA : FieldType → ClassId} {sa : Nat → Nat} {base : Nat}
variable {I : am_I} {h0 : am_H} {d : Nat} {Q : Option Value → am_H → Prop} {Z : Option Value → am_H → State → Array Value → List Frame → State → Prop} {pc : Nat} {ls : List (Option Value)} {st : List Value} {h : am_H}
theorem am_i_iconst {n : Int} (hd : decode I.2.1 pc = .ok (.iconst n, 1)) (hP : am_P l B nm cl Ts NW D DA sa base I h0 d Q Z (pc + 1, ls, .int (Int32.ofInt n) :: st, h)) : am_P l B nm cl Ts NW D DA sa base I h0 d Q Z (pc, ls, st, h) :=
  am_gost (fun a => List.forall_mem_cons.mpr ⟨rfl, a⟩) (fun p e R s m args below meth c Qm H locs lsm cells slots hC _ hR k => lv_iconst hC.1 hC.2.1 hd rfl k) hP
theorem am_i_bipush {n : Int} (hd : decode I.2.1 pc = .ok (.bipush n, 2)) (hP : am_P l B nm cl Ts NW D DA sa base I h0 d Q Z (pc + 2, ls, .int (Int8.ofInt n).toInt32 :: st, h)) : am_P l B nm cl Ts NW D DA sa base I h0 d Q Z (pc, ls, st, h) :=
  am_gost (fun a => List.forall_mem_cons.mpr ⟨rfl, a⟩) (fun p e R s m args below meth c Qm H locs lsm cells slots hC _ hR k => lv_bipush hC.1 hC.2.1 hd rfl k) hP
theorem am_i_sipush {n : Int} (hd : decode I.2.1 pc = .ok (.sipush n, 3)) (hP : am_P l B nm cl Ts NW D DA sa base I h0 d Q Z (pc + 3, ls, .int (Int16.ofInt n).toInt32 :: st, h)) : am_P l B nm cl Ts NW D DA sa base I h0 d Q Z (pc, ls, st, h) :=
  am_gost (fun a => List.forall_mem_cons.mpr ⟨rfl, a⟩) (fun p e R s m args below meth c Qm H locs lsm cells slots hC _ hR k => lv_sipush hC.1 hC.2.1 hd rfl k) hP
theorem am_i_null (hd : decode I.2.1 pc = .ok (.aconst_null, 1)) (hP : am_P l B nm cl Ts NW D DA sa base I h0 d Q Z (pc + 1, ls, .null :: st, h)) : am_P l B nm cl Ts NW D DA sa base I h0 d Q Z (pc, ls, st, h) :=
  am_gost (fun a => List.forall_mem_cons.mpr ⟨rfl, a⟩) (fun p e R s m args below meth c Qm H locs lsm cells slots hC _ hR k => lv_null hC.1 hC.2.1 hd k) hP
theorem am_i_iload {k : Nat} {x : Int32} (hd : decode I.2.1 pc = .ok (.iload k, 2)) (hx : ls[k]? = some (some (.int x))) (hP : am_P l B nm cl Ts NW D DA sa base I h0 d Q Z (pc + 2, ls, .int x :: st, h)) : am_P l B nm cl Ts NW D DA sa base I h0 d Q Z (pc, ls, st, h) :=
  am_gost (fun a => List.forall_mem_cons.mpr ⟨rfl, a⟩) (fun p e R s m args below meth c Qm H locs lsm cells slots hC _ hR kk => lv_iload hC.1 hC.2.1 hd (hR.1.2.2 _ _ hx).1 kk) hP
theorem am_i_iload_n {k : Fin 4} {x : Int32} (hd : decode I.2.1 pc = .ok (.iload_n k, 1)) (hx : ls[k.val]? = some (some (.int x))) (hP : am_P l B nm cl Ts NW D DA sa base I h0 d Q Z (pc + 1, ls, .int x :: st, h)) : am_P l B nm cl Ts NW D DA sa base I h0 d Q Z (pc, ls, st, h) :=
  am_gost (fun a => List.forall_mem_cons.mpr ⟨rfl, a⟩) (fun p e R s m args below meth c Qm H locs lsm cells slots hC _ hR kk => lv_iload_n hC.1 hC.2.1 hd rfl (hR.1.2.2 _ _ hx).1 kk) hP
theorem am_isR_cat {v : Value} (h : am_isR v) : v.category = 1 := by
  rcases h with rfl | ⟨a, rfl⟩ | ⟨j, rfl⟩ <;> rfl
theorem am_i_aload {k : Nat} {v : Value} (hd : decode I.2.1 pc = .ok (.aload k, 2)) (hx : ls[k]? = some (some v)) (hv : am_isR v) (hP : am_P l B nm cl Ts NW D DA sa base I h0 d Q Z (pc + 2, ls, v :: st, h)) : am_P l B nm cl Ts NW D DA sa base I h0 d Q Z (pc, ls, st, h) := by
  refine am_gost (fun a => List.forall_mem_cons.mpr ⟨am_isR_cat hv, a⟩) (fun p e R s m args below meth c Qm H locs lsm cells slots hC _ hR kk => ?_) hP
  have h1 := (hR.1.2.2 _ _ hx).1
  rcases hv with rfl | ⟨a, rfl⟩ | ⟨j, rfl⟩
  · exact lv_aloadN hC.1 hC.2.1 hd h1 kk
  · exact lv_aload hC.1 hC.2.1 hd h1 kk
  · exact lv_aload hC.1 hC.2.1 hd h1 kk
theorem am_i_aload_n {k : Fin 4} {v : Value} (hd : decode I.2.1 pc = .ok (.aload_n k, 1)) (hx : ls[k.val]? = some (some v)) (hv : am_isR v) (hP : am_P l B nm cl Ts NW D DA sa base I h0 d Q Z (pc + 1, ls, v :: st, h)) : am_P l B nm cl Ts NW D DA sa base I h0 d Q Z (pc, ls, st, h) := by
  refine am_gost (fun a => List.forall_mem_cons.mpr ⟨am_isR_cat hv, a⟩) (fun p e R s m args below meth c Qm H locs lsm cells slots hC _ hR kk => ?_) hP
  have h1 := (hR.1.2.2 _ _ hx).1
  rcases hv with rfl | ⟨a, rfl⟩ | ⟨j, rfl⟩
  · exact lv_aload_nN hC.1 hC.2.1 hd rfl h1 kk
  · exact lv_aload_n hC.1 hC.2.1 hd rfl h1 kk
  · exact lv_aload_n hC.1 hC.2.1 hd rfl h1 kk
theorem am_tl {P : Value → Prop} {v : Value} {st : List Value} (h : ∀ w ∈ v :: st, P w) : ∀ w ∈ st, P w := fun w hw => h w (List.mem_cons_of_mem _ hw)
theorem am_hd {P : Value → Prop} {v : Value} {st : List Value} (h : ∀ w ∈ v :: st, P w) : P v := h v List.mem_cons_self
theorem am_i_istore {k : Nat} {x : Int32} {rest : List Value} (hd : decode I.2.1 pc = .ok (.istore k, 2)) (hk : k < ls.length) (hP : am_P l B nm cl Ts NW D DA sa base I h0 d Q Z (pc + 2, ls.set k (some (.int x)), rest, h)) : am_P l B nm cl Ts NW D DA sa base I h0 d Q Z (pc, ls, .int x :: rest, h) :=
  am_golv (v := .int x) am_tl (fun _ => rfl) hk (fun p e R s m args below meth c Qm H locs lsm cells slots hC hR kk => lv_istore hC.1 hC.2.1 hd hR.has hk rfl kk) hP
theorem am_i_istore_n {k : Fin 4} {x : Int32} {rest : List Value} (hd : decode I.2.1 pc = .ok (.istore_n k, 1)) (hk : k.val < ls.length) (hP : am_P l B nm cl Ts NW D DA sa base I h0 d Q Z (pc + 1, ls.set k.val (some (.int x)), rest, h)) : am_P l B nm cl Ts NW D DA sa base I h0 d Q Z (pc, ls, .int x :: rest, h) :=
  am_golv (v := .int x) am_tl (fun _ => rfl) hk (fun p e R s m args below meth c Qm H locs lsm cells slots hC hR kk => lv_istore_n hC.1 hC.2.1 hd rfl hR.has hk rfl kk) hP
theorem am_i_astore {k : Nat} {v : Value} {rest : List Value} (hd : decode I.2.1 pc = .ok (.astore k, 2)) (hv : am_isR v) (hk : k < ls.length) (hP : am_P l B nm cl Ts NW D DA sa base I h0 d Q Z (pc + 2, ls.set k (some v), rest, h)) : am_P l B nm cl Ts NW D DA sa base I h0 d Q Z (pc, ls, v :: rest, h) := by
  refine am_golv (v := v) am_tl (fun _ => am_isR_cat hv) hk (fun p e R s m args below meth c Qm H locs lsm cells slots hC hR kk => ?_) hP
  rcases hv with rfl | ⟨a, rfl⟩ | ⟨j, rfl⟩
  · exact lv_astoreN hC.1 hC.2.1 hd hR.has hk rfl kk
  · exact lv_astore hC.1 hC.2.1 hd hR.has hk rfl kk
  · exact lv_astore hC.1 hC.2.1 hd hR.has hk rfl kk
theorem am_i_astore_n {k : Fin 4} {v : Value} {rest : List Value} (hd : decode I.2.1 pc = .ok (.astore_n k, 1)) (hv : am_isR v) (hk : k.val < ls.length) (hP : am_P l B nm cl Ts NW D DA sa base I h0 d Q Z (pc + 1, ls.set k.val (some v), rest, h)) : am_P l B nm cl Ts NW D DA sa base I h0 d Q Z (pc, ls, v :: rest, h) := by
  refine am_golv (v := v) am_tl (fun _ => am_isR_cat hv) hk (fun p e R s m args below meth c Qm H locs lsm cells slots hC hR kk => ?_) hP
  rcases hv with rfl | ⟨a, rfl⟩ | ⟨j, rfl⟩
  · exact lv_astore_nN hC.1 hC.2.1 hd rfl hR.has hk rfl kk
  · exact lv_astore_n hC.1 hC.2.1 hd rfl hR.has hk rfl kk
  · exact lv_astore_n hC.1 hC.2.1 hd rfl hR.has hk rfl kk
theorem am_i_iinc {k : Nat} {n : Int} {x : Int32} (hd : decode I.2.1 pc = .ok (.iinc k n, 3)) (hx : ls[k]? = some (some (.int x))) (hP : am_P l B nm cl Ts NW D DA sa base I h0 d Q Z (pc + 3, ls.set k (some (.int (x + Int32.ofInt n))), st, h)) : am_P l B nm cl Ts NW D DA sa base I h0 d Q Z (pc, ls, st, h) := by
  have hk : k < ls.length := (List.getElem?_eq_some_iff.mp hx).1
  refine am_golv (v := .int (x + Int32.ofInt n)) id (fun _ => rfl) hk (fun p e R s m args below meth c Qm H locs lsm cells slots hC hR kk => ?_) hP
  obtain ⟨q, hq⟩ := List.getElem?_of_mem (am_lv_mem.mpr ⟨.int x, hx, rfl⟩ : (k, am_cv sa base (.int x)) ∈ am_lv sa base ls)
  exact lv_iinc (k := q) hC.1 hC.2.1 hd hR.has hq rfl hk rfl kk
end AMI
