/-! one instruction: numbers, operands, branches -/
section AMJ
variable {l : Launch} {B : am_B} {nm : Nat → String} {my : Nat → MethodName} {cl : List vw_C} {Ts NW : List Cond} {D : va_G} {DA : FieldType → ClassId} {sa : Nat → Nat} {base : Nat}
variable {I : am_I} {h0 : am_H} {d : Nat} {Q : Option Value → am_H → Prop} {Z : Option Value → am_H → State → Array Value → List Frame → State → Prop} {pc : Nat} {ls : List (Option Value)} {st rest : List Value} {h : am_H}
theorem am_i_iadd {x y : Int32} (hd : decode I.2.1 pc = .ok (.iadd, 1)) (hP : am_P l B nm cl Ts NW D DA sa base I h0 d Q Z (pc + 1, ls, .int (x + y) :: rest, h)) : am_P l B nm cl Ts NW D DA sa base I h0 d Q Z (pc, ls, .int y :: .int x :: rest, h) :=
  am_gost (fun a => List.forall_mem_cons.mpr ⟨rfl, am_tl (am_tl a)⟩) (fun p e R s m args below meth c Qm H locs lsm cells slots hC hst hR k => lv_iadd hC.1 hC.2.1 hd k) hP
theorem am_i_isub {x y : Int32} (hd : decode I.2.1 pc = .ok (.isub, 1)) (hP : am_P l B nm cl Ts NW D DA sa base I h0 d Q Z (pc + 1, ls, .int (x - y) :: rest, h)) : am_P l B nm cl Ts NW D DA sa base I h0 d Q Z (pc, ls, .int y :: .int x :: rest, h) :=
  am_gost (fun a => List.forall_mem_cons.mpr ⟨rfl, am_tl (am_tl a)⟩) (fun p e R s m args below meth c Qm H locs lsm cells slots hC hst hR k => lv_isub hC.1 hC.2.1 hd k) hP
theorem am_i_imul {x y : Int32} (hd : decode I.2.1 pc = .ok (.imul, 1)) (hP : am_P l B nm cl Ts NW D DA sa base I h0 d Q Z (pc + 1, ls, .int (x * y) :: rest, h)) : am_P l B nm cl Ts NW D DA sa base I h0 d Q Z (pc, ls, .int y :: .int x :: rest, h) :=
  am_gost (fun a => List.forall_mem_cons.mpr ⟨rfl, am_tl (am_tl a)⟩) (fun p e R s m args below meth c Qm H locs lsm cells slots hC hst hR k => lv_imul hC.1 hC.2.1 hd k) hP
theorem am_i_iand {x y : Int32} (hd : decode I.2.1 pc = .ok (.iand, 1)) (hP : am_P l B nm cl Ts NW D DA sa base I h0 d Q Z (pc + 1, ls, .int (x &&& y) :: rest, h)) : am_P l B nm cl Ts NW D DA sa base I h0 d Q Z (pc, ls, .int y :: .int x :: rest, h) :=
  am_gost (fun a => List.forall_mem_cons.mpr ⟨rfl, am_tl (am_tl a)⟩) (fun p e R s m args below meth c Qm H locs lsm cells slots hC hst hR k => lv_iand hC.1 hC.2.1 hd k) hP
theorem am_i_ishr {x y : Int32} (hd : decode I.2.1 pc = .ok (.ishr, 1)) (hP : am_P l B nm cl Ts NW D DA sa base I h0 d Q Z (pc + 1, ls, .int (x >>> (y &&& 31)) :: rest, h)) : am_P l B nm cl Ts NW D DA sa base I h0 d Q Z (pc, ls, .int y :: .int x :: rest, h) :=
  am_gost (fun a => List.forall_mem_cons.mpr ⟨rfl, am_tl (am_tl a)⟩) (fun p e R s m args below meth c Qm H locs lsm cells slots hC hst hR k => lv_ishr hC.1 hC.2.1 hd k) hP
theorem am_i_iushr {x y : Int32} (hd : decode I.2.1 pc = .ok (.iushr, 1)) (hP : am_P l B nm cl Ts NW D DA sa base I h0 d Q Z (pc + 1, ls, .int ((x.toUInt32 >>> (y.toUInt32 &&& Int32.toUInt32 31)).toInt32) :: rest, h)) : am_P l B nm cl Ts NW D DA sa base I h0 d Q Z (pc, ls, .int y :: .int x :: rest, h) :=
  am_gost (fun a => List.forall_mem_cons.mpr ⟨rfl, am_tl (am_tl a)⟩) (fun p e R s m args below meth c Qm H locs lsm cells slots hC hst hR k => lv_iushr hC.1 hC.2.1 hd rfl k) hP
theorem am_i_idiv {x y : Int32} (hne : ¬ y = 0) (hd : decode I.2.1 pc = .ok (.idiv, 1)) (hP : am_P l B nm cl Ts NW D DA sa base I h0 d Q Z (pc + 1, ls, .int (x / y) :: rest, h)) : am_P l B nm cl Ts NW D DA sa base I h0 d Q Z (pc, ls, .int y :: .int x :: rest, h) :=
  am_gost (fun a => List.forall_mem_cons.mpr ⟨rfl, am_tl (am_tl a)⟩) (fun p e R s m args below meth c Qm H locs lsm cells slots hC hst hR k => lv_idiv hC.1 hC.2.1 hd hne k) hP
theorem am_i_i2b {x : Int32} (hd : decode I.2.1 pc = .ok (.i2b, 1)) (hP : am_P l B nm cl Ts NW D DA sa base I h0 d Q Z (pc + 1, ls, .int x.toInt8.toInt32 :: rest, h)) : am_P l B nm cl Ts NW D DA sa base I h0 d Q Z (pc, ls, .int x :: rest, h) :=
  am_gost (fun a => List.forall_mem_cons.mpr ⟨rfl, am_tl a⟩) (fun p e R s m args below meth c Qm H locs lsm cells slots hC hst hR k => lv_i2b hC.1 hC.2.1 hd rfl k) hP
theorem am_cc {st : List Value} {v : Value} (hst : ∀ w ∈ v :: st, w.category = 1) : (am_cv sa base v).category = 1 := by rw [am_cv_cat]; exact am_hd hst
theorem am_i_dup {v : Value} (hd : decode I.2.1 pc = .ok (.dup, 1)) (hP : am_P l B nm cl Ts NW D DA sa base I h0 d Q Z (pc + 1, ls, v :: v :: rest, h)) : am_P l B nm cl Ts NW D DA sa base I h0 d Q Z (pc, ls, v :: rest, h) :=
  am_gost (fun a => List.forall_mem_cons.mpr ⟨am_hd a, a⟩) (fun p e R s m args below meth c Qm H locs lsm cells slots hC hst hR k => lv_dup hC.1 hC.2.1 hd (am_cc hst) k) hP
theorem am_i_dup_x1 {v w : Value} (hd : decode I.2.1 pc = .ok (.dup_x1, 1)) (hP : am_P l B nm cl Ts NW D DA sa base I h0 d Q Z (pc + 1, ls, v :: w :: v :: rest, h)) : am_P l B nm cl Ts NW D DA sa base I h0 d Q Z (pc, ls, v :: w :: rest, h) :=
  am_gost (fun a => List.forall_mem_cons.mpr ⟨am_hd a, List.forall_mem_cons.mpr ⟨am_hd (am_tl a), List.forall_mem_cons.mpr ⟨am_hd a, am_tl (am_tl a)⟩⟩⟩) (fun p e R s m args below meth c Qm H locs lsm cells slots hC hst hR k => lv_dup_x1 hC.1 hC.2.1 hd (am_cc hst) (am_cc (am_tl hst)) k) hP
theorem am_i_dup2 {v w : Value} (hd : decode I.2.1 pc = .ok (.dup2, 1)) (hP : am_P l B nm cl Ts NW D DA sa base I h0 d Q Z (pc + 1, ls, v :: w :: v :: w :: rest, h)) : am_P l B nm cl Ts NW D DA sa base I h0 d Q Z (pc, ls, v :: w :: rest, h) :=
  am_gost (fun a => List.forall_mem_cons.mpr ⟨am_hd a, List.forall_mem_cons.mpr ⟨am_hd (am_tl a), a⟩⟩) (fun p e R s m args below meth c Qm H locs lsm cells slots hC hst hR k => lv_dup2_11 hC.1 hC.2.1 hd (am_cc hst) (am_cc (am_tl hst)) k) hP
theorem am_i_pop {v : Value} (hd : decode I.2.1 pc = .ok (.pop, 1)) (hP : am_P l B nm cl Ts NW D DA sa base I h0 d Q Z (pc + 1, ls, rest, h)) : am_P l B nm cl Ts NW D DA sa base I h0 d Q Z (pc, ls, v :: rest, h) :=
  am_gost am_tl (fun p e R s m args below meth c Qm H locs lsm cells slots hC hst hR k => lv_pop hC.1 hC.2.1 hd (am_cc hst) k) hP
theorem am_i_goto {off : Int} {tgt : Nat} (hd : decode I.2.1 pc = .ok (.goto off, 3)) (ht : (pc : Int) + off = (tgt : Int)) (hP : am_P l B nm cl Ts NW D DA sa base I h0 d Q Z (tgt, ls, st, h)) : am_P l B nm cl Ts NW D DA sa base I h0 d Q Z (pc, ls, st, h) :=
  am_gost id (fun p e R s m args below meth c Qm H locs lsm cells slots hC hst hR k => lv_goto hC.1 hC.2.1 hd ht k) hP
theorem am_i_c1eq {x : Int32} {off : Int} {tgt : Nat} (hd : decode I.2.1 pc = .ok (.ifCond .eq off, 3)) (ht : (pc : Int) + off = (tgt : Int)) (h1 : x = 0 → am_P l B nm cl Ts NW D DA sa base I h0 d Q Z (tgt, ls, rest, h)) (h2 : ¬ (x = 0) → am_P l B nm cl Ts NW D DA sa base I h0 d Q Z (pc + 3, ls, rest, h)) : am_P l B nm cl Ts NW D DA sa base I h0 d Q Z (pc, ls, .int x :: rest, h) := by
  by_cases hc : x = 0
  · exact am_gost am_tl (fun p e R s m args below meth c Qm H locs lsm cells slots hC hst hR k => lv_if_eq hC.1 hC.2.1 hd ht (fun _ => k) (fun hn => absurd hc hn)) (h1 hc)
  · exact am_gost am_tl (fun p e R s m args below meth c Qm H locs lsm cells slots hC hst hR k => lv_if_eq hC.1 hC.2.1 hd ht (fun hn => absurd hn hc) (fun _ => k)) (h2 hc)
theorem am_i_c2eq {x y : Int32} {off : Int} {tgt : Nat} (hd : decode I.2.1 pc = .ok (.if_icmp .eq off, 3)) (ht : (pc : Int) + off = (tgt : Int)) (h1 : x = y → am_P l B nm cl Ts NW D DA sa base I h0 d Q Z (tgt, ls, rest, h)) (h2 : ¬ (x = y) → am_P l B nm cl Ts NW D DA sa base I h0 d Q Z (pc + 3, ls, rest, h)) : am_P l B nm cl Ts NW D DA sa base I h0 d Q Z (pc, ls, .int y :: .int x :: rest, h) := by
  by_cases hc : x = y
  · exact am_gost (fun a => am_tl (am_tl a)) (fun p e R s m args below meth c Qm H locs lsm cells slots hC hst hR k => lv_icmp_eq hC.1 hC.2.1 hd ht (fun _ => k) (fun hn => absurd hc hn)) (h1 hc)
  · exact am_gost (fun a => am_tl (am_tl a)) (fun p e R s m args below meth c Qm H locs lsm cells slots hC hst hR k => lv_icmp_eq hC.1 hC.2.1 hd ht (fun hn => absurd hn hc) (fun _ => k)) (h2 hc)
theorem am_i_c1ne {x : Int32} {off : Int} {tgt : Nat} (hd : decode I.2.1 pc = .ok (.ifCond .ne off, 3)) (ht : (pc : Int) + off = (tgt : Int)) (h1 : ¬ x = 0 → am_P l B nm cl Ts NW D DA sa base I h0 d Q Z (tgt, ls, rest, h)) (h2 : ¬ (¬ x = 0) → am_P l B nm cl Ts NW D DA sa base I h0 d Q Z (pc + 3, ls, rest, h)) : am_P l B nm cl Ts NW D DA sa base I h0 d Q Z (pc, ls, .int x :: rest, h) := by
  by_cases hc : ¬ x = 0
  · exact am_gost am_tl (fun p e R s m args below meth c Qm H locs lsm cells slots hC hst hR k => lv_if_ne hC.1 hC.2.1 hd ht (fun _ => k) (fun hn => absurd hn hc)) (h1 hc)
  · exact am_gost am_tl (fun p e R s m args below meth c Qm H locs lsm cells slots hC hst hR k => lv_if_ne hC.1 hC.2.1 hd ht (fun hn => absurd hn hc) (fun _ => k)) (h2 hc)
theorem am_i_c2ne {x y : Int32} {off : Int} {tgt : Nat} (hd : decode I.2.1 pc = .ok (.if_icmp .ne off, 3)) (ht : (pc : Int) + off = (tgt : Int)) (h1 : ¬ x = y → am_P l B nm cl Ts NW D DA sa base I h0 d Q Z (tgt, ls, rest, h)) (h2 : ¬ (¬ x = y) → am_P l B nm cl Ts NW D DA sa base I h0 d Q Z (pc + 3, ls, rest, h)) : am_P l B nm cl Ts NW D DA sa base I h0 d Q Z (pc, ls, .int y :: .int x :: rest, h) := by
  by_cases hc : ¬ x = y
  · exact am_gost (fun a => am_tl (am_tl a)) (fun p e R s m args below meth c Qm H locs lsm cells slots hC hst hR k => lv_icmp_ne hC.1 hC.2.1 hd ht (fun _ => k) (fun hn => absurd hn hc)) (h1 hc)
  · exact am_gost (fun a => am_tl (am_tl a)) (fun p e R s m args below meth c Qm H locs lsm cells slots hC hst hR k => lv_icmp_ne hC.1 hC.2.1 hd ht (fun hn => absurd hn hc) (fun _ => k)) (h2 hc)
theorem am_i_c1lt {x : Int32} {off : Int} {tgt : Nat} (hd : decode I.2.1 pc = .ok (.ifCond .lt off, 3)) (ht : (pc : Int) + off = (tgt : Int)) (h1 : x < 0 → am_P l B nm cl Ts NW D DA sa base I h0 d Q Z (tgt, ls, rest, h)) (h2 : ¬ (x < 0) → am_P l B nm cl Ts NW D DA sa base I h0 d Q Z (pc + 3, ls, rest, h)) : am_P l B nm cl Ts NW D DA sa base I h0 d Q Z (pc, ls, .int x :: rest, h) := by
  by_cases hc : x < 0
  · exact am_gost am_tl (fun p e R s m args below meth c Qm H locs lsm cells slots hC hst hR k => lv_if_lt hC.1 hC.2.1 hd ht (fun _ => k) (fun hn => absurd hc hn)) (h1 hc)
  · exact am_gost am_tl (fun p e R s m args below meth c Qm H locs lsm cells slots hC hst hR k => lv_if_lt hC.1 hC.2.1 hd ht (fun hn => absurd hn hc) (fun _ => k)) (h2 hc)
theorem am_i_c2lt {x y : Int32} {off : Int} {tgt : Nat} (hd : decode I.2.1 pc = .ok (.if_icmp .lt off, 3)) (ht : (pc : Int) + off = (tgt : Int)) (h1 : x < y → am_P l B nm cl Ts NW D DA sa base I h0 d Q Z (tgt, ls, rest, h)) (h2 : ¬ (x < y) → am_P l B nm cl Ts NW D DA sa base I h0 d Q Z (pc + 3, ls, rest, h)) : am_P l B nm cl Ts NW D DA sa base I h0 d Q Z (pc, ls, .int y :: .int x :: rest, h) := by
  by_cases hc : x < y
  · exact am_gost (fun a => am_tl (am_tl a)) (fun p e R s m args below meth c Qm H locs lsm cells slots hC hst hR k => lv_icmp_lt hC.1 hC.2.1 hd ht (fun _ => k) (fun hn => absurd hc hn)) (h1 hc)
  · exact am_gost (fun a => am_tl (am_tl a)) (fun p e R s m args below meth c Qm H locs lsm cells slots hC hst hR k => lv_icmp_lt hC.1 hC.2.1 hd ht (fun hn => absurd hn hc) (fun _ => k)) (h2 hc)
theorem am_i_c1ge {x : Int32} {off : Int} {tgt : Nat} (hd : decode I.2.1 pc = .ok (.ifCond .ge off, 3)) (ht : (pc : Int) + off = (tgt : Int)) (h1 : 0 ≤ x → am_P l B nm cl Ts NW D DA sa base I h0 d Q Z (tgt, ls, rest, h)) (h2 : ¬ (0 ≤ x) → am_P l B nm cl Ts NW D DA sa base I h0 d Q Z (pc + 3, ls, rest, h)) : am_P l B nm cl Ts NW D DA sa base I h0 d Q Z (pc, ls, .int x :: rest, h) := by
  by_cases hc : 0 ≤ x
  · exact am_gost am_tl (fun p e R s m args below meth c Qm H locs lsm cells slots hC hst hR k => lv_if_ge hC.1 hC.2.1 hd ht (fun _ => k) (fun hn => absurd hc hn)) (h1 hc)
  · exact am_gost am_tl (fun p e R s m args below meth c Qm H locs lsm cells slots hC hst hR k => lv_if_ge hC.1 hC.2.1 hd ht (fun hn => absurd hn hc) (fun _ => k)) (h2 hc)
theorem am_i_c2ge {x y : Int32} {off : Int} {tgt : Nat} (hd : decode I.2.1 pc = .ok (.if_icmp .ge off, 3)) (ht : (pc : Int) + off = (tgt : Int)) (h1 : y ≤ x → am_P l B nm cl Ts NW D DA sa base I h0 d Q Z (tgt, ls, rest, h)) (h2 : ¬ (y ≤ x) → am_P l B nm cl Ts NW D DA sa base I h0 d Q Z (pc + 3, ls, rest, h)) : am_P l B nm cl Ts NW D DA sa base I h0 d Q Z (pc, ls, .int y :: .int x :: rest, h) := by
  by_cases hc : y ≤ x
  · exact am_gost (fun a => am_tl (am_tl a)) (fun p e R s m args below meth c Qm H locs lsm cells slots hC hst hR k => lv_icmp_ge hC.1 hC.2.1 hd ht (fun _ => k) (fun hn => absurd hc hn)) (h1 hc)
  · exact am_gost (fun a => am_tl (am_tl a)) (fun p e R s m args below meth c Qm H locs lsm cells slots hC hst hR k => lv_icmp_ge hC.1 hC.2.1 hd ht (fun hn => absurd hn hc) (fun _ => k)) (h2 hc)
theorem am_i_c1gt {x : Int32} {off : Int} {tgt : Nat} (hd : decode I.2.1 pc = .ok (.ifCond .gt off, 3)) (ht : (pc : Int) + off = (tgt : Int)) (h1 : 0 < x → am_P l B nm cl Ts NW D DA sa base I h0 d Q Z (tgt, ls, rest, h)) (h2 : ¬ (0 < x) → am_P l B nm cl Ts NW D DA sa base I h0 d Q Z (pc + 3, ls, rest, h)) : am_P l B nm cl Ts NW D DA sa base I h0 d Q Z (pc, ls, .int x :: rest, h) := by
  by_cases hc : 0 < x
  · exact am_gost am_tl (fun p e R s m args below meth c Qm H locs lsm cells slots hC hst hR k => lv_if_gt hC.1 hC.2.1 hd ht (fun _ => k) (fun hn => absurd hc hn)) (h1 hc)
  · exact am_gost am_tl (fun p e R s m args below meth c Qm H locs lsm cells slots hC hst hR k => lv_if_gt hC.1 hC.2.1 hd ht (fun hn => absurd hn hc) (fun _ => k)) (h2 hc)
theorem am_i_c2gt {x y : Int32} {off : Int} {tgt : Nat} (hd : decode I.2.1 pc = .ok (.if_icmp .gt off, 3)) (ht : (pc : Int) + off = (tgt : Int)) (h1 : y < x → am_P l B nm cl Ts NW D DA sa base I h0 d Q Z (tgt, ls, rest, h)) (h2 : ¬ (y < x) → am_P l B nm cl Ts NW D DA sa base I h0 d Q Z (pc + 3, ls, rest, h)) : am_P l B nm cl Ts NW D DA sa base I h0 d Q Z (pc, ls, .int y :: .int x :: rest, h) := by
  by_cases hc : y < x
  · exact am_gost (fun a => am_tl (am_tl a)) (fun p e R s m args below meth c Qm H locs lsm cells slots hC hst hR k => lv_icmp_gt hC.1 hC.2.1 hd ht (fun _ => k) (fun hn => absurd hc hn)) (h1 hc)
  · exact am_gost (fun a => am_tl (am_tl a)) (fun p e R s m args below meth c Qm H locs lsm cells slots hC hst hR k => lv_icmp_gt hC.1 hC.2.1 hd ht (fun hn => absurd hn hc) (fun _ => k)) (h2 hc)
theorem am_i_c1le {x : Int32} {off : Int} {tgt : Nat} (hd : decode I.2.1 pc = .ok (.ifCond .le off, 3)) (ht : (pc : Int) + off = (tgt : Int)) (h1 : x ≤ 0 → am_P l B nm cl Ts NW D DA sa base I h0 d Q Z (tgt, ls, rest, h)) (h2 : ¬ (x ≤ 0) → am_P l B nm cl Ts NW D DA sa base I h0 d Q Z (pc + 3, ls, rest, h)) : am_P l B nm cl Ts NW D DA sa base I h0 d Q Z (pc, ls, .int x :: rest, h) := by
  by_cases hc : x ≤ 0
  · exact am_gost am_tl (fun p e R s m args below meth c Qm H locs lsm cells slots hC hst hR k => lv_if_le hC.1 hC.2.1 hd ht (fun _ => k) (fun hn => absurd hc hn)) (h1 hc)
  · exact am_gost am_tl (fun p e R s m args below meth c Qm H locs lsm cells slots hC hst hR k => lv_if_le hC.1 hC.2.1 hd ht (fun hn => absurd hn hc) (fun _ => k)) (h2 hc)
theorem am_i_c2le {x y : Int32} {off : Int} {tgt : Nat} (hd : decode I.2.1 pc = .ok (.if_icmp .le off, 3)) (ht : (pc : Int) + off = (tgt : Int)) (h1 : x ≤ y → am_P l B nm cl Ts NW D DA sa base I h0 d Q Z (tgt, ls, rest, h)) (h2 : ¬ (x ≤ y) → am_P l B nm cl Ts NW D DA sa base I h0 d Q Z (pc + 3, ls, rest, h)) : am_P l B nm cl Ts NW D DA sa base I h0 d Q Z (pc, ls, .int y :: .int x :: rest, h) := by
  by_cases hc : x ≤ y
  · exact am_gost (fun a => am_tl (am_tl a)) (fun p e R s m args below meth c Qm H locs lsm cells slots hC hst hR k => lv_icmp_le hC.1 hC.2.1 hd ht (fun _ => k) (fun hn => absurd hc hn)) (h1 hc)
  · exact am_gost (fun a => am_tl (am_tl a)) (fun p e R s m args below meth c Qm H locs lsm cells slots hC hst hR k => lv_icmp_le hC.1 hC.2.1 hd ht (fun hn => absurd hn hc) (fun _ => k)) (h2 hc)
theorem am_cvR {v : Value} (hv : am_isR v) : ∃ r : Option Nat, am_cv sa base v = va_rf r ∧ (v = .null ↔ r = none) := by
  rcases hv with rfl | ⟨a, rfl⟩ | ⟨j, rfl⟩
  · exact ⟨none, rfl, by simp⟩
  · exact ⟨some (base + a), rfl, by simp⟩
  · exact ⟨some (sa j), rfl, by simp⟩
theorem am_i_ifnull {v : Value} {off : Int} {tgt : Nat} (hd : decode I.2.1 pc = .ok (.ifnull off, 3)) (hv : am_isR v) (ht : (pc : Int) + off = (tgt : Int)) (h1 : v = .null → am_P l B nm cl Ts NW D DA sa base I h0 d Q Z (tgt, ls, rest, h)) (h2 : ¬ v = .null → am_P l B nm cl Ts NW D DA sa base I h0 d Q Z (pc + 3, ls, rest, h)) : am_P l B nm cl Ts NW D DA sa base I h0 d Q Z (pc, ls, v :: rest, h) := by
  rcases hv with rfl | ⟨a, rfl⟩ | ⟨j, rfl⟩
  · exact am_gost am_tl (fun p e R s m args below meth c Qm H locs lsm cells slots hC hst hR k => lv_ifnullN hC.1 hC.2.1 hd ht k) (h1 rfl)
  · exact am_gost am_tl (fun p e R s m args below meth c Qm H locs lsm cells slots hC hst hR k => lv_ifnull hC.1 hC.2.1 hd k) (h2 (by simp))
  · exact am_gost am_tl (fun p e R s m args below meth c Qm H locs lsm cells slots hC hst hR k => lv_ifnull hC.1 hC.2.1 hd k) (h2 (by simp))
theorem am_i_ifnonnull {v : Value} {off : Int} {tgt : Nat} (hd : decode I.2.1 pc = .ok (.ifnonnull off, 3)) (hv : am_isR v) (ht : (pc : Int) + off = (tgt : Int)) (h1 : ¬ v = .null → am_P l B nm cl Ts NW D DA sa base I h0 d Q Z (tgt, ls, rest, h)) (h2 : ¬ ¬ v = .null → am_P l B nm cl Ts NW D DA sa base I h0 d Q Z (pc + 3, ls, rest, h)) : am_P l B nm cl Ts NW D DA sa base I h0 d Q Z (pc, ls, v :: rest, h) := by
  rcases hv with rfl | ⟨a, rfl⟩ | ⟨j, rfl⟩
  · exact am_gost am_tl (fun p e R s m args below meth c Qm H locs lsm cells slots hC hst hR k => lv_ifnonnullN hC.1 hC.2.1 hd k) (h2 (by simp))
  · exact am_gost am_tl (fun p e R s m args below meth c Qm H locs lsm cells slots hC hst hR k => lv_ifnonnull hC.1 hC.2.1 hd ht k) (h1 (by simp))
  · exact am_gost am_tl (fun p e R s m args below meth c Qm H locs lsm cells slots hC hst hR k => lv_ifnonnull hC.1 hC.2.1 hd ht k) (h1 (by simp))
/-- two references differ as the numbers of their cells do -/
theorem am_cvEq {v w : Value} (hK : ∀ j ty vs, B.2.2.2 j = some (ty, vs) → sa j < base) (hc : am_cmpR B v w) : ∃ rv rw_ : Option Nat, am_cv sa base v = va_rf rv ∧ am_cv sa base w = va_rf rw_ ∧ (v = w ↔ rv = rw_) := by
  obtain ⟨hv, hw, hc⟩ := hc
  rcases hc with rfl | ⟨hc, hk⟩
  · obtain ⟨r, e1, -⟩ := am_cvR (sa := sa) (base := base) hv
    exact ⟨r, r, e1, e1, by simp⟩
  have hK2 : ∀ j, v = .retAddr j ∨ w = .retAddr j → sa j < base := fun j hj => by
    obtain ⟨x, hx⟩ := Option.isSome_iff_exists.mp (hk j hj)
    exact hK j x.1 x.2 hx
  rcases hv with rfl | ⟨a, rfl⟩ | ⟨i, rfl⟩ <;> rcases hw with rfl | ⟨b, rfl⟩ | ⟨j, rfl⟩
  · exact ⟨none, none, rfl, rfl, by simp⟩
  · exact ⟨none, some (base + b), rfl, rfl, by simp⟩
  · exact ⟨none, some (sa j), rfl, rfl, by simp⟩
  · exact ⟨some (base + a), none, rfl, rfl, by simp⟩
  · exact ⟨some (base + a), some (base + b), rfl, rfl, by simp⟩
  · refine ⟨some (base + a), some (sa j), rfl, rfl, ?_⟩
    have := hK2 j (Or.inr rfl)
    constructor
    · intro q; cases q
    · intro q
      have := Option.some.inj q
      omega
  · exact ⟨some (sa i), none, rfl, rfl, by simp⟩
  · refine ⟨some (sa i), some (base + b), rfl, rfl, ?_⟩
    have := hK2 i (Or.inl rfl)
    constructor
    · intro q; cases q
    · intro q
      have := Option.some.inj q
      omega
  · exact absurd ⟨i, j, rfl, rfl⟩ hc
theorem am_i_acmpeq {v w : Value} {off : Int} {tgt : Nat} (hd : decode I.2.1 pc = .ok (.if_acmp .eq off, 3)) (hv : am_cmpR B v w) (ht : (pc : Int) + off = (tgt : Int)) (h1 : v = w → am_P l B nm cl Ts NW D DA sa base I h0 d Q Z (tgt, ls, rest, h)) (h2 : ¬ v = w → am_P l B nm cl Ts NW D DA sa base I h0 d Q Z (pc + 3, ls, rest, h)) : am_P l B nm cl Ts NW D DA sa base I h0 d Q Z (pc, ls, w :: v :: rest, h) := by
  by_cases hc : v = w
  · refine am_gost (fun a => am_tl (am_tl a)) (fun p e R s m args below meth c Qm H locs lsm cells slots hC hst hR k => ?_) (h1 hc)
    obtain ⟨rv, rw_, e1, e2, e3⟩ := am_cvEq (sa := sa) (base := base) (fun j ty vs hj => (hC.2.2.2.2.2.1.2.2.2.1 j ty vs hj).1) hv
    show W p l e R s m args below meth c H locs cells slots Qm (F0 m pc lsm (am_cv sa base w :: am_cv sa base v :: rest.map (am_cv sa base)))
    rw [e1, e2]
    exact lv_acmp_eq hC.1 hC.2.1 hd ht (fun _ => k) (fun hn => absurd (e3.mp hc) hn)
  · refine am_gost (fun a => am_tl (am_tl a)) (fun p e R s m args below meth c Qm H locs lsm cells slots hC hst hR k => ?_) (h2 hc)
    obtain ⟨rv, rw_, e1, e2, e3⟩ := am_cvEq (sa := sa) (base := base) (fun j ty vs hj => (hC.2.2.2.2.2.1.2.2.2.1 j ty vs hj).1) hv
    show W p l e R s m args below meth c H locs cells slots Qm (F0 m pc lsm (am_cv sa base w :: am_cv sa base v :: rest.map (am_cv sa base)))
    rw [e1, e2]
    exact lv_acmp_eq hC.1 hC.2.1 hd ht (fun hn => absurd (e3.mpr hn) hc) (fun _ => k)
theorem am_i_acmpne {v w : Value} {off : Int} {tgt : Nat} (hd : decode I.2.1 pc = .ok (.if_acmp .ne off, 3)) (hv : am_cmpR B v w) (ht : (pc : Int) + off = (tgt : Int)) (h1 : ¬ v = w → am_P l B nm cl Ts NW D DA sa base I h0 d Q Z (tgt, ls, rest, h)) (h2 : ¬ ¬ v = w → am_P l B nm cl Ts NW D DA sa base I h0 d Q Z (pc + 3, ls, rest, h)) : am_P l B nm cl Ts NW D DA sa base I h0 d Q Z (pc, ls, w :: v :: rest, h) := by
  by_cases hc : v = w
  · refine am_gost (fun a => am_tl (am_tl a)) (fun p e R s m args below meth c Qm H locs lsm cells slots hC hst hR k => ?_) (h2 (fun q => q hc))
    obtain ⟨rv, rw_, e1, e2, e3⟩ := am_cvEq (sa := sa) (base := base) (fun j ty vs hj => (hC.2.2.2.2.2.1.2.2.2.1 j ty vs hj).1) hv
    show W p l e R s m args below meth c H locs cells slots Qm (F0 m pc lsm (am_cv sa base w :: am_cv sa base v :: rest.map (am_cv sa base)))
    rw [e1, e2]
    exact lv_acmp_ne hC.1 hC.2.1 hd ht (fun hn => absurd (e3.mp hc) hn) (fun _ => k)
  · refine am_gost (fun a => am_tl (am_tl a)) (fun p e R s m args below meth c Qm H locs lsm cells slots hC hst hR k => ?_) (h1 hc)
    obtain ⟨rv, rw_, e1, e2, e3⟩ := am_cvEq (sa := sa) (base := base) (fun j ty vs hj => (hC.2.2.2.2.2.1.2.2.2.1 j ty vs hj).1) hv
    show W p l e R s m args below meth c H locs cells slots Qm (F0 m pc lsm (am_cv sa base w :: am_cv sa base v :: rest.map (am_cv sa base)))
    rw [e1, e2]
    exact lv_acmp_ne hC.1 hC.2.1 hd ht (fun _ => k) (fun hn => absurd (e3.mpr hn) hc)
theorem am_i_tableswitch {dflt lo hi : Int} {offs : Array Int} {x : Int32} {tgt len : Nat} (hd : decode I.2.1 pc = .ok (.tableswitch dflt lo hi offs, len)) (ht : (x.toInt < lo ∨ hi < x.toInt) ∧ (pc : Int) + dflt = (tgt : Int) ∨ ¬ x.toInt < lo ∧ ¬ hi < x.toInt ∧ ∃ off, offs[(x.toInt - lo).toNat]? = some off ∧ (pc : Int) + off = (tgt : Int)) (hP : am_P l B nm cl Ts NW D DA sa base I h0 d Q Z (tgt, ls, rest, h)) : am_P l B nm cl Ts NW D DA sa base I h0 d Q Z (pc, ls, .int x :: rest, h) := by
  rcases ht with ⟨h1, h2⟩ | ⟨h1, h2, off, h3, h4⟩
  · exact am_gost am_tl (fun p e R s m args below meth c Qm H locs lsm cells slots hC hst hR k => lv_tableOut hC.1 hC.2.1 hd h1 h2 k) hP
  · exact am_gost am_tl (fun p e R s m args below meth c Qm H locs lsm cells slots hC hst hR k => lv_tableIn hC.1 hC.2.1 hd h1 h2 h3 h4 k) hP
theorem am_i_lookupswitch {dflt : Int} {ps : Array (Int × Int)} {x : Int32} {tgt len : Nat} (hd : decode I.2.1 pc = .ok (.lookupswitch dflt ps, len)) (hp : (ps.toList.zip (ps.toList.drop 1)).all (fun (a, next) => a.1 < next.1) = true) (ht : (pc : Int) + Op.lookupswitch.offset ps.toList dflt x.toInt = (tgt : Int)) (hP : am_P l B nm cl Ts NW D DA sa base I h0 d Q Z (tgt, ls, rest, h)) : am_P l B nm cl Ts NW D DA sa base I h0 d Q Z (pc, ls, .int x :: rest, h) :=
  am_gost am_tl (fun p e R s m args below meth c Qm H locs lsm cells slots hC hst hR k => lv_lookup hC.1 hC.2.1 hd hp rfl ht k) hP
end AMJ
