/-! one instruction: constants, new cells, casts -/
section AMN
variable {l : Launch} {B : am_B} {nm : Nat → String} {my : Nat → MethodName} {cl : List vw_C} {Ts NW : List Cond} {D : va_G} {DA : FieldType → ClassId} {sa : Nat → Nat} {base : Nat}
variable {I : am_I} {h0 : am_H} {d : Nat} {Q : Option Value → am_H → Prop} {Z : Option Value → am_H → State → Array Value → List Frame → State → Prop} {pc : Nat} {ls : List (Option Value)} {st rest : List Value} {h : am_H}
theorem am_i_ldc {idx x y : Nat} (hT : am_Tab B nm my cl Ts NW) (hd : decode I.2.1 pc = .ok (.ldc idx, 2)) (hb : B.1 I.1 idx = (12, x, y)) (hP : am_P l B nm cl Ts NW D DA sa base I h0 d Q Z (pc + 2, ls, .int (Int32.ofNat x) :: st, h)) : am_P l B nm cl Ts NW D DA sa base I h0 d Q Z (pc, ls, st, h) :=
  am_gost (fun a => List.forall_mem_cons.mpr ⟨rfl, a⟩) (fun p e R s m args below meth c Qm H locs lsm cells slots hC _ hR k => lv_ldc hC.1 hC.2.1 hC.2.2.2.1 (hC.2.2.2.2.1 _ (hT.2.2.2.2.2.2.2.2.2.2.2.1 _ _ _ _ hb)) hd k) hP
theorem am_i_getstatic {idx j y : Nat} (hd : decode I.2.1 pc = .ok (.getstatic idx, 3)) (hb : B.1 I.1 idx = (3, j, y)) (hP : am_P l B nm cl Ts NW D DA sa base I h0 d Q Z (pc + 3, ls, .retAddr j :: st, h)) : am_P l B nm cl Ts NW D DA sa base I h0 d Q Z (pc, ls, st, h) := by
  refine am_gost (fun a => List.forall_mem_cons.mpr ⟨rfl, a⟩) (fun p e R s m args below meth c Qm H locs lsm cells slots hC _ hR k => ?_) hP
  obtain ⟨C, n, dd, ref, hZ, hrf, hlk⟩ := hC.2.2.2.2.2.1.2.2.2.2.1 _ _ _ _ hb
  subst hrf
  rcases hlk with hlk | ⟨host, hlk⟩
  · exact va_gets hC.1 hC.2.1 hZ hR.2.2.1 hC.2.2.2.1 (va_Nw.use rfl hlk) (fun x hx => hx) hd k
  · exact va_getsN hC.1 hC.2.1 hZ hR.2.2.1 hC.2.2.2.1 (va_Nw.use rfl (hC.2.2.2.2.2.1.2.1 _ hlk)) (fun x hx => hx) hd k
theorem am_sum1 (st : List Value) (h : ∀ v ∈ st, v.category = 1) : ((st.map (am_cv sa base)).map fun v => v.category).sum = st.length := by
  induction st with
  | nil => rfl
  | cons v st ih =>
    simp only [List.map_cons, List.sum_cons, List.length_cons, am_cv_cat]
    rw [ih (am_tl h), am_hd h]
    omega
theorem am_arrV_ext {cA : ClassId} {n : Nat} {f g : Nat → Value} (h : ∀ j, j < n → f j = g j) : arrV cA n f = arrV cA n g := by
  unfold arrV
  congr 1
  apply congrArg
  funext j
  exact h j.val j.isLt
theorem am_i_objInit {idx a x y : Nat} (hT : am_Tab B nm my cl Ts NW) (hd1 : 1 ≤ d) (hd : decode I.2.1 pc = .ok (.invokespecial idx, 3)) (hb : B.1 I.1 idx = (8, x, y)) (hrl : rest.length ≤ 8) (hP : am_P l B nm cl Ts NW D DA sa base I h0 d Q Z (pc + 3, ls, rest, h)) : am_P l B nm cl Ts NW D DA sa base I h0 d Q Z (pc, ls, .ref a :: rest, h) := by
  refine am_go (F' := (pc + 3, ls, rest, h)) (fun ⟨q1, q2, q3, q4⟩ => ⟨am_tl q1, q2, q3, q4⟩) (Nat.le_refl _) (Nat.le_refl _)
    (fun hF p e R s m args below meth cc Qm hC hfr hlo _ _ kk H locs lsm cells slots hR => ?_) hP
  obtain ⟨w1, w2, w3⟩ := hT.2.2.2.2.2.2.2.1 _ _ _ _ hb
  have hsum : ((rest.map (am_cv sa base)).map fun v => v.category).sum ≤ 8 := by
    rw [am_sum1 rest (am_tl hF.1)]
    exact hrl
  refine W.objInit hC.1 hC.2.1 hC.2.2.2.1 (hC.2.2.2.2.1 _ w1) (hC.2.2.2.2.1 _ w2) (hC.2.2.2.2.1 _ w3) rfl (by rw [hC.2.2.1]; exact hR.1.1.trans hF.2.2.2) rfl hd (by omega) ?_ (kk H locs lsm cells slots hR)
  show 2 * 0 + _ + 12 ≤ _
  omega
theorem am_i_cast {idx c y : Nat} {v : Value} (hT : am_Tab B nm my cl Ts NW) (hd : decode I.2.1 pc = .ok (.checkcast idx, 3)) (hb : B.1 I.1 idx = (9, c, y)) (hv : v = .null ∨ ∃ a fs, v = .ref a ∧ h[a]? = some (.inl (c, fs))) (hP : am_P l B nm cl Ts NW D DA sa base I h0 d Q Z (pc + 3, ls, v :: rest, h)) : am_P l B nm cl Ts NW D DA sa base I h0 d Q Z (pc, ls, v :: rest, h) := by
  refine am_gost id (fun p e R s m args below meth cc Qm H locs lsm cells slots hC _ hR k => ?_) hP
  rcases hv with rfl | ⟨a, fs, rfl, ha⟩
  · exact lv_castN hC.1 hC.2.1 hd k
  · have w1 := hT.2.2.2.2.2.2.2.2.1 _ _ _ _ hb
    obtain ⟨r, hr, -, cell, g1, g2, g3, -⟩ := hR.2.1.2 a _ ha
    have hcl := am_cls hC.2.2.2.2.2.1.1 hr
    rw [(hT.1 c r hr).1] at hcl
    exact va_castS hC.1 hC.2.1 hC.2.2.2.1 (hC.2.2.2.2.1 _ w1) hcl ⟨cell, g1, by rw [g3]; rfl, by rw [g2]; exact hcl.1⟩ hd k
theorem am_i_new {idx c y : Nat} {ts : List (FieldType × Bool)} (hT : am_Tab B nm my cl Ts NW) (hd : decode I.2.1 pc = .ok (.new idx, 3)) (hb : B.1 I.1 idx = (9, c, y)) (hts : B.2.2.1 c = some ts) (hP : am_P l B nm cl Ts NW D DA sa base I h0 d Q Z (pc + 3, ls, .ref h.length :: st, h ++ [.inl (c, ts.map (fun q => defaultValue q.1))])) (h1 : ∀ q ∈ ts, (defaultValue q.1).category = 1) : am_P l B nm cl Ts NW D DA sa base I h0 d Q Z (pc, ls, st, h) := by
  have w1 := hT.2.2.2.2.2.2.2.2.1 _ _ _ _ hb
  obtain ⟨r, hr⟩ := hT.2.2.2.2.2.2.2.2.2.1 c ts hts
  obtain ⟨hnm, hin, hins, hini, hnames, ty0, hty0, hB⟩ := hT.1 c r hr
  rw [hB] at hts
  cases hts
  refine am_go (F' := (pc + 3, ls, .ref h.length :: st, h ++ [.inl (c, ((List.range r.2.2).map (fun k => (ty0 k, (r.2.1 k).2.2.2))).map (fun q => defaultValue q.1))])) (fun ⟨q1, q2, q3, q4⟩ => ⟨List.forall_mem_cons.mpr ⟨rfl, q1⟩, q2, am_v1_push q3 (show am_e1 (.inl (_, _)) from fun x hx => ?_), q4⟩) (by simp) (by rw [am_sl_push]; exact Nat.le_add_right _ _)
    (fun hF p e R s m args below meth cc Qm hC _ _ hc1 hc2 kk H locs lsm cells slots hR => ?_) hP
  · obtain ⟨q, hq, rfl⟩ := List.mem_map.mp hx
    exact h1 q hq
  · have hK := hC.2.2.2.2.2.1.1
    have hKn := hK.1 c r hr
    have hlen : h0.length + cells = h.length := hR.2.2.2.1
    have hsl : am_sl h0 + slots = am_sl h := hR.2.2.2.2
    rw [am_sl_push] at hc2
    simp only [List.length_append, List.length_cons, List.length_nil] at hc1
    have hsz : am_sz (.inl (c, ((List.range r.2.2).map (fun k => (ty0 k, (r.2.1 k).2.2.2))).map (fun q => defaultValue q.1))) = r.2.2 := by simp [am_sz]
    rw [hsz] at hc2
    refine W.newcK hC.1 hC.2.1 hC.2.2.2.1 (by rw [hnm]; exact hC.2.2.2.2.1 _ w1) (hC.2.2.2.2.1 _ hins) (hC.2.2.2.2.1 _ hini) rfl hd (by omega) (by omega) hKn.2.1 rfl fun H1 kC hkC e1 z1 o1 => ?_
    have hz : H.size = base + h.length := hR.2.1.1
    rw [show Value.ref H.size = am_cv sa base (.ref h.length) by rw [hz]; rfl]
    refine kk H1 locs lsm (cells + 1) (slots + r.2.2) ⟨hR.1, hR.2.1.push z1 o1 ⟨r, hr, by simp, ?_⟩, ⟨Nat.le_trans hR.2.2.1.1 (by omega), fun x h1 h2 => (o1 x (Nat.lt_of_lt_of_le h1 hR.2.2.1.1)).trans (hR.2.2.1.2.1 x h1 h2), hR.2.2.1.2.2⟩, by simp; omega, by rw [am_sl_push, hsz]; omega⟩
    rw [← hz]
    refine (u_born ty0 hC.2.2.2.2.1 hin hKn hkC e1 hty0).to (fun k hk => ?_)
    have : (((List.range r.2.2).map (fun k => (ty0 k, (r.2.1 k).2.2.2))).map (fun q => defaultValue q.1)).getD k .null = defaultValue (ty0 k) := by
      rw [List.getD_eq_getElem?_getD, List.getElem?_map, List.getElem?_map, List.getElem?_range hk]
      rfl
    rw [this]
    cases ty0 k <;> rfl
/-- a new array -/
theorem am_gonew {pc' n : Nat} {st' : List Value} {ty : FieldType} {x : Value} (hst : (∀ v ∈ st, v.category = 1) → (∀ v ∈ st', v.category = 1)) (hx : x = .null ∨ x = .int 0)
    (hstep : ∀ (p : Program) (e : Env) (R : Room) (s : State) (m : MethodId) (args : Array Value) (below : List Frame) (meth : Method) (c : Code) (Qm : State → Prop) (H : Heap) (locs : List Loc) (lsm : Array Slot) (cells slots : Nat), am_Ctx B nm cl Ts NW D DA sa base I p s m args meth c → cells + 1 ≤ R.cells → slots + n ≤ R.slots →
      (∀ H' : Heap, H'[H.size]? = some (arrV (DA ty) n (fun _ => x)) → H'.size = H.size + 1 → (∀ q, q < H.size → H'[q]? = H[q]?) → W p l e R s m args below meth c H' locs (cells + 1) (slots + n) Qm (F0 m pc' lsm (.ref H.size :: st'.map (am_cv sa base)))) → W p l e R s m args below meth c H locs cells slots Qm (F0 m pc lsm (st.map (am_cv sa base))))
    (hP : am_P l B nm cl Ts NW D DA sa base I h0 d Q Z (pc', ls, .ref h.length :: st', h ++ [.inr (ty, List.replicate n x)])) : am_P l B nm cl Ts NW D DA sa base I h0 d Q Z (pc, ls, st, h) := by
  have hsz : am_sz (.inr (ty, List.replicate n x)) = n := by simp [am_sz]
  refine am_go (F' := (pc', ls, .ref h.length :: st', h ++ [.inr (ty, List.replicate n x)])) (fun ⟨q1, q2, q3, q4⟩ => ⟨List.forall_mem_cons.mpr ⟨rfl, hst q1⟩, q2, am_v1_push q3 (show am_e1 (.inr (_, _)) from fun y hy => ?_), q4⟩) (by simp) (by rw [am_sl_push]; exact Nat.le_add_right _ _)
    (fun hF p e R s m args below meth cc Qm hC _ _ hc1 hc2 kk H locs lsm cells slots hR => ?_) hP
  · have := List.eq_of_mem_replicate hy
    rw [this]
    rcases hx with rfl | rfl <;> rfl
  · have hlen : h0.length + cells = h.length := hR.2.2.2.1
    have hsl : am_sl h0 + slots = am_sl h := hR.2.2.2.2
    rw [am_sl_push, hsz] at hc2
    simp only [List.length_append, List.length_cons, List.length_nil] at hc1
    have hz : H.size = base + h.length := hR.2.1.1
    refine hstep p e R s m args below meth cc Qm H locs lsm cells slots hC (by omega) (by omega) (fun H1 e1 z1 o1 => ?_)
    rw [show Value.ref H.size = am_cv sa base (.ref h.length) by rw [hz]; rfl]
    refine kk H1 locs lsm (cells + 1) (slots + n) ⟨hR.1, hR.2.1.push z1 o1 ?_, ⟨Nat.le_trans hR.2.2.1.1 (by omega), fun x h1 h2 => (o1 x (Nat.lt_of_lt_of_le h1 hR.2.2.1.1)).trans (hR.2.2.1.2.1 x h1 h2), hR.2.2.1.2.2⟩, by simp; omega, by rw [am_sl_push, hsz]; omega⟩
    show H1[base + h.length]? = some (arrV (DA ty) (List.replicate n x).length _)
    rw [← hz, e1, List.length_replicate]
    congr 1
    refine am_arrV_ext (fun j hj => ?_)
    rw [List.getD_eq_getElem?_getD, List.getElem?_replicate, if_pos hj]
    rcases hx with rfl | rfl <;> rfl
theorem am_i_newarray {at_ : ArrayType} {n : Int32} {ty : FieldType} (hT : am_Tab B nm my cl Ts NW) (hd : decode I.2.1 pc = .ok (.newarray at_, 2)) (hat : newarray.typeOf at_ = ty) (hty : ty = .int ∨ ty = .byte ∨ ty = .boolean) (hn : ¬ n < 0) (hn2 : n.toNatClampNeg ≤ 100000) (hP : am_P l B nm cl Ts NW D DA sa base I h0 d Q Z (pc + 2, ls, .ref h.length :: rest, h ++ [.inr (ty, List.replicate n.toNatClampNeg (.int 0))])) : am_P l B nm cl Ts NW D DA sa base I h0 d Q Z (pc, ls, .int n :: rest, h) := by
  subst hat
  have hac : Cond.arrayClass (newarray.typeOf at_) ∈ Ts := by
    obtain ⟨w1, w2, w3⟩ := hT.2.2.2.2.2.2.2.2.2.2.2.2.2.1
    rcases hty with h | h | h <;> rw [h] <;> assumption
  have hk : am_tyk (newarray.typeOf at_) := by
    rcases hty with h | h | h
    · exact Or.inl h
    · exact Or.inr (Or.inl h)
    · exact Or.inr (Or.inr (Or.inl h))
  refine am_gonew (pc' := pc + 2) (st' := rest) (n := n.toNatClampNeg) (ty := newarray.typeOf at_) (x := .int 0) am_tl (Or.inr rfl) (fun p e R s m args below meth cc Qm H locs lsm cells slots hC hc1 hc2 k => ?_) hP
  refine va_newaK hC.1 hC.2.1 (hC.2.2.2.2.1 _ hac) rfl hd rfl hn rfl ?_ hc1 hc2 rfl fun H1 cA e1 z1 o1 hAr hNm => ?_
  · have : componentBytes (newarray.typeOf at_) ≤ 8 := by
      rcases hty with h | h | h <;> rw [h] <;> decide
    calc n.toNatClampNeg * componentBytes (newarray.typeOf at_) ≤ 100000 * 8 := Nat.mul_le_mul hn2 this
      _ ≤ 536870912 := by decide
  · have hcA : cA = DA (newarray.typeOf at_) := by
      have h2 := (hC.2.2.2.2.2.1.2.2.1 _ hk).2
      have h3 : s.vm.findClass ("[" ++ (newarray.typeOf at_).toString) = some (DA (newarray.typeOf at_)) := by
        rcases hty with h | h | h <;> rw [h] at h2 ⊢ <;> exact h2
      exact Option.some.inj (hNm.symm.trans h3)
    subst hcA
    refine k H1 ?_ z1 o1
    rw [e1]
    congr 1
    refine am_arrV_ext (fun j _ => ?_)
    rcases hty with h | h | h <;> rw [h] <;> rfl
theorem am_i_anewarray {idx c y : Nat} {n : Int32} (hT : am_Tab B nm my cl Ts NW) (hd : decode I.2.1 pc = .ok (.anewarray idx, 3)) (hb : B.1 I.1 idx = (9, c, y)) (hcr : nm c ∈ am_refs) (hn : ¬ n < 0) (hn2 : n.toNatClampNeg ≤ 100000) (hP : am_P l B nm cl Ts NW D DA sa base I h0 d Q Z (pc + 3, ls, .ref h.length :: rest, h ++ [.inr (.object (nm c), List.replicate n.toNatClampNeg .null)])) : am_P l B nm cl Ts NW D DA sa base I h0 d Q Z (pc, ls, .int n :: rest, h) := by
  have hk : am_tyk (.object (nm c)) := Or.inr (Or.inr (Or.inr ⟨_, hcr, rfl⟩))
  refine am_gonew (pc' := pc + 3) (st' := rest) (n := n.toNatClampNeg) (ty := .object (nm c)) (x := .null) am_tl (Or.inl rfl) (fun p e R s m args below meth cc Qm H locs lsm cells slots hC hc1 hc2 k => ?_) hP
  have hw := hT.2.2.2.2.2.2.2.2.1 _ _ _ _ hb
  refine W.anew hC.1 hC.2.1 hC.2.2.2.1 (hC.2.2.2.2.1 _ hw) (va_AO.use (hC.2.2.2.2.2.1.2.1 _ (hT.2.2.2.2.2.2.2.2.2.2.2.2.2.2.2.1 _ hcr))) rfl hd rfl hn (by omega) hc1 hc2 fun cA kA comp f1 f2 f3 f4 => ?_
  have hcA : cA = DA (.object (nm c)) := by
    obtain ⟨_, _, -, -, -, h4⟩ := (hC.2.2.2.2.2.1.2.2.1 _ hk).2
    exact Option.some.inj (f1.symm.trans h4)
  subst hcA
  refine k _ ?_ (by rw [Array.size_push]) (fun q hq => by rw [Array.getElem?_push, if_neg (Nat.ne_of_lt hq)])
  rw [Array.getElem?_push_size, ← arrV_new]
theorem am_i_ldcM {idx x y : Nat} (hT : am_Tab B nm my cl Ts NW) (hd : decode I.2.1 pc = .ok (.ldc idx, 2)) (hb : B.1 I.1 idx = (15, x, y)) (hP : am_P l B nm cl Ts NW D DA sa base I h0 d Q Z (pc + 2, ls, .retAddr 3 :: st, h)) : am_P l B nm cl Ts NW D DA sa base I h0 d Q Z (pc, ls, st, h) :=
  am_gost (fun a => List.forall_mem_cons.mpr ⟨rfl, a⟩) (fun p e R s m args below meth c Qm H locs lsm cells slots hC _ hR k => va_ldcM hC.1 hC.2.1 hC.2.2.2.1 (hC.2.2.2.2.1 _ (hT.2.2.2.2.2.2.2.2.2.2.2.2.2.2.2.2.2.2.2.1 _ _ _ _ hb)) hC.2.2.2.2.2.1.2.2.2.2.2 hd k) hP
theorem am_i_getClass {idx a x y : Nat} {vs : List Value} (hT : am_Tab B nm my cl Ts NW) (hd1 : 1 ≤ d) (hd : decode I.2.1 pc = .ok (.invokevirtual idx, 3)) (hb : B.1 I.1 idx = (14, x, y)) (hrl : rest.length ≤ 8) (ha : h[a]? = some (.inr (.object "java/lang/Object", vs))) (hP : am_P l B nm cl Ts NW D DA sa base I h0 d Q Z (pc + 3, ls, .retAddr 3 :: rest, h)) : am_P l B nm cl Ts NW D DA sa base I h0 d Q Z (pc, ls, .ref a :: rest, h) := by
  refine am_go (F' := (pc + 3, ls, .retAddr 3 :: rest, h)) (fun ⟨q1, q2, q3, q4⟩ => ⟨List.forall_mem_cons.mpr ⟨rfl, am_tl q1⟩, q2, q3, q4⟩) (Nat.le_refl _) (Nat.le_refl _)
    (fun hF p e R s m args below meth cc Qm hC hfr hlo _ _ kk H locs lsm cells slots hR => ?_) hP
  obtain ⟨w1, w2, w3, w4, w5⟩ := hT.2.2.2.2.2.2.2.2.2.2.2.2.2.2.2.2.2.2.1 _ _ _ _ hb
  obtain ⟨_, _, -, -, -, k4⟩ := (hC.2.2.2.2.2.1.2.2.1 (.object "java/lang/Object") (Or.inr (Or.inr (Or.inr ⟨_, by decide, rfl⟩)))).2
  refine va_getC hC.1 hC.2.1 (by rw [hC.2.2.1]; exact (hR.1.1.trans hF.2.2.2).symm) hC.2.2.2.1 (hC.2.2.2.2.1 _ w1) (va_Nw.use rfl (hC.2.2.2.2.2.1.2.1 _ w2)) (hC.2.2.2.2.1 _ w3) (hC.2.2.2.2.1 _ w4) (hC.2.2.2.2.1 _ w5) hC.2.2.2.2.2.1.2.2.2.2.2 ⟨_, hR.2.1.2 a _ ha, rfl, k4⟩ (by omega) ?_ hd (kk H locs lsm cells slots hR)
  have := am_sum1 (sa := sa) (base := base) rest (am_tl hF.1)
  omega
theorem am_cpy_len {vs ws : List Value} {sp dp n : Nat} : (am_cpy vs ws sp dp n).length = ws.length := by simp [am_cpy]
theorem am_cpy_mem {vs ws : List Value} {sp dp n : Nat} (h1 : ∀ v ∈ vs, v.category = 1) (h2 : ∀ v ∈ ws, v.category = 1) : ∀ v ∈ am_cpy vs ws sp dp n, v.category = 1 := by
  intro v hv
  obtain ⟨j, hj, rfl⟩ := List.mem_map.mp hv
  have key : ∀ (l : List Value) (i : Nat), (∀ v ∈ l, v.category = 1) → (l.getD i .null).category = 1 := by
    intro l i hl
    rw [List.getD_eq_getElem?_getD]
    cases hi : l[i]? with
    | none => rfl
    | some w => exact hl w (List.mem_of_getElem? hi)
  show (if _ then _ else _ : Value).category = 1
  split
  · exact key vs _ h1
  · exact key ws _ h2
theorem am_i_copy {idx a b x y : Nat} {n dp sp : Int32} {ty : FieldType} {vs ws : List Value} (hT : am_Tab B nm my cl Ts NW) (hd1 : 1 ≤ d) (hd : decode I.2.1 pc = .ok (.invokestatic idx, 3)) (hb : B.1 I.1 idx = (13, x, y)) (hrl : rest.length ≤ 8) (hbb : h[b]? = some (.inr (ty, vs))) (ha : h[a]? = some (.inr (ty, ws))) (hty : ty = .byte ∧ (∀ v ∈ vs, fits .byte v = true) ∨ ty = .object "java/lang/Object" ∧ ∀ v ∈ vs, v = .null ∨ ∃ q fs, v = .ref q ∧ h[q]? = some (.inl (7, fs)))
    (h1 : ¬ sp < 0) (h2 : ¬ dp < 0) (h3 : ¬ n < 0) (h4 : sp.toNatClampNeg + n.toNatClampNeg ≤ vs.length) (h5 : dp.toNatClampNeg + n.toNatClampNeg ≤ ws.length)
    (hP : am_P l B nm cl Ts NW D DA sa base I h0 d Q Z (pc + 3, ls, rest, h.set a (.inr (ty, am_cpy vs ws sp.toNatClampNeg dp.toNatClampNeg n.toNatClampNeg)))) : am_P l B nm cl Ts NW D DA sa base I h0 d Q Z (pc, ls, .int n :: .int dp :: .ref a :: .int sp :: .ref b :: rest, h) := by
  have hsz : am_sl (h.set a (.inr (ty, am_cpy vs ws sp.toNatClampNeg dp.toNatClampNeg n.toNatClampNeg))) = am_sl h := am_sl_set h a _ _ ha (am_cpy_len)
  have htk : am_tyk ty := by
    rcases hty with ⟨rfl, -⟩ | ⟨rfl, -⟩
    · exact Or.inr (Or.inl rfl)
    · exact Or.inr (Or.inr (Or.inr ⟨_, by decide, rfl⟩))
  refine am_go (F' := (pc + 3, ls, rest, h.set a (.inr (ty, am_cpy vs ws sp.toNatClampNeg dp.toNatClampNeg n.toNatClampNeg)))) (fun ⟨q1, q2, q3, q4⟩ => ⟨am_tl (am_tl (am_tl (am_tl (am_tl q1)))), q2, am_v1_set q3 (am_cpy_mem (am_mem_h q3 hbb) (am_mem_h q3 ha)), q4⟩) (Nat.le_of_eq List.length_set.symm) (Nat.le_of_eq hsz.symm)
    (fun hF p e R s m args below meth cc Qm hC hfr hlo _ _ kk H locs lsm cells slots hR => ?_) hP
  have nn : ∀ z : Int32, ¬ z < 0 → z.toInt = (z.toNatClampNeg : Int) := by
    intro z hz
    have hz0 : (0 : Int) ≤ z.toInt := by
      have := Int32.not_lt.mp hz
      simpa using Int32.le_iff_toInt_le.mp this
    show z.toInt = ((z.toInt.toNat : Nat) : Int)
    omega
  obtain ⟨w1, w2, w3, w4⟩ := hT.2.2.2.2.2.2.2.2.2.2.2.2.2.2.2.2.2.1 _ _ _ _ hb
  have hK := hC.2.2.2.2.2.1
  intro T hTT X
  have hc0 := hR.2.1.2 b _ hbb
  have hc1 := hR.2.1.2 a _ ha
  obtain ⟨-, k0, hk0, cm0, hkk0⟩ := (hK.2.2.1 _ htk).1 vs.length (fun j => am_cv sa base (vs.getD j .null))
  obtain ⟨-, k1, hk1, cm1, hkk1⟩ := (hK.2.2.1 _ htk).1 ws.length (fun j => am_cv sa base (ws.getD j .null))
  have hsum := am_sum1 (sa := sa) (base := base) rest (am_tl (am_tl (am_tl (am_tl (am_tl hF.1)))))
  have hnw : nativeFrameWords "java/lang/System" "arraycopy" 5 = 7 := by decide
  obtain ⟨vm', X', step⟩ := X.arraycopy hC.1 hC.2.2.2.1 (hC.2.2.2.2.1 _ w1) (hC.2.2.2.2.1 _ w2) (hC.2.2.2.2.1 _ w3) (hC.2.2.2.2.1 _ w4) (src := base + b) (dst := base + a) (cs := arrV (DA ty) vs.length (fun j => am_cv sa base (vs.getD j .null))) (cd := arrV (DA ty) ws.length (fun j => am_cv sa base (ws.getD j .null))) (srcPos := sp) (destPos := dp) (n := n) (by rw [hTT]; exact hc0) (by rw [hTT]; exact hc1)
    (fun _ h => by cases h) (fun _ h => by cases h) (fun h => by cases h) (fun h => by cases h) hk0 hk1 hkk0 hkk1 (by rcases hty with ⟨rfl, -⟩ | ⟨rfl, -⟩ <;> rfl) h1 h2 h3
    (by rw [nn sp h1, nn n h3, arrV_size]; omega)
    (by rw [nn dp h2, nn n h3, arrV_size]; omega)
    (fun vm₁ hal i hi => by
      have e : (arrV (DA ty) vs.length (fun j => am_cv sa base (vs.getD j .null))).slots.getD (sp.toNatClampNeg + i) .null = am_cv sa base (vs.getD (sp.toNatClampNeg + i) .null) := by
        rw [Array.getD_eq_getD_getElem?, arrV_read _ _ (by omega)]
        rfl
      rw [e]
      have hlt : sp.toNatClampNeg + i < vs.length := by omega
      obtain ⟨v, hv⟩ : ∃ v, vs[sp.toNatClampNeg + i]? = some v := ⟨_, List.getElem?_eq_getElem hlt⟩
      rw [am_getD hv]
      have hm := List.mem_of_getElem? hv
      rcases hty with ⟨rfl, hq⟩ | ⟨rfl, hq⟩
      · have hf := hq v hm
        cases v with
        | int x => exact ⟨hf, trivial⟩
        | _ => cases hf
      · rcases hq v hm with rfl | ⟨q, fs, rfl, hh⟩
        · exact ⟨rfl, trivial⟩
        · obtain ⟨r, hr, -, cell, g1, g2, g3, -⟩ := hR.2.1.2 q _ hh
          obtain ⟨hfc, kC, hkC, hkind⟩ := am_cls hK.1 hr
          obtain ⟨kA, comp, r1, r2, r3, -⟩ := (hK.2.2.1 _ htk).2
          cases hk1.symm.trans r1
          cases hkk1.symm.trans r2
          obtain ⟨kE, hkE, -⟩ := Vm.findClass_spec r3
          obtain ⟨kC', hkC', -⟩ := hal.2.2 _ _ hkC
          obtain ⟨kE', hkE', -⟩ := hal.2.2 _ _ hkE
          refine ⟨rfl, cell, (show T.heap[base + q]? = some cell by rw [hTT]; exact g1), (fun q h => by rw [g3] at h; cases h), ⟨kC', by rw [g2]; exact hkC'⟩, ?_, ?_⟩
          · exact ⟨kE', hkE'⟩
          · show vm₁.assignable _ _ = true
            rw [hal.assignable, g2]
            obtain ⟨c0, t0, f1, f2, f3⟩ := Cond.castable_spec (va_Nw.use (A := args) rfl (hK.2.1 _ hT.2.2.2.2.2.2.2.2.2.2.2.2.2.2.1))
            rw [← (hT.1 7 r hr).1] at f1
            cases hfc.symm.trans f1
            cases r3.symm.trans f2
            exact f3)
    (g := F0 m pc lsm (.int n :: .int dp :: .ref (base + a) :: .int sp :: .ref (base + b) :: rest.map (am_cv sa base))) rfl (by rw [hC.2.2.1]; exact hR.1.1.trans hF.2.2.2) (rest := rest.map (am_cv sa base)) rfl (by rw [hC.2.1]; exact hd) (by omega) (by show 2 * 0 + _ + _ ≤ _; omega)
  have e1 : copied (arrV (DA ty) vs.length (fun j => am_cv sa base (vs.getD j .null))) (arrV (DA ty) ws.length (fun j => am_cv sa base (ws.getD j .null))) sp dp n = arrV (DA ty) (am_cpy vs ws sp.toNatClampNeg dp.toNatClampNeg n.toNatClampNeg).length (fun j => am_cv sa base ((am_cpy vs ws sp.toNatClampNeg dp.toNatClampNeg n.toNatClampNeg).getD j .null)) := by
    rw [am_cpy_len]
    refine (va_copied id (DA ty) (DA ty) (fun j => am_cv sa base (vs.getD j .null)) (fun j => am_cv sa base (ws.getD j .null)) h4).trans (am_arrV_ext (fun j hj => ?_))
    have e2 : (am_cpy vs ws sp.toNatClampNeg dp.toNatClampNeg n.toNatClampNeg).getD j .null = va_cpy (fun j => vs.getD j .null) (fun j => ws.getD j .null) sp.toNatClampNeg dp.toNatClampNeg n.toNatClampNeg j := by
      rw [List.getD_eq_getElem?_getD, am_cpy, List.getElem?_map, List.getElem?_range hj]
      rfl
    rw [e2]
    show (if _ then _ else _) = am_cv sa base (if _ then _ else _)
    split <;> rfl
  rw [e1] at X' step
  have hl : base + a < H.size := (Array.getElem?_eq_some_iff.mp hc1).1
  have oq : ∀ (x : Cell) (q : Nat), q ≠ base + a → (H.setIfInBounds (base + a) x)[q]? = H[q]? := fun x q hq => by simp [Array.getElem?_setIfInBounds, Ne.symm hq]
  have hheap : ∀ x : Cell, ((T.setVm vm').setCell (base + a) x).heap = H.setIfInBounds (base + a) x := fun x => by rw [← hTT]; rfl
  obtain ⟨t, a1, b1⟩ := kk _ _ lsm cells slots ⟨hR.1, hR.2.1.set (H1 := H.setIfInBounds (base + a) _) (by simp) (oq _) (show (H.setIfInBounds (base + a) _)[base + a]? = some _ by simp [Array.getElem?_setIfInBounds, hl]), ⟨by simp; exact hR.2.2.1.1, fun q g1 g2 => by
      rw [oq _ q (fun e => g2 (by rw [e]; exact Nat.le_add_right _ _))]
      exact hR.2.2.1.2.1 q g1 g2, fun q hq => by
      rcases List.mem_append.mp hq with h | h
      · exact hR.2.2.1.2.2 q h
      · obtain ⟨z, -, hz⟩ := List.mem_map.mp h
        rw [← hz]
        exact Nat.le_add_right _ _⟩, by simpa using hR.2.2.2.1, by show am_sl h0 + slots = am_sl (h.set a _); rw [hsz]; exact hR.2.2.2.2⟩ _ (hheap _) X'
  exact ⟨t, step t a1, b1⟩
theorem am_i_mmax {idx x y : Nat} {a b : Int32} (hT : am_Tab B nm my cl Ts NW) (hd1 : 1 ≤ d) (hd : decode I.2.1 pc = .ok (.invokestatic idx, 3)) (hb : B.1 I.1 idx = (16, x, y)) (hrl : rest.length ≤ 8) (hP : am_P l B nm cl Ts NW D DA sa base I h0 d Q Z (pc + 3, ls, .int (if a < b then b else a) :: rest, h)) : am_P l B nm cl Ts NW D DA sa base I h0 d Q Z (pc, ls, .int b :: .int a :: rest, h) := by
  refine am_go (F' := (pc + 3, ls, .int (if a < b then b else a) :: rest, h)) (fun ⟨q1, q2, q3, q4⟩ => ⟨List.forall_mem_cons.mpr ⟨rfl, am_tl (am_tl q1)⟩, q2, q3, q4⟩) (Nat.le_refl _) (Nat.le_refl _)
    (fun hF p e R s m args below meth cc Qm hC hfr hlo hc1 hc2 kk H locs lsm cells slots hR => ?_) hP
  obtain ⟨w1, w2, w3, w4⟩ := hT.2.2.2.2.2.2.2.2.2.2.2.2.2.2.2.2.2.2.2.2.1 _ _ _ _ hb
  have := am_sum1 (sa := sa) (base := base) rest (am_tl (am_tl hF.1))
  have e1 : h0.length + cells = h.length := hR.2.2.2.1
  have e2 : am_sl h0 + slots = am_sl h := hR.2.2.2.2
  simp only at hc1 hc2
  exact va_mmax hC.1 hC.2.1 (by rw [hC.2.2.1]; exact (hR.1.1.trans hF.2.2.2).symm) hC.2.2.2.1 (hC.2.2.2.2.1 _ w1) (hC.2.2.2.2.1 _ w2) (hC.2.2.2.2.1 _ w3) (hC.2.2.2.2.1 _ w4) (by omega) (by omega) (by omega) (by omega) hd (kk H locs lsm cells slots hR)
theorem am_i_mmin {idx x y : Nat} {a b : Int32} (hT : am_Tab B nm my cl Ts NW) (hd1 : 1 ≤ d) (hd : decode I.2.1 pc = .ok (.invokestatic idx, 3)) (hb : B.1 I.1 idx = (17, x, y)) (hrl : rest.length ≤ 8) (hP : am_P l B nm cl Ts NW D DA sa base I h0 d Q Z (pc + 3, ls, .int (if b < a then b else a) :: rest, h)) : am_P l B nm cl Ts NW D DA sa base I h0 d Q Z (pc, ls, .int b :: .int a :: rest, h) := by
  refine am_go (F' := (pc + 3, ls, .int (if b < a then b else a) :: rest, h)) (fun ⟨q1, q2, q3, q4⟩ => ⟨List.forall_mem_cons.mpr ⟨rfl, am_tl (am_tl q1)⟩, q2, q3, q4⟩) (Nat.le_refl _) (Nat.le_refl _)
    (fun hF p e R s m args below meth cc Qm hC hfr hlo hc1 hc2 kk H locs lsm cells slots hR => ?_) hP
  obtain ⟨w1, w2, w3, w4⟩ := hT.2.2.2.2.2.2.2.2.2.2.2.2.2.2.2.2.2.2.2.2.2 _ _ _ _ hb
  have := am_sum1 (sa := sa) (base := base) rest (am_tl (am_tl hF.1))
  have e1 : h0.length + cells = h.length := hR.2.2.2.1
  have e2 : am_sl h0 + slots = am_sl h := hR.2.2.2.2
  simp only at hc1 hc2
  exact va_mmin hC.1 hC.2.1 (by rw [hC.2.2.1]; exact (hR.1.1.trans hF.2.2.2).symm) hC.2.2.2.1 (hC.2.2.2.2.1 _ w1) (hC.2.2.2.2.1 _ w2) (hC.2.2.2.2.1 _ w3) (hC.2.2.2.2.1 _ w4) (by omega) (by omega) (by omega) (by omega) hd (kk H locs lsm cells slots hR)
end AMN
