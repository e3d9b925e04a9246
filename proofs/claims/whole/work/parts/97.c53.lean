/-! constructors: the heap with one cell changed and cells added (by hand: wip/whole/gen/c53.py) -/
def XH (H : am_H) (a : Nat) (c : am_E) (t : am_H) : am_H := H.set a c ++ t
section XHL
variable {H : am_H} {a j : Nat} {c e : am_E} {t : am_H}
theorem XH_len : (XH H a c t).length = H.length + t.length := by simp [XH]
theorem XH_0 (h : H[a]? = some c) : XH H a c [] = H := by
  unfold XH
  rw [List.append_nil]
  obtain ⟨h1, h2⟩ := List.getElem?_eq_some_iff.mp h
  rw [← h2, List.set_getElem_self]
theorem XH_a (ha : a < H.length) : (XH H a c t)[a]? = some c := by
  unfold XH
  rw [List.getElem?_append_left (by simpa using ha), List.getElem?_set_self ha]
theorem XH_t : (XH H a c t)[H.length + j]? = t[j]? := by
  unfold XH
  rw [List.getElem?_append_right (by simp)]
  simp
theorem XH_o {b : Nat} (hb : b < H.length) (hne : ¬ b = a) : (XH H a c t)[b]? = H[b]? := by
  unfold XH
  rw [List.getElem?_append_left (by simpa using hb), List.getElem?_set_ne (Ne.symm hne)]
theorem XH_sa (ha : a < H.length) : (XH H a c t).set a e = XH H a e t := by
  unfold XH
  rw [List.set_append_left _ _ (by simpa using ha), List.set_set]
theorem XH_st (hj : j < t.length) : (XH H a c t).set (H.length + j) e = XH H a c (t.set j e) := by
  unfold XH
  rw [List.set_append_right _ _ (by simp)]
  simp
theorem XH_app {u : am_H} : XH H a c t ++ u = XH H a c (t ++ u) := by
  unfold XH
  rw [List.append_assoc]
theorem XH_XH (hj : j < t.length) {u : am_H} : XH (XH H a c t) (H.length + j) e u = XH H a c (t.set j e ++ u) := by
  rw [show XH (XH H a c t) (H.length + j) e u = (XH H a c t).set (H.length + j) e ++ u from rfl, XH_st hj, XH_app]
theorem am_get_of {h : am_H} {k cc : Nat} {fs : List Value} {v : Value} (h0 : h[a]? = some (.inl (cc, fs))) (hk : fs[k]? = some v) : am_get h cc a k = some v := by
  unfold am_get
  rw [h0]
  simp [hk]
end XHL
section AXS
variable {xs : List Int32} {d : Nat} {Q : Option Value → am_H → Prop} {I : am_I} {pc : Nat} {ls : List (Option Value)} {st rest : List Value} {h : am_H}
theorem ax_new {idx c y : Nat} {ts : List (FieldType × Bool)} {vs : List Value} (hd : decode I.2.1 pc = .ok (.new idx, 3)) (hb : am_pool I.1 idx = (9, c, y)) (hts : am_fl c = some ts) (hcat : (ts.all fun q => (defaultValue q.1).category == 1) = true) (hvs : ts.map (fun q => defaultValue q.1) = vs) (k : am_wp (am_Bx xs) am_nm (am_T (am_Bx xs) am_nm d) Q I (pc + 3, ls, .ref h.length :: st, h ++ [.inl (c, vs)])) : am_wp (am_Bx xs) am_nm (am_T (am_Bx xs) am_nm d) Q I (pc, ls, st, h) :=
  am_r hd rfl (show am_nx _ _ _ _ _ _ _ _ _ _ from ⟨c, y, ts, hb, hts, fun q hq => by simpa using List.all_eq_true.mp hcat q hq, by rw [hvs]; exact k⟩)
theorem ax_newarr {n : Int32} {at_ : _} {ty : FieldType} (hd : decode I.2.1 pc = .ok (.newarray at_, 2)) (hty : newarray.typeOf at_ = ty) (ht : ty = .int ∨ ty = .byte ∨ ty = .boolean) (hn : ¬ n < 0) (hn2 : n.toNatClampNeg ≤ 100000) (k : am_wp (am_Bx xs) am_nm (am_T (am_Bx xs) am_nm d) Q I (pc + 2, ls, .ref h.length :: st, h ++ [.inr (ty, List.replicate n.toNatClampNeg (.int 0))])) : am_wp (am_Bx xs) am_nm (am_T (am_Bx xs) am_nm d) Q I (pc, ls, .int n :: st, h) :=
  am_r hd rfl (show am_nx _ _ _ _ _ _ _ _ _ _ from ⟨n, st, ty, rfl, hty, ht, hn, hn2, k⟩)
theorem ax_anewarr {n : Int32} {idx c y : Nat} (hd : decode I.2.1 pc = .ok (.anewarray idx, 3)) (hb : am_pool I.1 idx = (9, c, y)) (hc : am_nm c ∈ am_refs) (hn : ¬ n < 0) (hn2 : n.toNatClampNeg ≤ 100000) (k : am_wp (am_Bx xs) am_nm (am_T (am_Bx xs) am_nm d) Q I (pc + 3, ls, .ref h.length :: st, h ++ [.inr (.object (am_nm c), List.replicate n.toNatClampNeg .null)])) : am_wp (am_Bx xs) am_nm (am_T (am_Bx xs) am_nm d) Q I (pc, ls, .int n :: st, h) :=
  am_r hd rfl (show am_nx _ _ _ _ _ _ _ _ _ _ from ⟨n, st, c, y, rfl, hb, hc, hn, hn2, k⟩)
theorem ax_gets {idx j y : Nat} (hd : decode I.2.1 pc = .ok (.getstatic idx, 3)) (hb : am_pool I.1 idx = (3, j, y)) (k : am_wp (am_Bx xs) am_nm (am_T (am_Bx xs) am_nm d) Q I (pc + 3, ls, .retAddr j :: st, h)) : am_wp (am_Bx xs) am_nm (am_T (am_Bx xs) am_nm d) Q I (pc, ls, st, h) :=
  am_r hd rfl (show am_nx _ _ _ _ _ _ _ _ _ _ from ⟨j, y, hb, k⟩)
theorem ax_ldcI {idx x y : Nat} (hd : decode I.2.1 pc = .ok (.ldc idx, 2)) (hb : am_pool I.1 idx = (12, x, y)) (k : am_wp (am_Bx xs) am_nm (am_T (am_Bx xs) am_nm d) Q I (pc + 2, ls, .int (Int32.ofNat x) :: st, h)) : am_wp (am_Bx xs) am_nm (am_T (am_Bx xs) am_nm d) Q I (pc, ls, st, h) :=
  am_r hd rfl (show am_nx _ _ _ _ _ _ _ _ _ _ from Or.inl ⟨x, y, hb, k⟩)
theorem ax_ldcC {idx x y : Nat} (hd : decode I.2.1 pc = .ok (.ldc idx, 2)) (hb : am_pool I.1 idx = (15, x, y)) (k : am_wp (am_Bx xs) am_nm (am_T (am_Bx xs) am_nm d) Q I (pc + 2, ls, .retAddr 3 :: st, h)) : am_wp (am_Bx xs) am_nm (am_T (am_Bx xs) am_nm d) Q I (pc, ls, st, h) :=
  am_r hd rfl (show am_nx _ _ _ _ _ _ _ _ _ _ from Or.inr ⟨x, y, hb, k⟩)
theorem ax_alen {r : Value} {ty : FieldType} {vs : List Value} (hd : decode I.2.1 pc = .ok (.arraylength, 1)) (ha : am_arr (am_Bx xs) h r = some (ty, vs)) (ht : am_tyk ty) (k : am_wp (am_Bx xs) am_nm (am_T (am_Bx xs) am_nm d) Q I (pc + 1, ls, .int (Int32.ofNat vs.length) :: st, h)) : am_wp (am_Bx xs) am_nm (am_T (am_Bx xs) am_nm d) Q I (pc, ls, r :: st, h) :=
  am_r hd rfl (show am_nx _ _ _ _ _ _ _ _ _ _ from ⟨r, st, ty, vs, rfl, ha, ht, k⟩)
theorem ax_aast {a : Nat} {j : Int32} {w : Value} {ty : FieldType} {vs : List Value} (hd : decode I.2.1 pc = .ok (.aastore, 1)) (ha : h[a]? = some (.inr (ty, vs))) (hi : am_into am_nm h ty w w) (hj : ¬ j < 0) (hl : j.toNatClampNeg < vs.length) (k : am_wp (am_Bx xs) am_nm (am_T (am_Bx xs) am_nm d) Q I (pc + 1, ls, st, h.set a (.inr (ty, vs.set j.toNatClampNeg w)))) : am_wp (am_Bx xs) am_nm (am_T (am_Bx xs) am_nm d) Q I (pc, ls, w :: .int j :: .ref a :: st, h) :=
  am_r hd rfl (show am_nx _ _ _ _ _ _ _ _ _ _ from ⟨w, j, a, st, ty, vs, w, rfl, ha, hi, hj, hl, k⟩)
theorem ax_iast {a : Nat} {j w : Int32} {vs : List Value} (hd : decode I.2.1 pc = .ok (.iastore, 1)) (ha : h[a]? = some (.inr (.int, vs))) (hj : ¬ j < 0) (hl : j.toNatClampNeg < vs.length) (k : am_wp (am_Bx xs) am_nm (am_T (am_Bx xs) am_nm d) Q I (pc + 1, ls, st, h.set a (.inr (.int, vs.set j.toNatClampNeg (.int w))))) : am_wp (am_Bx xs) am_nm (am_T (am_Bx xs) am_nm d) Q I (pc, ls, .int w :: .int j :: .ref a :: st, h) :=
  am_r hd rfl (show am_nx _ _ _ _ _ _ _ _ _ _ from ⟨.int w, j, a, st, .int, vs, .int w, rfl, ha, ⟨rfl, rfl, w, rfl⟩, hj, hl, k⟩)
theorem ax_acmp_eq {v w : Value} {off : Int} {tgt : Nat} (hd : decode I.2.1 pc = .ok (.if_acmp .eq off, 3)) (hc : am_cmpR (am_Bx xs) v w) (ht : (pc : Int) + off = (tgt : Int)) (k1 : v = w → am_wp (am_Bx xs) am_nm (am_T (am_Bx xs) am_nm d) Q I (tgt, ls, st, h)) (k2 : ¬ (v = w) → am_wp (am_Bx xs) am_nm (am_T (am_Bx xs) am_nm d) Q I (pc + 3, ls, st, h)) : am_wp (am_Bx xs) am_nm (am_T (am_Bx xs) am_nm d) Q I (pc, ls, w :: v :: st, h) :=
  am_r hd rfl (show am_nx _ _ _ _ _ _ _ _ _ _ from ⟨v, w, st, rfl, hc, tgt, ht, k1, k2⟩)
theorem ax_acmp_ne {v w : Value} {off : Int} {tgt : Nat} (hd : decode I.2.1 pc = .ok (.if_acmp .ne off, 3)) (hc : am_cmpR (am_Bx xs) v w) (ht : (pc : Int) + off = (tgt : Int)) (k1 : ¬ v = w → am_wp (am_Bx xs) am_nm (am_T (am_Bx xs) am_nm d) Q I (tgt, ls, st, h)) (k2 : ¬ (¬ v = w) → am_wp (am_Bx xs) am_nm (am_T (am_Bx xs) am_nm d) Q I (pc + 3, ls, st, h)) : am_wp (am_Bx xs) am_nm (am_T (am_Bx xs) am_nm d) Q I (pc, ls, w :: v :: st, h) :=
  am_r hd rfl (show am_nx _ _ _ _ _ _ _ _ _ _ from ⟨v, w, st, rfl, hc, tgt, ht, k1, k2⟩)
theorem ax_obj {a idx x y : Nat} (hd : decode I.2.1 pc = .ok (.invokespecial idx, 3)) (hb : am_pool I.1 idx = (8, x, y)) (hr : st.length ≤ 8) (k : am_wp (am_Bx xs) am_nm (am_T (am_Bx xs) am_nm d) Q I (pc + 3, ls, st, h)) : am_wp (am_Bx xs) am_nm (am_T (am_Bx xs) am_nm d) Q I (pc, ls, .ref a :: st, h) :=
  am_r hd rfl (show am_nx _ _ _ _ _ _ _ _ _ _ from Or.inl ⟨a, st, x, y, hb, rfl, hr, k⟩)
theorem ax_init {b idx m n t : Nat} {as : List Value} (hd : decode I.2.1 pc = .ok (.invokespecial idx, 3)) (hb : am_pool I.1 idx = (t, m, n)) (ht : t = 6 ∨ t = 7) (hn : as.length = n) (hr : rest.length ≤ 8) (hst : st = as.reverse ++ .ref b :: rest) (k : am_T (am_Bx xs) am_nm d m (.ref b :: as) h (fun v h' => v = none ∧ am_wp (am_Bx xs) am_nm (am_T (am_Bx xs) am_nm d) Q I (pc + 3, ls, rest, h'))) : am_wp (am_Bx xs) am_nm (am_T (am_Bx xs) am_nm d) Q I (pc, ls, st, h) :=
  am_r hd rfl (show am_nx _ _ _ _ _ _ _ _ _ _ from Or.inr ⟨t, m, n, as, b, rest, hb, ht, hn, hst, hr, k⟩)
theorem ax_callv {b idx m n : Nat} {as fs : List Value} {J : am_I} (hd : decode I.2.1 pc = .ok (.invokevirtual idx, 3)) (hb : am_pool I.1 idx = (4, m, n)) (hn : as.length = n) (hr : rest.length ≤ 8) (hst : st = as.reverse ++ .ref b :: rest) (hJ : (am_Bx xs).2.1 m = some J) (ho : h[b]? = some (.inl (J.1, fs))) (k : am_T (am_Bx xs) am_nm d m (.ref b :: as) h (fun v h' => am_wp (am_Bx xs) am_nm (am_T (am_Bx xs) am_nm d) Q I (pc + 3, ls, v.toList ++ rest, h'))) : am_wp (am_Bx xs) am_nm (am_T (am_Bx xs) am_nm d) Q I (pc, ls, st, h) :=
  am_r hd rfl (show am_nx _ _ _ _ _ _ _ _ _ _ from Or.inr ⟨m, n, as, b, rest, J, fs, hb, hn, hst, hr, hJ, ho, k⟩)
theorem ax_calls {idx m n : Nat} {as : List Value} (hd : decode I.2.1 pc = .ok (.invokestatic idx, 3)) (hb : am_pool I.1 idx = (5, m, n)) (hn : as.length = n) (hr : rest.length ≤ 8) (hst : st = as.reverse ++ rest) (k : am_T (am_Bx xs) am_nm d m as h (fun v h' => am_wp (am_Bx xs) am_nm (am_T (am_Bx xs) am_nm d) Q I (pc + 3, ls, v.toList ++ rest, h'))) : am_wp (am_Bx xs) am_nm (am_T (am_Bx xs) am_nm d) Q I (pc, ls, st, h) :=
  am_r hd rfl (show am_nx _ _ _ _ _ _ _ _ _ _ from Or.inr (Or.inr (Or.inr ⟨m, n, as, rest, hb, hn, hst, hr, k⟩)))
theorem ax_max {a b : Int32} {idx x y : Nat} (hd : decode I.2.1 pc = .ok (.invokestatic idx, 3)) (hb : am_pool I.1 idx = (16, x, y)) (hr : st.length ≤ 8) (k : am_wp (am_Bx xs) am_nm (am_T (am_Bx xs) am_nm d) Q I (pc + 3, ls, .int (if a < b then b else a) :: st, h)) : am_wp (am_Bx xs) am_nm (am_T (am_Bx xs) am_nm d) Q I (pc, ls, .int b :: .int a :: st, h) :=
  am_r hd rfl (show am_nx _ _ _ _ _ _ _ _ _ _ from Or.inr (Or.inl ⟨a, b, st, x, y, hb, rfl, hr, k⟩))
theorem ax_min {a b : Int32} {idx x y : Nat} (hd : decode I.2.1 pc = .ok (.invokestatic idx, 3)) (hb : am_pool I.1 idx = (17, x, y)) (hr : st.length ≤ 8) (k : am_wp (am_Bx xs) am_nm (am_T (am_Bx xs) am_nm d) Q I (pc + 3, ls, .int (if b < a then b else a) :: st, h)) : am_wp (am_Bx xs) am_nm (am_T (am_Bx xs) am_nm d) Q I (pc, ls, .int b :: .int a :: st, h) :=
  am_r hd rfl (show am_nx _ _ _ _ _ _ _ _ _ _ from Or.inr (Or.inr (Or.inl ⟨a, b, st, x, y, hb, rfl, hr, k⟩)))
theorem ax_getc {a idx x y : Nat} {vs : List Value} (hd : decode I.2.1 pc = .ok (.invokevirtual idx, 3)) (hb : am_pool I.1 idx = (14, x, y)) (hr : st.length ≤ 8) (ha : h[a]? = some (.inr (.object "java/lang/Object", vs))) (k : am_wp (am_Bx xs) am_nm (am_T (am_Bx xs) am_nm d) Q I (pc + 3, ls, .retAddr 3 :: st, h)) : am_wp (am_Bx xs) am_nm (am_T (am_Bx xs) am_nm d) Q I (pc, ls, .ref a :: st, h) :=
  am_r hd rfl (show am_nx _ _ _ _ _ _ _ _ _ _ from Or.inl ⟨a, st, vs, x, y, hb, rfl, hr, ha, k⟩)
theorem ax_copy {n dp sp : Int32} {a b idx x y : Nat} {ty : FieldType} {vs ws : List Value} (hd : decode I.2.1 pc = .ok (.invokestatic idx, 3)) (hb : am_pool I.1 idx = (13, x, y)) (hr : st.length ≤ 8) (h1 : h[b]? = some (.inr (ty, vs))) (h2 : h[a]? = some (.inr (ty, ws))) (hv : ty = .byte ∧ (∀ v ∈ vs, fits .byte v = true) ∨ ty = .object "java/lang/Object" ∧ ∀ v ∈ vs, v = .null ∨ ∃ q fs, v = .ref q ∧ h[q]? = some (.inl (7, fs))) (hs : ¬ sp < 0) (hp : ¬ dp < 0) (hn : ¬ n < 0) (hl1 : sp.toNatClampNeg + n.toNatClampNeg ≤ vs.length) (hl2 : dp.toNatClampNeg + n.toNatClampNeg ≤ ws.length) (k : am_wp (am_Bx xs) am_nm (am_T (am_Bx xs) am_nm d) Q I (pc + 3, ls, st, h.set a (.inr (ty, am_cpy vs ws sp.toNatClampNeg dp.toNatClampNeg n.toNatClampNeg)))) : am_wp (am_Bx xs) am_nm (am_T (am_Bx xs) am_nm d) Q I (pc, ls, .int n :: .int dp :: .ref a :: .int sp :: .ref b :: st, h) :=
  am_r hd rfl (show am_nx _ _ _ _ _ _ _ _ _ _ from Or.inl ⟨n, dp, a, sp, b, st, ty, vs, ws, x, y, hb, rfl, hr, h1, h2, hv, hs, hp, hn, hl1, hl2, k⟩)
theorem ax_pf {idx a c k : Nat} {v w : Value} {fs fs' : List Value} {ts : List (FieldType × Bool)} {ty : FieldType} {fin : Bool} (hd : decode I.2.1 pc = .ok (.putfield idx, 3)) (hb : am_pool I.1 idx = (1, c, k)) (h0 : h[a]? = some (.inl (c, fs))) (hk : fs[k]? = some w) (hfs : fs.set k v = fs') (hts : am_fl c = some ts) (hty : ts[k]? = some (ty, fin)) (hfit : am_fit ty v = true) (hfin : fin = true → I.2.2.2.2 = true ∧ c = I.1) (kk : am_wp (am_Bx xs) am_nm (am_T (am_Bx xs) am_nm d) Q I (pc + 3, ls, st, h.set a (.inl (c, fs')))) : am_wp (am_Bx xs) am_nm (am_T (am_Bx xs) am_nm d) Q I (pc, ls, v :: .ref a :: st, h) :=
  ax_putf hd hb (am_get_of h0 hk) hts hty hfit hfin (by rw [am_put_eq h0, hfs]; exact kk)
theorem ax_aret {r : Value} (hd : decode I.2.1 pc = .ok (.areturn, 1)) (ha : am_ans I.2.2.2.1 (some r) = true) (hr : am_isR r) (hQ : Q (some r) h) : am_wp (am_Bx xs) am_nm (am_T (am_Bx xs) am_nm d) Q I (pc, ls, [r], h) :=
  am_rr hd rfl ⟨some r, rfl, ha, hQ, Or.inr (Or.inr ⟨rfl, r, rfl, hr⟩)⟩
variable {H : am_H} {a : Nat} {c : am_E} {t : am_H}
theorem cx_new {idx c0 y n : Nat} {ts : List (FieldType × Bool)} {vs : List Value} {t' : am_H} (hd : decode I.2.1 pc = .ok (.new idx, 3)) (hb : am_pool I.1 idx = (9, c0, y)) (hts : am_fl c0 = some ts) (hcat : (ts.all fun q => (defaultValue q.1).category == 1) = true) (hvs : ts.map (fun q => defaultValue q.1) = vs) (hn : t.length = n) (ht : t ++ [.inl (c0, vs)] = t') (k : am_wp (am_Bx xs) am_nm (am_T (am_Bx xs) am_nm d) Q I (pc + 3, ls, .ref (H.length + n) :: st, XH H a c t')) : am_wp (am_Bx xs) am_nm (am_T (am_Bx xs) am_nm d) Q I (pc, ls, st, XH H a c t) :=
  ax_new hd hb hts hcat hvs (by rw [XH_app, XH_len, hn, ht]; exact k)
theorem cx_newarr {n : Int32} {at_ : _} {ty : FieldType} {m : Nat} {t' : am_H} (hd : decode I.2.1 pc = .ok (.newarray at_, 2)) (hty : newarray.typeOf at_ = ty) (hty2 : ty = .int ∨ ty = .byte ∨ ty = .boolean) (hn : ¬ n < 0) (hn2 : n.toNatClampNeg ≤ 100000) (hm : t.length = m) (ht : t ++ [.inr (ty, List.replicate n.toNatClampNeg (.int 0))] = t') (k : am_wp (am_Bx xs) am_nm (am_T (am_Bx xs) am_nm d) Q I (pc + 2, ls, .ref (H.length + m) :: st, XH H a c t')) : am_wp (am_Bx xs) am_nm (am_T (am_Bx xs) am_nm d) Q I (pc, ls, .int n :: st, XH H a c t) :=
  ax_newarr hd hty hty2 hn hn2 (by rw [XH_app, XH_len, hm, ht]; exact k)
theorem cx_anewarr {n : Int32} {idx c0 y m : Nat} {t' : am_H} (hd : decode I.2.1 pc = .ok (.anewarray idx, 3)) (hb : am_pool I.1 idx = (9, c0, y)) (hc : am_nm c0 ∈ am_refs) (hn : ¬ n < 0) (hn2 : n.toNatClampNeg ≤ 100000) (hm : t.length = m) (ht : t ++ [.inr (.object (am_nm c0), List.replicate n.toNatClampNeg .null)] = t') (k : am_wp (am_Bx xs) am_nm (am_T (am_Bx xs) am_nm d) Q I (pc + 3, ls, .ref (H.length + m) :: st, XH H a c t')) : am_wp (am_Bx xs) am_nm (am_T (am_Bx xs) am_nm d) Q I (pc, ls, .int n :: st, XH H a c t) :=
  ax_anewarr hd hb hc hn hn2 (by rw [XH_app, XH_len, hm, ht]; exact k)
theorem cx_put {idx c0 k : Nat} {v w : Value} {fs fs' : List Value} {ts : List (FieldType × Bool)} {ty : FieldType} {fin : Bool} (hd : decode I.2.1 pc = .ok (.putfield idx, 3)) (hb : am_pool I.1 idx = (1, c0, k)) (ha : a < H.length) (hk : fs[k]? = some w) (hfs : fs.set k v = fs') (hts : am_fl c0 = some ts) (hty : ts[k]? = some (ty, fin)) (hfit : am_fit ty v = true) (hfin : fin = true → I.2.2.2.2 = true ∧ c0 = I.1) (kk : am_wp (am_Bx xs) am_nm (am_T (am_Bx xs) am_nm d) Q I (pc + 3, ls, st, XH H a (.inl (c0, fs')) t)) : am_wp (am_Bx xs) am_nm (am_T (am_Bx xs) am_nm d) Q I (pc, ls, v :: .ref a :: st, XH H a (.inl (c0, fs)) t) :=
  ax_pf hd hb (XH_a ha) hk hfs hts hty hfit hfin (by rw [XH_sa ha]; exact kk)
theorem cx_get {idx c0 k : Nat} {v : Value} {fs : List Value} (hd : decode I.2.1 pc = .ok (.getfield idx, 3)) (hb : am_pool I.1 idx = (1, c0, k)) (ha : a < H.length) (hk : fs[k]? = some v) (kk : am_wp (am_Bx xs) am_nm (am_T (am_Bx xs) am_nm d) Q I (pc + 3, ls, v :: st, XH H a (.inl (c0, fs)) t)) : am_wp (am_Bx xs) am_nm (am_T (am_Bx xs) am_nm d) Q I (pc, ls, .ref a :: st, XH H a (.inl (c0, fs)) t) :=
  ax_getf hd hb (Or.inl rfl) (am_get_of (XH_a ha) hk) kk
theorem cx_iast {m : Nat} {p w : Int32} {vs : List Value} {t' : am_H} (hd : decode I.2.1 pc = .ok (.iastore, 1)) (hj : t[m]? = some (.inr (.int, vs))) (hp : ¬ p < 0) (hl : p.toNatClampNeg < vs.length) (ht : t.set m (.inr (.int, vs.set p.toNatClampNeg (.int w))) = t') (k : am_wp (am_Bx xs) am_nm (am_T (am_Bx xs) am_nm d) Q I (pc + 1, ls, st, XH H a c t')) : am_wp (am_Bx xs) am_nm (am_T (am_Bx xs) am_nm d) Q I (pc, ls, .int w :: .int p :: .ref (H.length + m) :: st, XH H a c t) :=
  ax_iast hd (XH_t.trans hj) hp hl (by rw [XH_st (List.getElem?_eq_some_iff.mp hj).1, ht]; exact k)
end AXS
theorem r11 {xs : List Int32} {d a : Nat} {H : am_H} : ∀ Q : Option Value → am_H → Prop, Q none H → am_T (am_Bx xs) am_nm (d + 1) 11 [.ref a] H Q := by
  intro Q hQ
  refine ax_intro (ms11 xs) (Nat.le_of_ble_eq_true rfl) ?_
  refine ax_aload_n (dd D11_ok 0 rfl) rfl (by first | exact Or.inr (Or.inl ⟨_, rfl⟩) | exact Or.inl rfl | exact Or.inr (Or.inr ⟨_, rfl⟩) | assumption) ?_
  refine ax_obj (dd D11_ok 1 rfl) pl0_1 (Nat.le_of_ble_eq_true rfl) ?_
  exact ax_vret (dd D11_ok 2 rfl) rfl hQ
theorem r7 {xs : List Int32} {d a : Nat} {H : am_H} : ∀ Q : Option Value → am_H → Prop, Q none H → am_T (am_Bx xs) am_nm (d + 1) 7 [.ref a] H Q := by
  intro Q hQ
  refine ax_intro (ms7 xs) (Nat.le_of_ble_eq_true rfl) ?_
  refine ax_aload_n (dd D7_ok 0 rfl) rfl (by first | exact Or.inr (Or.inl ⟨_, rfl⟩) | exact Or.inl rfl | exact Or.inr (Or.inr ⟨_, rfl⟩) | assumption) ?_
  refine ax_obj (dd D7_ok 1 rfl) pl1_3 (Nat.le_of_ble_eq_true rfl) ?_
  exact ax_vret (dd D7_ok 2 rfl) rfl hQ
theorem r8 {xs : List Int32} {d a : Nat} {H : am_H} : ∀ Q : Option Value → am_H → Prop, Q none H → am_T (am_Bx xs) am_nm (d + 1) 8 [.ref a] H Q := by
  intro Q hQ
  refine ax_intro (ms8 xs) (Nat.le_of_ble_eq_true rfl) ?_
  refine ax_aload_n (dd D8_ok 0 rfl) rfl (by first | exact Or.inr (Or.inl ⟨_, rfl⟩) | exact Or.inl rfl | exact Or.inr (Or.inr ⟨_, rfl⟩) | assumption) ?_
  refine ax_obj (dd D8_ok 1 rfl) pl4_3 (Nat.le_of_ble_eq_true rfl) ?_
  exact ax_vret (dd D8_ok 2 rfl) rfl hQ
theorem r5 {xs : List Int32} {d a : Nat} {H : am_H} : ∀ Q : Option Value → am_H → Prop, Q none H → am_T (am_Bx xs) am_nm (d + 1) 5 [.ref a] H Q := by
  intro Q hQ
  refine ax_intro (ms5 xs) (Nat.le_of_ble_eq_true rfl) ?_
  refine ax_aload_n (dd D5_ok 0 rfl) rfl (by first | exact Or.inr (Or.inl ⟨_, rfl⟩) | exact Or.inl rfl | exact Or.inr (Or.inr ⟨_, rfl⟩) | assumption) ?_
  refine ax_obj (dd D5_ok 1 rfl) pl6_3 (Nat.le_of_ble_eq_true rfl) ?_
  exact ax_vret (dd D5_ok 2 rfl) rfl hQ
theorem r4 {xs : List Int32} {d a : Nat} {H : am_H} : ∀ Q : Option Value → am_H → Prop, Q none H → am_T (am_Bx xs) am_nm (d + 1) 4 [.ref a] H Q := by
  intro Q hQ
  refine ax_intro (ms4 xs) (Nat.le_of_ble_eq_true rfl) ?_
  refine ax_aload_n (dd D4_ok 0 rfl) rfl (by first | exact Or.inr (Or.inl ⟨_, rfl⟩) | exact Or.inl rfl | exact Or.inr (Or.inr ⟨_, rfl⟩) | assumption) ?_
  refine ax_obj (dd D4_ok 1 rfl) pl19_1 (Nat.le_of_ble_eq_true rfl) ?_
  exact ax_vret (dd D4_ok 2 rfl) rfl hQ
theorem r36 {xs : List Int32} {d a : Nat} {H : am_H}  (h0 : H[a]? = some (.inl (7, [.int 0, .int 0, .int 0, .null])))  : ∀ Q : Option Value → am_H → Prop, Q none (XH H a (.inl (7, [.int 0, .int 0, .int 0, .ref (H.length + 0)])) [.inl (0, [.int 0, .int 0, .int 0, .int 0, .null])]) → am_T (am_Bx xs) am_nm (d + 2) 36 [.ref a] H Q := by
  intro Q hQ
  have ha : a < H.length := (List.getElem?_eq_some_iff.mp h0).1
  refine ax_intro (ms36 xs) (Nat.le_of_ble_eq_true rfl) ?_
  rw [← XH_0 h0] 
  refine ax_aload_n (dd D36_ok 0 rfl) rfl (by first | exact Or.inr (Or.inl ⟨_, rfl⟩) | exact Or.inl rfl | exact Or.inr (Or.inr ⟨_, rfl⟩) | assumption) ?_
  refine ax_obj (dd D36_ok 1 rfl) pl7_1 (Nat.le_of_ble_eq_true rfl) ?_
  refine ax_aload_n (dd D36_ok 2 rfl) rfl (by first | exact Or.inr (Or.inl ⟨_, rfl⟩) | exact Or.inl rfl | exact Or.inr (Or.inr ⟨_, rfl⟩) | assumption) ?_
  refine cx_new (dd D36_ok 3 rfl) pl7_7 rfl rfl rfl rfl rfl ?_
  refine ax_dup (dd D36_ok 4 rfl) ?_
  refine ax_init (as := []) (dd D36_ok 5 rfl) pl7_9 (by simp) rfl (Nat.le_of_ble_eq_true rfl) rfl (r11 _ ⟨rfl, ?_⟩)
  refine cx_put (dd D36_ok 6 rfl) pl7_10 ha rfl rfl rfl rfl rfl (by first | exact fun q => absurd q (by decide) | exact fun _ => ⟨rfl, rfl⟩) ?_
  exact ax_vret (dd D36_ok 7 rfl) rfl hQ
theorem r6 {xs : List Int32} {d a : Nat} {H : am_H}  (h0 : H[a]? = some (.inl (2, [.null, .int 0, .int 0, .int 0, .int 0, .int 0, .int 0, .null, .null, .null, .null])))  : ∀ Q : Option Value → am_H → Prop, Q none (XH H a (.inl (2, [.null, .int 0, .int 0, .int 0, .int 0, .int 0, .int 0, .null, .null, .ref (H.length + 0), .ref (H.length + 1)])) [.inl (1, [.int 0, .int 0, .null, .null, .int 0, .int 0]), .inl (4, [.null, .null, .int 0, .int 0, .int 0])]) → am_T (am_Bx xs) am_nm (d + 2) 6 [.ref a] H Q := by
  intro Q hQ
  have ha : a < H.length := (List.getElem?_eq_some_iff.mp h0).1
  refine ax_intro (ms6 xs) (Nat.le_of_ble_eq_true rfl) ?_
  rw [← XH_0 h0] 
  refine ax_aload_n (dd D6_ok 0 rfl) rfl (by first | exact Or.inr (Or.inl ⟨_, rfl⟩) | exact Or.inl rfl | exact Or.inr (Or.inr ⟨_, rfl⟩) | assumption) ?_
  refine ax_obj (dd D6_ok 1 rfl) pl2_1 (Nat.le_of_ble_eq_true rfl) ?_
  refine ax_aload_n (dd D6_ok 2 rfl) rfl (by first | exact Or.inr (Or.inl ⟨_, rfl⟩) | exact Or.inl rfl | exact Or.inr (Or.inr ⟨_, rfl⟩) | assumption) ?_
  refine cx_new (dd D6_ok 3 rfl) pl2_7 rfl rfl rfl rfl rfl ?_
  refine ax_dup (dd D6_ok 4 rfl) ?_
  refine ax_init (as := []) (dd D6_ok 5 rfl) pl2_9 (by simp) rfl (Nat.le_of_ble_eq_true rfl) rfl (r7 _ ⟨rfl, ?_⟩)
  refine cx_put (dd D6_ok 6 rfl) pl2_10 ha rfl rfl rfl rfl rfl (by first | exact fun q => absurd q (by decide) | exact fun _ => ⟨rfl, rfl⟩) ?_
  refine ax_aload_n (dd D6_ok 7 rfl) rfl (by first | exact Or.inr (Or.inl ⟨_, rfl⟩) | exact Or.inl rfl | exact Or.inr (Or.inr ⟨_, rfl⟩) | assumption) ?_
  refine cx_new (dd D6_ok 8 rfl) pl2_16 rfl rfl rfl rfl rfl ?_
  refine ax_dup (dd D6_ok 9 rfl) ?_
  refine ax_init (as := []) (dd D6_ok 10 rfl) pl2_18 (by simp) rfl (Nat.le_of_ble_eq_true rfl) rfl (r8 _ ⟨rfl, ?_⟩)
  refine cx_put (dd D6_ok 11 rfl) pl2_19 ha rfl rfl rfl rfl rfl (by first | exact fun q => absurd q (by decide) | exact fun _ => ⟨rfl, rfl⟩) ?_
  exact ax_vret (dd D6_ok 12 rfl) rfl hQ
theorem r3 {xs : List Int32} {d a : Nat} {H : am_H} (h0 : H[a]? = some (.inl (10, [.int 0, .null, .int 0]))) : ∀ Q : Option Value → am_H → Prop, Q none H → am_T (am_Bx xs) am_nm (d + 2) 3 [.ref a] H Q := by
  intro Q hQ
  have ha : a < H.length := (List.getElem?_eq_some_iff.mp h0).1
  refine ax_intro (ms3 xs) (Nat.le_of_ble_eq_true rfl) ?_
  rw [← XH_0 h0] at hQ ⊢
  refine ax_aload_n (dd D3_ok 0 rfl) rfl (by first | exact Or.inr (Or.inl ⟨_, rfl⟩) | exact Or.inl rfl | exact Or.inr (Or.inr ⟨_, rfl⟩) | assumption) ?_
  refine ax_init (as := []) (dd D3_ok 1 rfl) pl18_1 (by simp) rfl (Nat.le_of_ble_eq_true rfl) rfl (r4 _ ⟨rfl, ?_⟩)
  refine ax_aload_n (dd D3_ok 2 rfl) rfl (by first | exact Or.inr (Or.inl ⟨_, rfl⟩) | exact Or.inl rfl | exact Or.inr (Or.inr ⟨_, rfl⟩) | assumption) ?_
  refine ax_iconst (v := 0) (dd D3_ok 3 rfl) (by decide) ?_
  refine cx_put (dd D3_ok 4 rfl) pl18_7 ha rfl rfl rfl rfl rfl (by first | exact fun q => absurd q (by decide) | exact fun _ => ⟨rfl, rfl⟩) ?_
  exact ax_vret (dd D3_ok 5 rfl) rfl hQ
theorem r2 {xs : List Int32} {d a : Nat} {H : am_H}  (h0 : H[a]? = some (.inl (10, [.int 0, .null, .int 0])))  : ∀ Q : Option Value → am_H → Prop, Q none (XH H a (.inl (10, [.int 0, .retAddr 2, .int 0])) []) → am_T (am_Bx xs) am_nm (d + 3) 2 [.ref a] H Q := by
  intro Q hQ
  have ha : a < H.length := (List.getElem?_eq_some_iff.mp h0).1
  refine ax_intro (ms2 xs) (Nat.le_of_ble_eq_true rfl) ?_
  rw [← XH_0 h0] 
  refine ax_aload_n (dd D2_ok 0 rfl) rfl (by first | exact Or.inr (Or.inl ⟨_, rfl⟩) | exact Or.inl rfl | exact Or.inr (Or.inr ⟨_, rfl⟩) | assumption) ?_
  refine ax_init (as := []) (dd D2_ok 1 rfl) pl10_1 (by simp) rfl (Nat.le_of_ble_eq_true rfl) rfl (r3 (XH_a ha) _ ⟨rfl, ?_⟩)
  refine ax_aload_n (dd D2_ok 2 rfl) rfl (by first | exact Or.inr (Or.inl ⟨_, rfl⟩) | exact Or.inl rfl | exact Or.inr (Or.inr ⟨_, rfl⟩) | assumption) ?_
  refine ax_gets (dd D2_ok 3 rfl) pl10_39 ?_
  refine cx_put (dd D2_ok 4 rfl) pl10_9 ha rfl rfl rfl rfl rfl (by first | exact fun q => absurd q (by decide) | exact fun _ => ⟨rfl, rfl⟩) ?_
  exact ax_vret (dd D2_ok 5 rfl) rfl hQ
set_option maxHeartbeats 1000000 in
theorem r10 {xs : List Int32} {d a : Nat} {H : am_H} {n k e : Int32} {pv : Value} (h0 : H[a]? = some (.inl (5, [.int 0, .int 0, .null, .int 0, .null, .null, .null, .null, .null, .int 0, .int 0, .int 0, .null, .int 0, .int 0, .null]))) (hp : pv = .null ∧ e = 0 ∨ ∃ b fs dp, pv = .ref b ∧ b < H.length ∧ ¬ b = a ∧ H[b]? = some (.inl (5, fs)) ∧ fs[3]? = some (.int dp) ∧ e = dp + 1) : ∀ Q : Option Value → am_H → Prop, Q none (XH H a (.inl (5, [.int n, .int k, pv, .int e, .ref (H.length + 0), .null, .null, .null, .retAddr 1, .int 3, .int 0, .int 0, .ref (H.length + 1), .int 0, .int 0, .null])) [.inr (.int, [.int (if k = 0 then 0 else 1), .int 0, .int (-1), .int (-1), .int 0, .int 0, .int 0, .int 0, .int 1]), .inl (0, [.int 0, .int 0, .int 0, .int 0, .null])]) → am_T (am_Bx xs) am_nm (d + 2) 10 [.ref a, .int n, .int k, pv] H Q := by
  intro Q hQ
  have ha : a < H.length := (List.getElem?_eq_some_iff.mp h0).1
  refine ax_intro (ms10 xs) (Nat.le_of_ble_eq_true rfl) ?_
  rw [← XH_0 h0]
  rcases hp with ⟨rfl, rfl⟩ | ⟨b, fs, dp, rfl, hb, hba, hbc, hb3, rfl⟩
  · refine ax_aload_n (dd D10_ok 0 rfl) rfl (by first | exact Or.inr (Or.inl ⟨_, rfl⟩) | exact Or.inl rfl | exact Or.inr (Or.inr ⟨_, rfl⟩) | assumption) ?_
    refine ax_obj (dd D10_ok 1 rfl) pl5_3 (Nat.le_of_ble_eq_true rfl) ?_
    refine ax_aload_n (dd D10_ok 2 rfl) rfl (by first | exact Or.inr (Or.inl ⟨_, rfl⟩) | exact Or.inl rfl | exact Or.inr (Or.inr ⟨_, rfl⟩) | assumption) ?_
    refine ax_bipush (v := 9) (dd D10_ok 3 rfl) (by decide) ?_
    refine cx_newarr (dd D10_ok 4 rfl) rfl (by first | exact Or.inl rfl | exact Or.inr (Or.inl rfl) | exact Or.inr (Or.inr rfl)) (by decide) (by decide) rfl rfl ?_
    refine ax_dup (dd D10_ok 5 rfl) ?_
    refine ax_iconst (v := 0) (dd D10_ok 6 rfl) (by decide) ?_
    refine ax_iconst (v := 0) (dd D10_ok 7 rfl) (by decide) ?_
    refine cx_iast (dd D10_ok 8 rfl) rfl (by decide) (by decide) rfl ?_
    refine ax_dup (dd D10_ok 9 rfl) ?_
    refine ax_iconst (v := 1) (dd D10_ok 10 rfl) (by decide) ?_
    refine ax_iconst (v := 0) (dd D10_ok 11 rfl) (by decide) ?_
    refine cx_iast (dd D10_ok 12 rfl) rfl (by decide) (by decide) rfl ?_
    refine ax_dup (dd D10_ok 13 rfl) ?_
    refine ax_iconst (v := 2) (dd D10_ok 14 rfl) (by decide) ?_
    refine ax_iconst (v := (-1)) (dd D10_ok 15 rfl) (by decide) ?_
    refine cx_iast (dd D10_ok 16 rfl) rfl (by decide) (by decide) rfl ?_
    refine ax_dup (dd D10_ok 17 rfl) ?_
    refine ax_iconst (v := 3) (dd D10_ok 18 rfl) (by decide) ?_
    refine ax_iconst (v := (-1)) (dd D10_ok 19 rfl) (by decide) ?_
    refine cx_iast (dd D10_ok 20 rfl) rfl (by decide) (by decide) rfl ?_
    refine ax_dup (dd D10_ok 21 rfl) ?_
    refine ax_iconst (v := 4) (dd D10_ok 22 rfl) (by decide) ?_
    refine ax_iconst (v := 0) (dd D10_ok 23 rfl) (by decide) ?_
    refine cx_iast (dd D10_ok 24 rfl) rfl (by decide) (by decide) rfl ?_
    refine ax_dup (dd D10_ok 25 rfl) ?_
    refine ax_iconst (v := 5) (dd D10_ok 26 rfl) (by decide) ?_
    refine ax_iconst (v := 0) (dd D10_ok 27 rfl) (by decide) ?_
    refine cx_iast (dd D10_ok 28 rfl) rfl (by decide) (by decide) rfl ?_
    refine ax_dup (dd D10_ok 29 rfl) ?_
    refine ax_bipush (v := 6) (dd D10_ok 30 rfl) (by decide) ?_
    refine ax_iconst (v := 0) (dd D10_ok 31 rfl) (by decide) ?_
    refine cx_iast (dd D10_ok 32 rfl) rfl (by decide) (by decide) rfl ?_
    refine ax_dup (dd D10_ok 33 rfl) ?_
    refine ax_bipush (v := 7) (dd D10_ok 34 rfl) (by decide) ?_
    refine ax_iconst (v := 0) (dd D10_ok 35 rfl) (by decide) ?_
    refine cx_iast (dd D10_ok 36 rfl) rfl (by decide) (by decide) rfl ?_
    refine ax_dup (dd D10_ok 37 rfl) ?_
    refine ax_bipush (v := 8) (dd D10_ok 38 rfl) (by decide) ?_
    refine ax_iconst (v := 1) (dd D10_ok 39 rfl) (by decide) ?_
    refine cx_iast (dd D10_ok 40 rfl) rfl (by decide) (by decide) rfl ?_
    refine cx_put (dd D10_ok 41 rfl) pl5_9 ha rfl rfl rfl rfl rfl (by first | exact fun q => absurd q (by decide) | exact fun _ => ⟨rfl, rfl⟩) ?_
    refine ax_aload_n (dd D10_ok 42 rfl) rfl (by first | exact Or.inr (Or.inl ⟨_, rfl⟩) | exact Or.inl rfl | exact Or.inr (Or.inr ⟨_, rfl⟩) | assumption) ?_
    refine ax_gets (dd D10_ok 43 rfl) pl5_15 ?_
    refine cx_put (dd D10_ok 44 rfl) pl5_19 ha rfl rfl rfl rfl rfl (by first | exact fun q => absurd q (by decide) | exact fun _ => ⟨rfl, rfl⟩) ?_
    refine ax_aload_n (dd D10_ok 45 rfl) rfl (by first | exact Or.inr (Or.inl ⟨_, rfl⟩) | exact Or.inl rfl | exact Or.inr (Or.inr ⟨_, rfl⟩) | assumption) ?_
    refine ax_iconst (v := 3) (dd D10_ok 46 rfl) (by decide) ?_
    refine cx_put (dd D10_ok 47 rfl) pl5_22 ha rfl rfl rfl rfl rfl (by first | exact fun q => absurd q (by decide) | exact fun _ => ⟨rfl, rfl⟩) ?_
    refine ax_aload_n (dd D10_ok 48 rfl) rfl (by first | exact Or.inr (Or.inl ⟨_, rfl⟩) | exact Or.inl rfl | exact Or.inr (Or.inr ⟨_, rfl⟩) | assumption) ?_
    refine cx_new (dd D10_ok 49 rfl) pl5_26 rfl rfl rfl rfl rfl ?_
    refine ax_dup (dd D10_ok 50 rfl) ?_
    refine ax_init (as := []) (dd D10_ok 51 rfl) pl5_28 (by simp) rfl (Nat.le_of_ble_eq_true rfl) rfl (r11 _ ⟨rfl, ?_⟩)
    refine cx_put (dd D10_ok 52 rfl) pl5_29 ha rfl rfl rfl rfl rfl (by first | exact fun q => absurd q (by decide) | exact fun _ => ⟨rfl, rfl⟩) ?_
    refine ax_aload_n (dd D10_ok 53 rfl) rfl (by first | exact Or.inr (Or.inl ⟨_, rfl⟩) | exact Or.inl rfl | exact Or.inr (Or.inr ⟨_, rfl⟩) | assumption) ?_
    refine ax_iload_n (dd D10_ok 54 rfl) rfl ?_
    refine cx_put (dd D10_ok 55 rfl) pl5_33 ha rfl rfl rfl rfl rfl (by first | exact fun q => absurd q (by decide) | exact fun _ => ⟨rfl, rfl⟩) ?_
    refine ax_aload_n (dd D10_ok 56 rfl) rfl (by first | exact Or.inr (Or.inl ⟨_, rfl⟩) | exact Or.inl rfl | exact Or.inr (Or.inr ⟨_, rfl⟩) | assumption) ?_
    refine ax_iload_n (dd D10_ok 57 rfl) rfl ?_
    refine cx_put (dd D10_ok 58 rfl) pl5_36 ha rfl rfl rfl rfl rfl (by first | exact fun q => absurd q (by decide) | exact fun _ => ⟨rfl, rfl⟩) ?_
    refine ax_aload_n (dd D10_ok 59 rfl) rfl (by first | exact Or.inr (Or.inl ⟨_, rfl⟩) | exact Or.inl rfl | exact Or.inr (Or.inr ⟨_, rfl⟩) | assumption) ?_
    refine ax_aload_n (dd D10_ok 60 rfl) rfl (by first | exact Or.inr (Or.inl ⟨_, rfl⟩) | exact Or.inl rfl | exact Or.inr (Or.inr ⟨_, rfl⟩) | assumption) ?_
    refine cx_put (dd D10_ok 61 rfl) pl5_39 ha rfl rfl rfl rfl rfl (by first | exact fun q => absurd q (by decide) | exact fun _ => ⟨rfl, rfl⟩) ?_
    refine ax_aload_n (dd D10_ok 62 rfl) rfl (by first | exact Or.inr (Or.inl ⟨_, rfl⟩) | exact Or.inl rfl | exact Or.inr (Or.inr ⟨_, rfl⟩) | assumption) ?_
    refine ax_aload_n (dd D10_ok 63 rfl) rfl (by first | exact Or.inr (Or.inl ⟨_, rfl⟩) | exact Or.inl rfl | exact Or.inr (Or.inr ⟨_, rfl⟩) | assumption) ?_
    refine ax_ifnonnull (tgt := 98) (dd D10_ok 64 rfl) (Or.inl rfl) (by decide) (fun c => absurd rfl c) (fun _ => ?_)
    refine ax_iconst (v := 0) (dd D10_ok 65 rfl) (by decide) ?_
    refine ax_goto (tgt := 104) (dd D10_ok 66 rfl) (by decide) ?_
    refine cx_put (dd D10_ok 71 rfl) pl5_43 ha rfl rfl rfl rfl rfl (by first | exact fun q => absurd q (by decide) | exact fun _ => ⟨rfl, rfl⟩) ?_
    refine ax_aload_n (dd D10_ok 72 rfl) rfl (by first | exact Or.inr (Or.inl ⟨_, rfl⟩) | exact Or.inl rfl | exact Or.inr (Or.inr ⟨_, rfl⟩) | assumption) ?_
    refine cx_get (dd D10_ok 73 rfl) pl5_9 ha rfl ?_
    refine ax_iconst (v := 0) (dd D10_ok 74 rfl) (by decide) ?_
    refine ax_iload_n (dd D10_ok 75 rfl) rfl ?_
    refine ax_if_ne (tgt := 120) (dd D10_ok 76 rfl) (by decide) (fun c => ?_) (fun c => ?_)
    · rw [if_neg c] at hQ
      refine ax_iconst (v := 1) (dd D10_ok 79 rfl) (by decide) ?_
      refine cx_iast (dd D10_ok 80 rfl) rfl (by decide) (by decide) rfl ?_
      exact ax_vret (dd D10_ok 81 rfl) rfl hQ
    · rw [if_pos (Classical.not_not.mp c)] at hQ
      refine ax_iconst (v := 0) (dd D10_ok 77 rfl) (by decide) ?_
      refine ax_goto (tgt := 121) (dd D10_ok 78 rfl) (by decide) ?_
      refine cx_iast (dd D10_ok 80 rfl) rfl (by decide) (by decide) rfl ?_
      exact ax_vret (dd D10_ok 81 rfl) rfl hQ
  · refine ax_aload_n (dd D10_ok 0 rfl) rfl (by first | exact Or.inr (Or.inl ⟨_, rfl⟩) | exact Or.inl rfl | exact Or.inr (Or.inr ⟨_, rfl⟩) | assumption) ?_
    refine ax_obj (dd D10_ok 1 rfl) pl5_3 (Nat.le_of_ble_eq_true rfl) ?_
    refine ax_aload_n (dd D10_ok 2 rfl) rfl (by first | exact Or.inr (Or.inl ⟨_, rfl⟩) | exact Or.inl rfl | exact Or.inr (Or.inr ⟨_, rfl⟩) | assumption) ?_
    refine ax_bipush (v := 9) (dd D10_ok 3 rfl) (by decide) ?_
    refine cx_newarr (dd D10_ok 4 rfl) rfl (by first | exact Or.inl rfl | exact Or.inr (Or.inl rfl) | exact Or.inr (Or.inr rfl)) (by decide) (by decide) rfl rfl ?_
    refine ax_dup (dd D10_ok 5 rfl) ?_
    refine ax_iconst (v := 0) (dd D10_ok 6 rfl) (by decide) ?_
    refine ax_iconst (v := 0) (dd D10_ok 7 rfl) (by decide) ?_
    refine cx_iast (dd D10_ok 8 rfl) rfl (by decide) (by decide) rfl ?_
    refine ax_dup (dd D10_ok 9 rfl) ?_
    refine ax_iconst (v := 1) (dd D10_ok 10 rfl) (by decide) ?_
    refine ax_iconst (v := 0) (dd D10_ok 11 rfl) (by decide) ?_
    refine cx_iast (dd D10_ok 12 rfl) rfl (by decide) (by decide) rfl ?_
    refine ax_dup (dd D10_ok 13 rfl) ?_
    refine ax_iconst (v := 2) (dd D10_ok 14 rfl) (by decide) ?_
    refine ax_iconst (v := (-1)) (dd D10_ok 15 rfl) (by decide) ?_
    refine cx_iast (dd D10_ok 16 rfl) rfl (by decide) (by decide) rfl ?_
    refine ax_dup (dd D10_ok 17 rfl) ?_
    refine ax_iconst (v := 3) (dd D10_ok 18 rfl) (by decide) ?_
    refine ax_iconst (v := (-1)) (dd D10_ok 19 rfl) (by decide) ?_
    refine cx_iast (dd D10_ok 20 rfl) rfl (by decide) (by decide) rfl ?_
    refine ax_dup (dd D10_ok 21 rfl) ?_
    refine ax_iconst (v := 4) (dd D10_ok 22 rfl) (by decide) ?_
    refine ax_iconst (v := 0) (dd D10_ok 23 rfl) (by decide) ?_
    refine cx_iast (dd D10_ok 24 rfl) rfl (by decide) (by decide) rfl ?_
    refine ax_dup (dd D10_ok 25 rfl) ?_
    refine ax_iconst (v := 5) (dd D10_ok 26 rfl) (by decide) ?_
    refine ax_iconst (v := 0) (dd D10_ok 27 rfl) (by decide) ?_
    refine cx_iast (dd D10_ok 28 rfl) rfl (by decide) (by decide) rfl ?_
    refine ax_dup (dd D10_ok 29 rfl) ?_
    refine ax_bipush (v := 6) (dd D10_ok 30 rfl) (by decide) ?_
    refine ax_iconst (v := 0) (dd D10_ok 31 rfl) (by decide) ?_
    refine cx_iast (dd D10_ok 32 rfl) rfl (by decide) (by decide) rfl ?_
    refine ax_dup (dd D10_ok 33 rfl) ?_
    refine ax_bipush (v := 7) (dd D10_ok 34 rfl) (by decide) ?_
    refine ax_iconst (v := 0) (dd D10_ok 35 rfl) (by decide) ?_
    refine cx_iast (dd D10_ok 36 rfl) rfl (by decide) (by decide) rfl ?_
    refine ax_dup (dd D10_ok 37 rfl) ?_
    refine ax_bipush (v := 8) (dd D10_ok 38 rfl) (by decide) ?_
    refine ax_iconst (v := 1) (dd D10_ok 39 rfl) (by decide) ?_
    refine cx_iast (dd D10_ok 40 rfl) rfl (by decide) (by decide) rfl ?_
    refine cx_put (dd D10_ok 41 rfl) pl5_9 ha rfl rfl rfl rfl rfl (by first | exact fun q => absurd q (by decide) | exact fun _ => ⟨rfl, rfl⟩) ?_
    refine ax_aload_n (dd D10_ok 42 rfl) rfl (by first | exact Or.inr (Or.inl ⟨_, rfl⟩) | exact Or.inl rfl | exact Or.inr (Or.inr ⟨_, rfl⟩) | assumption) ?_
    refine ax_gets (dd D10_ok 43 rfl) pl5_15 ?_
    refine cx_put (dd D10_ok 44 rfl) pl5_19 ha rfl rfl rfl rfl rfl (by first | exact fun q => absurd q (by decide) | exact fun _ => ⟨rfl, rfl⟩) ?_
    refine ax_aload_n (dd D10_ok 45 rfl) rfl (by first | exact Or.inr (Or.inl ⟨_, rfl⟩) | exact Or.inl rfl | exact Or.inr (Or.inr ⟨_, rfl⟩) | assumption) ?_
    refine ax_iconst (v := 3) (dd D10_ok 46 rfl) (by decide) ?_
    refine cx_put (dd D10_ok 47 rfl) pl5_22 ha rfl rfl rfl rfl rfl (by first | exact fun q => absurd q (by decide) | exact fun _ => ⟨rfl, rfl⟩) ?_
    refine ax_aload_n (dd D10_ok 48 rfl) rfl (by first | exact Or.inr (Or.inl ⟨_, rfl⟩) | exact Or.inl rfl | exact Or.inr (Or.inr ⟨_, rfl⟩) | assumption) ?_
    refine cx_new (dd D10_ok 49 rfl) pl5_26 rfl rfl rfl rfl rfl ?_
    refine ax_dup (dd D10_ok 50 rfl) ?_
    refine ax_init (as := []) (dd D10_ok 51 rfl) pl5_28 (by simp) rfl (Nat.le_of_ble_eq_true rfl) rfl (r11 _ ⟨rfl, ?_⟩)
    refine cx_put (dd D10_ok 52 rfl) pl5_29 ha rfl rfl rfl rfl rfl (by first | exact fun q => absurd q (by decide) | exact fun _ => ⟨rfl, rfl⟩) ?_
    refine ax_aload_n (dd D10_ok 53 rfl) rfl (by first | exact Or.inr (Or.inl ⟨_, rfl⟩) | exact Or.inl rfl | exact Or.inr (Or.inr ⟨_, rfl⟩) | assumption) ?_
    refine ax_iload_n (dd D10_ok 54 rfl) rfl ?_
    refine cx_put (dd D10_ok 55 rfl) pl5_33 ha rfl rfl rfl rfl rfl (by first | exact fun q => absurd q (by decide) | exact fun _ => ⟨rfl, rfl⟩) ?_
    refine ax_aload_n (dd D10_ok 56 rfl) rfl (by first | exact Or.inr (Or.inl ⟨_, rfl⟩) | exact Or.inl rfl | exact Or.inr (Or.inr ⟨_, rfl⟩) | assumption) ?_
    refine ax_iload_n (dd D10_ok 57 rfl) rfl ?_
    refine cx_put (dd D10_ok 58 rfl) pl5_36 ha rfl rfl rfl rfl rfl (by first | exact fun q => absurd q (by decide) | exact fun _ => ⟨rfl, rfl⟩) ?_
    refine ax_aload_n (dd D10_ok 59 rfl) rfl (by first | exact Or.inr (Or.inl ⟨_, rfl⟩) | exact Or.inl rfl | exact Or.inr (Or.inr ⟨_, rfl⟩) | assumption) ?_
    refine ax_aload_n (dd D10_ok 60 rfl) rfl (by first | exact Or.inr (Or.inl ⟨_, rfl⟩) | exact Or.inl rfl | exact Or.inr (Or.inr ⟨_, rfl⟩) | assumption) ?_
    refine cx_put (dd D10_ok 61 rfl) pl5_39 ha rfl rfl rfl rfl rfl (by first | exact fun q => absurd q (by decide) | exact fun _ => ⟨rfl, rfl⟩) ?_
    refine ax_aload_n (dd D10_ok 62 rfl) rfl (by first | exact Or.inr (Or.inl ⟨_, rfl⟩) | exact Or.inl rfl | exact Or.inr (Or.inr ⟨_, rfl⟩) | assumption) ?_
    refine ax_aload_n (dd D10_ok 63 rfl) rfl (by first | exact Or.inr (Or.inl ⟨_, rfl⟩) | exact Or.inl rfl | exact Or.inr (Or.inr ⟨_, rfl⟩) | assumption) ?_
    refine ax_ifnonnull (tgt := 98) (dd D10_ok 64 rfl) (Or.inr (Or.inl ⟨_, rfl⟩)) (by decide) (fun _ => ?_) (fun c => absurd (fun q => by cases q) c)
    refine ax_aload_n (dd D10_ok 67 rfl) rfl (by first | exact Or.inr (Or.inl ⟨_, rfl⟩) | exact Or.inl rfl | exact Or.inr (Or.inr ⟨_, rfl⟩) | assumption) ?_
    refine ax_getf (dd D10_ok 68 rfl) pl5_43 (Or.inl rfl) (am_get_of ((XH_o hb hba).trans hbc) hb3) ?_
    refine ax_iconst (v := 1) (dd D10_ok 69 rfl) (by decide) ?_
    refine ax_iadd (dd D10_ok 70 rfl) ?_
    refine cx_put (dd D10_ok 71 rfl) pl5_43 ha rfl rfl rfl rfl rfl (by first | exact fun q => absurd q (by decide) | exact fun _ => ⟨rfl, rfl⟩) ?_
    refine ax_aload_n (dd D10_ok 72 rfl) rfl (by first | exact Or.inr (Or.inl ⟨_, rfl⟩) | exact Or.inl rfl | exact Or.inr (Or.inr ⟨_, rfl⟩) | assumption) ?_
    refine cx_get (dd D10_ok 73 rfl) pl5_9 ha rfl ?_
    refine ax_iconst (v := 0) (dd D10_ok 74 rfl) (by decide) ?_
    refine ax_iload_n (dd D10_ok 75 rfl) rfl ?_
    refine ax_if_ne (tgt := 120) (dd D10_ok 76 rfl) (by decide) (fun c => ?_) (fun c => ?_)
    · rw [if_neg c] at hQ
      refine ax_iconst (v := 1) (dd D10_ok 79 rfl) (by decide) ?_
      refine cx_iast (dd D10_ok 80 rfl) rfl (by decide) (by decide) rfl ?_
      exact ax_vret (dd D10_ok 81 rfl) rfl hQ
    · rw [if_pos (Classical.not_not.mp c)] at hQ
      refine ax_iconst (v := 0) (dd D10_ok 77 rfl) (by decide) ?_
      refine ax_goto (tgt := 121) (dd D10_ok 78 rfl) (by decide) ?_
      refine cx_iast (dd D10_ok 80 rfl) rfl (by decide) (by decide) rfl ?_
      exact ax_vret (dd D10_ok 81 rfl) rfl hQ
