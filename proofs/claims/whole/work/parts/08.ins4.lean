/-! one instruction: arrays, new cells, constants -/
section AML
variable {l : Launch} {B : am_B} {nm : Nat → String} {my : Nat → MethodName} {cl : List vw_C} {Ts NW : List Cond} {D : va_G} {DA : FieldType → ClassId} {sa : Nat → Nat} {base : Nat}
variable {I : am_I} {h0 : am_H} {d : Nat} {Q : Option Value → am_H → Prop} {Z : Option Value → am_H → State → Array Value → List Frame → State → Prop} {pc : Nat} {ls : List (Option Value)} {st rest : List Value} {h : am_H}
/-- an array, read -/
theorem am_rd {s : State} {H : Heap} {locs : List Loc} {r : Value} {ty : FieldType} {vs : List Value} (hK : am_K B nm cl NW D DA sa base s) (w : am_Wd D DA sa base cl h H) (hS : va_S (am_A base) s.heap H locs) (hr : am_arr B h r = some (ty, vs)) (hty : am_tyk ty) :
    ∃ (a : Nat) (cell : Cell), am_cv sa base r = .ref a ∧ H[a]? = some cell ∧ s.isArrayOf cell ty ∧ cell.vm ≠ .unknown ∧ vs.length ≤ cell.slots.size ∧ cell.slots.size.toInt32 = Int32.ofNat vs.length ∧ ∀ j : Nat, j < vs.length → cell.slots[j]? = some (am_cv sa base (vs.getD j .null)) := by
  unfold am_arr at hr
  split at hr
  · next a =>
    split at hr
    · next x hx =>
      cases hr
      have hc := w.2 a _ hx
      refine ⟨base + a, _, rfl, hc, (hK.2.2.1 _ hty).1 _ _, (fun q => by cases q), ?_, ?_, fun j hj => ?_⟩
      · rw [arrV_size]; exact Nat.le_refl _
      · rw [arrV_size]
      · rw [arrV_read _ _ hj]
    · cases hr
  · next j =>
    obtain ⟨h1, cell, g1, g2, g3, g4, g5, g6, g7⟩ := hK.2.2.2.1 j ty vs hr
    exact ⟨sa j, cell, rfl, by rw [hS.2.1 _ (Array.getElem?_eq_some_iff.mp g1).1 g7]; exact g1, g2, g3, g4, g5, g6⟩
  · cases hr
theorem am_arr_e1 {r : Value} {ty : FieldType} {vs : List Value} {j : Nat} {v : Value} (hK : ∀ i ty vs, B.2.2.2 i = some (ty, vs) → ∀ v ∈ vs, v.category = 1) (h1 : am_v1 h) (hr : am_arr B h r = some (ty, vs)) (hv : vs[j]? = some v) : v.category = 1 := by
  unfold am_arr at hr
  split at hr
  · next a =>
    split at hr
    · next x hx =>
      cases hr
      exact am_mem_h h1 hx v (List.mem_of_getElem? hv)
    · cases hr
  · next i => exact hK i ty vs hr v (List.mem_of_getElem? hv)
  · cases hr
theorem am_i_len {r : Value} {ty : FieldType} {vs : List Value} (hd : decode I.2.1 pc = .ok (.arraylength, 1)) (hr : am_arr B h r = some (ty, vs)) (hty : am_tyk ty) (hP : am_P l B nm cl Ts NW D DA sa base I h0 d Q Z (pc + 1, ls, .int (Int32.ofNat vs.length) :: rest, h)) : am_P l B nm cl Ts NW D DA sa base I h0 d Q Z (pc, ls, r :: rest, h) := by
  refine am_gost (fun a => List.forall_mem_cons.mpr ⟨rfl, am_tl a⟩) (fun p e R s m args below meth c Qm H locs lsm cells slots hC hst hR k => ?_) hP
  obtain ⟨a, cell, e1, g1, g2, g3, g4, g5, g6⟩ := am_rd hC.2.2.2.2.2.1 hR.2.1 hR.2.2.1 hr hty
  show W p l e R s m args below meth c H locs cells slots Qm (F0 m pc lsm (am_cv sa base r :: rest.map (am_cv sa base)))
  rw [e1]
  exact W.alen hC.1 hC.2.1 g1 g2 g5 rfl rfl hd k
theorem am_inb {j : Int32} {n N : Nat} (h0 : ¬ j < 0) (hj : j.toNatClampNeg < n) (hN : n ≤ N) : ¬ (j < 0 ∨ N ≤ j.toNatClampNeg) := by
  rintro (q | q)
  · exact h0 q
  · omega
theorem am_getD {vs : List Value} {j : Nat} {v : Value} (hv : vs[j]? = some v) : vs.getD j .null = v := by
  rw [List.getD_eq_getElem?_getD, hv]; rfl
theorem am_i_ald {i : Instr} {j : Int32} {r v : Value} {ty : FieldType} {vs : List Value} (hB : ∀ i ty vs, B.2.2.2 i = some (ty, vs) → ∀ v ∈ vs, v.category = 1) (hd : decode I.2.1 pc = .ok (i, 1)) (hi : i = .iaload ∧ ty = .int ∨ i = .baload ∧ (ty = .byte ∨ ty = .boolean) ∨ i = .aaload ∧ ∃ C, C ∈ am_refs ∧ ty = .object C) (hr : am_arr B h r = some (ty, vs)) (h0j : ¬ j < 0) (hv : vs[j.toNatClampNeg]? = some v)
    (hP : am_P l B nm cl Ts NW D DA sa base I h0 d Q Z (pc + 1, ls, v :: rest, h)) : am_P l B nm cl Ts NW D DA sa base I h0 d Q Z (pc, ls, .int j :: r :: rest, h) := by
  have hty : am_tyk ty := by
    rcases hi with ⟨-, h⟩ | ⟨-, h | h⟩ | ⟨-, h⟩
    · exact Or.inl h
    · exact Or.inr (Or.inl h)
    · exact Or.inr (Or.inr (Or.inl h))
    · exact Or.inr (Or.inr (Or.inr h))
  have hj : j.toNatClampNeg < vs.length := (List.getElem?_eq_some_iff.mp hv).1
  refine am_go (F' := (pc + 1, ls, v :: rest, h)) (fun ⟨q1, q2, q3, q4⟩ => ⟨List.forall_mem_cons.mpr ⟨am_arr_e1 hB q3 hr hv, am_tl (am_tl q1)⟩, q2, q3, q4⟩) (Nat.le_refl _) (Nat.le_refl _)
    (fun hF p e R s m args below meth cc Qm hC _ _ _ _ kk H locs lsm cells slots hR => ?_) hP
  obtain ⟨a, cell, e1, g1, g2, g3, g4, g5, g6⟩ := am_rd hC.2.2.2.2.2.1 hR.2.1 hR.2.2.1 hr hty
  have g7 := g6 _ hj
  rw [am_getD hv] at g7
  show W p l e R s m args below meth cc H locs cells slots Qm (F0 m pc lsm (.int j :: am_cv sa base r :: rest.map (am_cv sa base)))
  rw [e1]
  rcases hi with ⟨rfl, rfl⟩ | ⟨rfl, rfl | rfl⟩ | ⟨rfl, C, -, rfl⟩
  · exact W.iald hC.1 hC.2.1 g1 g2 g3 (am_inb h0j hj g4) g7 rfl rfl hd (kk H locs lsm cells slots hR)
  · exact W.bald hC.1 hC.2.1 g1 g2 g3 (am_inb h0j hj g4) g7 rfl rfl hd (kk H locs lsm cells slots hR)
  · exact W.zald hC.1 hC.2.1 g1 g2 g3 (am_inb h0j hj g4) g7 rfl rfl hd (kk H locs lsm cells slots hR)
  · exact W.aald hC.1 hC.2.1 g1 g2 rfl g3 (am_inb h0j hj g4) g7 rfl rfl hd (kk H locs lsm cells slots hR)
/-- an array's cell behind a store -/
theorem am_arr_set {ty : FieldType} {vs : List Value} {j : Nat} {v : Value} (hj : j < vs.length) : (arrV (DA ty) vs.length (fun i => am_cv sa base (vs.getD i .null))).setSlot j (am_cv sa base v) = arrV (DA ty) (vs.set j v).length (fun i => am_cv sa base ((vs.set j v).getD i .null)) := by
  rw [arrV_store, List.length_set]
  congr 1
  funext q
  by_cases hq : q = j
  · subst hq
    simp [updV, hj]
  · simp [updV, hq, List.getElem?_set, Ne.symm hq]
theorem am_goast {pc' a j : Nat} {st' : List Value} {ty : FieldType} {vs : List Value} {v : Value} (hst : (∀ v ∈ st, v.category = 1) → (∀ v ∈ st', v.category = 1)) (hv : (∀ v ∈ st, v.category = 1) → v.category = 1) (ha : h[a]? = some (.inr (ty, vs))) (hj : j < vs.length)
    (hstep : ∀ (p : Program) (e : Env) (R : Room) (s : State) (m : MethodId) (args : Array Value) (below : List Frame) (meth : Method) (c : Code) (Qm : State → Prop) (H : Heap) (locs : List Loc) (lsm : Array Slot) (cells slots : Nat), am_Ctx B nm cl Ts NW D DA sa base I p s m args meth c → am_Wd D DA sa base cl h H →
      (∀ H' : Heap, H'[base + a]? = some ((arrV (DA ty) vs.length (fun i => am_cv sa base (vs.getD i .null))).setSlot j (am_cv sa base v)) → H'.size = H.size → (∀ q, q ≠ base + a → H'[q]? = H[q]?) → W p l e R s m args below meth c H' (locs ++ [⟨base + a, j⟩]) cells slots Qm (F0 m pc' lsm (st'.map (am_cv sa base)))) → W p l e R s m args below meth c H locs cells slots Qm (F0 m pc lsm (st.map (am_cv sa base))))
    (hP : am_P l B nm cl Ts NW D DA sa base I h0 d Q Z (pc', ls, st', h.set a (.inr (ty, vs.set j v)))) : am_P l B nm cl Ts NW D DA sa base I h0 d Q Z (pc, ls, st, h) := by
  have hsz : am_sl (h.set a (.inr (ty, vs.set j v))) = am_sl h := am_sl_set h a _ _ ha (by simp [am_sz])
  refine am_go (F' := (pc', ls, st', h.set a (.inr (ty, vs.set j v)))) (fun ⟨q1, q2, q3, q4⟩ => ⟨hst q1, q2, am_v1_set q3 (fun x hx => ?_), q4⟩) (Nat.le_of_eq List.length_set.symm) (Nat.le_of_eq hsz.symm)
    (fun hF p e R s m args below meth c Qm hC _ _ _ _ kk H locs lsm cells slots hR => hstep p e R s m args below meth c Qm H locs lsm cells slots hC hR.2.1 (fun H' e1 z oq => kk H' _ lsm cells slots ⟨hR.1, hR.2.1.set z oq ?_, hR.2.2.1.put z oq (show base ≤ base + a by omega), by simpa using hR.2.2.2.1, by show am_sl h0 + slots = am_sl (h.set a _); rw [hsz]; exact hR.2.2.2.2⟩)) hP
  · rcases List.mem_or_eq_of_mem_set hx with h2 | h2
    · exact am_mem_h q3 ha x h2
    · rw [h2]; exact hv q1
  · show H'[base + a]? = some (arrV _ _ _)
    rw [e1, am_arr_set hj]
theorem am_i_iast {j : Int32} {x : Int32} {a : Nat} {vs : List Value} (hd : decode I.2.1 pc = .ok (.iastore, 1)) (ha : h[a]? = some (.inr (.int, vs))) (h0j : ¬ j < 0) (hj : j.toNatClampNeg < vs.length)
    (hP : am_P l B nm cl Ts NW D DA sa base I h0 d Q Z (pc + 1, ls, rest, h.set a (.inr (.int, vs.set j.toNatClampNeg (.int x))))) : am_P l B nm cl Ts NW D DA sa base I h0 d Q Z (pc, ls, .int x :: .int j :: .ref a :: rest, h) :=
  am_goast (pc' := pc + 1) (st' := rest) (v := .int x) (fun q => am_tl (am_tl (am_tl q))) (fun _ => rfl) ha hj (fun p e R s m args below meth c Qm H locs lsm cells slots hC w k =>
    W.iast hC.1 hC.2.1 (w.2 a _ ha) ((hC.2.2.2.2.2.1.2.2.1 _ (Or.inl rfl)).1 _ _) (fun q => by cases q) (am_inb h0j hj (by rw [arrV_size]; exact Nat.le_refl _)) rfl rfl hd k) hP
theorem am_i_bast {j : Int32} {x : Int32} {a : Nat} {vs : List Value} (hd : decode I.2.1 pc = .ok (.bastore, 1)) (ha : h[a]? = some (.inr (.byte, vs))) (h0j : ¬ j < 0) (hj : j.toNatClampNeg < vs.length)
    (hP : am_P l B nm cl Ts NW D DA sa base I h0 d Q Z (pc + 1, ls, rest, h.set a (.inr (.byte, vs.set j.toNatClampNeg (.int x.toInt8.toInt32))))) : am_P l B nm cl Ts NW D DA sa base I h0 d Q Z (pc, ls, .int x :: .int j :: .ref a :: rest, h) :=
  am_goast (pc' := pc + 1) (st' := rest) (v := .int x.toInt8.toInt32) (fun q => am_tl (am_tl (am_tl q))) (fun _ => rfl) ha hj (fun p e R s m args below meth c Qm H locs lsm cells slots hC w k =>
    W.bast hC.1 hC.2.1 (w.2 a _ ha) ((hC.2.2.2.2.2.1.2.2.1 _ (Or.inr (Or.inl rfl))).1 _ _) (fun q => by cases q) (am_inb h0j hj (by rw [arrV_size]; exact Nat.le_refl _)) rfl rfl hd k) hP
theorem am_i_zast {j : Int32} {x : Int32} {a : Nat} {vs : List Value} (hd : decode I.2.1 pc = .ok (.bastore, 1)) (ha : h[a]? = some (.inr (.boolean, vs))) (h0j : ¬ j < 0) (hj : j.toNatClampNeg < vs.length)
    (hP : am_P l B nm cl Ts NW D DA sa base I h0 d Q Z (pc + 1, ls, rest, h.set a (.inr (.boolean, vs.set j.toNatClampNeg (.int (x &&& 1)))))) : am_P l B nm cl Ts NW D DA sa base I h0 d Q Z (pc, ls, .int x :: .int j :: .ref a :: rest, h) :=
  am_goast (pc' := pc + 1) (st' := rest) (v := .int (x &&& 1)) (fun q => am_tl (am_tl (am_tl q))) (fun _ => rfl) ha hj (fun p e R s m args below meth c Qm H locs lsm cells slots hC w k =>
    W.zast hC.1 hC.2.1 (w.2 a _ ha) ((hC.2.2.2.2.2.1.2.2.1 _ (Or.inr (Or.inr (Or.inl rfl)))).1 _ _) (fun q => by cases q) (am_inb h0j hj (by rw [arrV_size]; exact Nat.le_refl _)) rfl rfl hd k) hP
theorem am_cls {c : Nat} {r : vw_C} {s : State} (hK : va_K D cl [] s) (hr : cl[c]? = some r) : ClassAt s r.1 (D.1 c) := (hK.1 c r hr).2
theorem am_i_aastN {j : Int32} {a : Nat} {C : String} {vs : List Value} (hd : decode I.2.1 pc = .ok (.aastore, 1)) (hC0 : C ∈ am_refs) (ha : h[a]? = some (.inr (.object C, vs))) (h0j : ¬ j < 0) (hj : j.toNatClampNeg < vs.length)
    (hP : am_P l B nm cl Ts NW D DA sa base I h0 d Q Z (pc + 1, ls, rest, h.set a (.inr (.object C, vs.set j.toNatClampNeg .null)))) : am_P l B nm cl Ts NW D DA sa base I h0 d Q Z (pc, ls, .null :: .int j :: .ref a :: rest, h) :=
  am_goast (pc' := pc + 1) (st' := rest) (v := .null) (fun q => am_tl (am_tl (am_tl q))) (fun _ => rfl) ha hj (fun p e R s m args below meth c Qm H locs lsm cells slots hC w k =>
    va_WaastN hC.1 hC.2.1 (w.2 a _ ha) ((hC.2.2.2.2.2.1.2.2.1 _ (Or.inr (Or.inr (Or.inr ⟨C, hC0, rfl⟩)))).1 _ _) (fun q => by cases q) (am_inb h0j hj (by rw [arrV_size]; exact Nat.le_refl _)) rfl rfl hd k) hP
theorem am_i_aast {j : Int32} {a b c : Nat} {C : String} {vs fs : List Value} (hT : am_Tab B nm my cl Ts NW) (hd : decode I.2.1 pc = .ok (.aastore, 1)) (hC0 : C ∈ am_refs) (ha : h[a]? = some (.inr (.object C, vs))) (hbb : h[b]? = some (.inl (c, fs))) (hcn : nm c = C ∨ C = "java/lang/Object" ∧ c = 7) (h0j : ¬ j < 0) (hj : j.toNatClampNeg < vs.length)
    (hP : am_P l B nm cl Ts NW D DA sa base I h0 d Q Z (pc + 1, ls, rest, h.set a (.inr (.object C, vs.set j.toNatClampNeg (.ref b))))) : am_P l B nm cl Ts NW D DA sa base I h0 d Q Z (pc, ls, .ref b :: .int j :: .ref a :: rest, h) := by
  refine am_goast (pc' := pc + 1) (st' := rest) (v := .ref b) (fun q => am_tl (am_tl (am_tl q))) (fun _ => rfl) ha hj (fun p e R s m args below meth cc Qm H locs lsm cells slots hC w k => ?_) hP
  obtain ⟨r, hr, -, cell, g1, g2, g3, -⟩ := w.2 b _ hbb
  have hK := hC.2.2.2.2.2.1
  obtain ⟨hfc, kC, hkC, hkind⟩ := am_cls hK.1 hr
  obtain ⟨kA, comp, k1, k2, k3, -⟩ := (hK.2.2.1 _ (Or.inr (Or.inr (Or.inr ⟨C, hC0, rfl⟩)))).2
  obtain ⟨kE, hkE, -⟩ := Vm.findClass_spec k3
  have hasg : s.vm.assignable cell.cls comp = true := by
    rw [g2]
    rcases hcn with hcn | ⟨hcn, rfl⟩
    · have e1 : r.1 = C := (hT.1 c r hr).1.trans hcn
      rw [e1] at hfc
      cases k3.symm.trans hfc
      exact va_assign ⟨hfc, kC, hkC, hkind⟩
    · obtain ⟨c0, t0, f1, f2, f3⟩ := Cond.castable_spec (va_Nw.use (A := args) rfl (hK.2.1 _ hT.2.2.2.2.2.2.2.2.2.2.2.2.2.2.1))
      rw [← (hT.1 7 r hr).1] at f1
      cases hfc.symm.trans f1
      rw [hcn] at k3
      cases k3.symm.trans f2
      exact f3
  exact W.aast hC.1 hC.2.1 (w.2 a _ ha) (fun q h => by cases h) (fun h => by cases h) k1 k2 rfl hkE ⟨h0j, by rw [arrV_size]; exact hj⟩ g1 (fun q h => by rw [g3] at h; cases h) (by rw [g2]; exact hkC) hasg rfl rfl hd k
end AML
