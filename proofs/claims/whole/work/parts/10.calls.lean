/-! calls -/
section AMC
variable {l : Launch} {B : am_B} {nm : Nat → String} {my : Nat → MethodName} {cl : List vw_C} {Ts NW : List Cond} {D : va_G} {DA : FieldType → ClassId} {sa : Nat → Nat} {base : Nat}
theorem am_K.to {s U : State} (hK : am_K B nm cl NW D DA sa base s) (hvm : s.vm.Alike U.vm) (hnw : ∀ w ∈ NW, va_Nw w s → va_Nw w U) (hfl : ∀ o i r n d, va_Nw (.fieldLink o i r n d) s → va_Nw (.fieldLink o i r n d) U) (hh : ∀ a : Nat, a < s.heap.size → ¬ am_A base a → U.heap[a]? = s.heap[a]?) : am_K B nm cl NW D DA sa base U := by
  obtain ⟨h1, h2, h3, h4, h5, h6⟩ := hK
  refine ⟨h1.moved hvm, fun w hw => hnw w hw (h2 w hw), fun ty ht => ⟨arrOfT_moved hvm (h3 ty ht).1, (h3 ty ht).2.moved hvm⟩, fun j ty vs hj => ⟨(h4 j ty vs hj).1, va_T.moved hvm ((h4 j ty vs hj).2.kept hh)⟩, fun o idx j y hb => ?_, h6.moved hvm⟩
  obtain ⟨C, n, d, ref, g1, g2, g3⟩ := h5 o idx j y hb
  exact ⟨C, n, d, ref, va_Z.moved hvm (g1.kept hh), g2, g3.imp (hfl _ _ _ _ _) id⟩
theorem am_nw_warm {w : Cond} {s U : State} (hk : am_nwk w) (hW : s.WarmedH U.vm) (h : va_Nw w s) : va_Nw w U := by
  rcases hk with ⟨a, i, b, n, d, hh, rfl⟩ | ⟨a, i, x, hh, rfl⟩ | ⟨C, T, rfl⟩ | ⟨C, rfl⟩ | ⟨x, rfl⟩
  · exact va_Nw.warmF hW h
  · exact va_Nw.warmM hW h
  · exact va_Nw.warmC hW h
  · exact va_AO.moved hW.alike h
  · exact va_Nw.warmD hW h
theorem am_nw_same {w : Cond} {s U : State} (hk : am_nwk w) (hv : s.vm = U.vm) (h : va_Nw w s) : va_Nw w U := by
  rcases hk with ⟨a, i, b, n, d, hh, rfl⟩ | ⟨a, i, x, hh, rfl⟩ | ⟨C, T, rfl⟩ | ⟨C, rfl⟩ | ⟨x, rfl⟩
  · exact va_Nw.same rfl hv h
  · exact va_Nw.same rfl hv h
  · exact va_Nw.same rfl hv h
  · exact va_AO.moved (by rw [hv]; exact Vm.Alike.refl _) h
  · exact va_Nw.same rfl hv h
/-- a method's start -/
def am_Pc (B : am_B) (nm : Nat → String) (cl : List vw_C) (NW : List Cond) (D : va_G) (DA : FieldType → ClassId) (sa : Nat → Nat) (base : Nat) (as : List Value) (h : am_H) : Array Value → State → Prop := va_Pc (as.map (am_cv sa base)) (fun U => am_Wd D DA sa base cl h U.heap ∧ am_K B nm cl NW D DA sa base U)
def am_Qc (cl : List vw_C) (D : va_G) (DA : FieldType → ClassId) (sa : Nat → Nat) (base : Nat) (v : Option Value) (h' : am_H) : Array Value → State → Outcome → State → Prop := fun _ st o t => o = .returned (v.map (am_cv sa base)) ∧ am_Wd D DA sa base cl h' t.heap ∧ va_F (am_A base) st t
theorem am_Pc_blind {as : List Value} {h : am_H} (hT : am_Tab B nm my cl Ts NW) : FrameBlind (am_Pc B nm cl NW D DA sa base as h) := by
  intro a U g mk hp
  obtain ⟨h1, h2, h3⟩ := hp
  exact ⟨h1, h2, h3.to (Vm.Alike.refl U.vm) (fun w hw h => am_nw_same (s := U) (U := U.calling g mk a) (hT.2.2.2.2.2.2.2.2.2.2.2.2.2.2.2.2.1 w hw) rfl h) (fun o i r n d h => va_Nw.same (u := U) (U := U.calling g mk a) rfl rfl h) (fun a _ _ => rfl)⟩
theorem am_K_warm {s U : State} {H : Heap} {locs : List Loc} (hT : am_Tab B nm my cl Ts NW) (hK : am_K B nm cl NW D DA sa base s) (hS : va_S (am_A base) s.heap H locs) (hU : U.heap = H) (hW : s.WarmedH U.vm) : am_K B nm cl NW D DA sa base U :=
  hK.to hW.alike (fun w hw h => am_nw_warm (hT.2.2.2.2.2.2.2.2.2.2.2.2.2.2.2.2.1 w hw) hW h) (fun o i r n d h => word_at (args := #[]) hW (Or.inl rfl) h) (fun a h1 h2 => by rw [hU]; exact hS.2.1 a h1 h2)
/-- the contract that a call of the small machine has -/
def am_Met (l : Launch) (B : am_B) (nm : Nat → String) (my : Nat → MethodName) (cl : List vw_C) (Ts NW : List Cond) (D : va_G) (DA : FieldType → ClassId) (sa : Nat → Nat) (base d mi : Nat) (I : am_I) (as : List Value) (h : am_H) (v : Option Value) (h' : am_H) : Prop :=
  Met l (my mi) (Cond.code (my mi) I.2.1 I.2.2.1 I.2.2.2.1 :: Ts) { frames := d, cells := h'.length - h.length, slots := am_sl h' - am_sl h, locals := 64 * d } (am_Pc B nm cl NW D DA sa base as h) (am_Qc cl D DA sa base v h') (h'.length - h.length) (am_sl h' - am_sl h) (am_A base)
def am_Sim (l : Launch) (B : am_B) (nm : Nat → String) (my : Nat → MethodName) (cl : List vw_C) (Ts NW : List Cond) (D : va_G) (DA : FieldType → ClassId) (sa : Nat → Nat) (base d : Nat) : Prop :=
  ∀ (mi : Nat) (as : List Value) (h : am_H) (Q : Option Value → am_H → Prop), am_T B nm d mi as h Q → am_v1 h → (∀ v ∈ as, v.category = 1) → ∃ (v : Option Value) (h' : am_H) (I : am_I), Q v h' ∧ h.length ≤ h'.length ∧ am_sl h ≤ am_sl h' ∧ am_v1 h' ∧ (∀ w, v = some w → w.category = 1) ∧ B.2.1 mi = some I ∧ am_Met l B nm my cl Ts NW D DA sa base d mi I as h v h'
variable {p : Program} {e : Env} {R : Room} {s : State} {m : MethodId} {args : Array Value} {below : List Frame} {meth : Method} {c : Code} {H : Heap} {locs : List Loc} {cells slots mc ms : Nat} {Qm : State → Prop}
theorem am_callW {pc : Nat} {lsm : Array Slot} {st0 rest : List Value} {v : Option Value} {h' : am_H} {a : Array Value} (hr : va_Run p l e R s m args below meth c H locs cells slots mc ms (F0 m pc lsm st0) rest (am_Qc cl D DA sa base v h' a) (am_A base)) (hS : va_S (am_A base) s.heap H locs)
    (kk : ∀ (H1 : Heap) (locs1 : List Loc), am_Wd D DA sa base cl h' H1 → va_S (am_A base) s.heap H1 locs1 → W p l e R s m args below meth c H1 locs1 (cells + mc) (slots + ms) Qm (F0 m (pc + 3) lsm ((v.map (am_cv sa base)).toList ++ rest))) : W p l e R s m args below meth c H locs cells slots Qm (F0 m pc lsm st0) := by
  intro T hT X
  obtain ⟨v', st₀, t, T', L, h0, X', hL, e1, e2, ⟨hv, hw, hz, hk⟩, st⟩ := hr T hT X
  cases hv
  rw [h0] at hz hk
  obtain ⟨t2, a1, b1⟩ := kk T'.heap (locs ++ L) (by rw [e1]; exact hw)
    ⟨Nat.le_trans hS.1 (by rw [e1]; exact hz), fun q h1 h2 => by rw [e1, hk q (Nat.lt_of_lt_of_le h1 hS.1) h2]; exact hS.2.1 q h1 h2, fun q hq => by
      rcases List.mem_append.mp hq with h | h
      · exact hS.2.2 q h
      · exact hL q h⟩ T' rfl X'
  exact ⟨t2, st t2 a1, b1⟩
variable {I : am_I} {h0 : am_H} {d : Nat} {Q : Option Value → am_H → Prop} {Z : Option Value → am_H → State → Array Value → List Frame → State → Prop} {pc : Nat} {ls : List (Option Value)} {rest : List Value} {h : am_H}
/-- the words of a callee are among the caller's -/
theorem am_good {w0 : Cond} (hT : am_Tab B nm my cl Ts NW) (h0 : w0 ∈ Ts) : GoodIn Ts (w0 :: Ts) := by
  intro w hw
  rcases List.mem_cons.mp hw with rfl | hw
  · exact ⟨h0, hT.2.2.2.2.2.2.2.2.2.2.2.2.1 _ h0⟩
  · exact ⟨hw, hT.2.2.2.2.2.2.2.2.2.2.2.2.1 _ hw⟩
theorem am_cats {st : List Value} {v : Option Value} (h1 : ∀ w, v = some w → w.category = 1) (h2 : ∀ w ∈ st, w.category = 1) : ∀ w ∈ v.toList ++ st, w.category = 1 := by
  intro w hw
  rcases List.mem_append.mp hw with h | h
  · exact h1 w (Option.mem_toList.mp h)
  · exact h2 w h
/-- a call, out of the callee's contract and the way the instruction finds it -/
theorem am_gocall {mi : Nat} {as st : List Value} (hS : am_Sim l B nm my cl Ts NW D DA sa base d) (hst : (∀ v ∈ st, v.category = 1) → (∀ v ∈ as, v.category = 1) ∧ ∀ v ∈ rest, v.category = 1) (ht : am_T B nm d mi as h (fun v h' => am_P l B nm cl Ts NW D DA sa base I h0 (d + 1) Q Z (pc + 3, ls, v.toList ++ rest, h')))
    (hrun : ∀ (v : Option Value) (h' : am_H) (J : am_I), h.length ≤ h'.length → am_sl h ≤ am_sl h' → B.2.1 mi = some J → am_Met l B nm my cl Ts NW D DA sa base d mi J as h v h' → ∀ (p : Program) (e : Env) (R : Room) (s : State) (m : MethodId) (args : Array Value) (below : List Frame) (meth : Method) (c : Code) (H : Heap) (locs : List Loc) (lsm : Array Slot) (cells slots : Nat), (∀ v ∈ st, v.category = 1) → ls.length = I.2.2.1 → am_Ctx B nm cl Ts NW D DA sa base I p s m args meth c → d + 1 ≤ R.frames → 64 * (d + 1) ≤ R.locals → cells + (h'.length - h.length) ≤ R.cells → slots + (am_sl h' - am_sl h) ≤ R.slots → am_Rel cl D DA sa base h0 (pc, ls, st, h) s H locs lsm cells slots →
      ∃ a : Array Value, va_Run p l e R s m args below meth c H locs cells slots (h'.length - h.length) (am_sl h' - am_sl h) (F0 m pc lsm (st.map (am_cv sa base))) (rest.map (am_cv sa base)) (am_Qc cl D DA sa base v h' a) (am_A base)) :
    am_P l B nm cl Ts NW D DA sa base I h0 (d + 1) Q Z (pc, ls, st, h) := by
  intro hF
  obtain ⟨q1, q2⟩ := hst hF.1
  obtain ⟨v, h1, J, hP, g1, g2, g3, g4, g5, g6⟩ := hS mi as h _ ht hF.2.2.1 q1
  obtain ⟨v', h', hQ, k1, k2, k3, k4, k5⟩ := hP ⟨am_cats g4 q2, hF.2.1, g3, hF.2.2.2⟩
  refine ⟨v', h', hQ, Nat.le_trans g1 k1, Nat.le_trans g2 k2, k3, k4, ?_⟩
  intro p e R s m args below meth c hC hf hlo hc hsl H locs lsm cells slots hR
  have e1 : h0.length + cells = h.length := hR.2.2.2.1
  have e2 : am_sl h0 + slots = am_sl h := hR.2.2.2.2
  have k1' : h1.length ≤ h'.length := k1
  have k2' : am_sl h1 ≤ am_sl h' := k2
  obtain ⟨a, hr⟩ := hrun v h1 J g1 g2 g5 g6 p e R s m args below meth c H locs lsm cells slots hF.1 hF.2.2.2 hC hf hlo (by omega) (by omega) hR
  refine am_callW hr hR.2.2.1 (fun H1 locs1 w1 s1 => ?_)
  have := k5 p e R s m args below meth c hC hf hlo hc hsl H1 locs1 lsm (cells + (h1.length - h.length)) (slots + (am_sl h1 - am_sl h)) ⟨hR.1, w1, s1, by show _ = h1.length; omega, by show _ = am_sl h1; omega⟩
  refine W.eq ?_ this
  show F0 m (pc + 3) lsm _ = F0 m (pc + 3) lsm ((v.toList ++ rest).map (am_cv sa base))
  rw [List.map_append]
  congr 2
  cases v <;> rfl
end AMC
