/-- the addresses that the small machine's cells have -/
def am_A (base : Nat) : Nat → Prop := fun q => base ≤ q
/-- what is known of the tables and of the constants at a method's start -/
def am_K (B : am_B) (nm : Nat → String) (cl : List vw_C) (NW : List Cond) (D : va_G) (DA : FieldType → ClassId) (sa : Nat → Nat) (base : Nat) (U : State) : Prop :=
  va_K D cl [] U ∧ (∀ w ∈ NW, va_Nw w U) ∧ (∀ ty, am_tyk ty → ArrOfT U (DA ty) ty ∧ va_RA U (DA ty) ty) ∧
  (∀ j ty vs, B.2.2.2 j = some (ty, vs) → sa j < base ∧ va_T ty (sa j) vs.length (fun i => am_cv sa base (vs.getD i .null)) (am_A base) U U.heap) ∧
  (∀ o idx j y, B.1 o idx = (3, j, y) → ∃ C n d ref, va_Z C n d (.ref (sa j)) (am_A base) U U.heap ∧ (ref = C) ∧ (va_Nw (.fieldLink (nm o) idx ref n d) U ∨ ∃ host, Cond.fieldLinkNest (nm o) idx ref n d host ∈ NW)) ∧ va_Mi "[Ljava/lang/Object;" (sa 3) U
def am_wfF (I : am_I) (F : am_F) : Prop := (∀ v ∈ F.2.2.1, v.category = 1) ∧ (∀ v, some v ∈ F.2.1 → v.category = 1) ∧ am_v1 F.2.2.2 ∧ F.2.1.length = I.2.2.1
section AMS
variable (l : Launch) (B : am_B) (nm : Nat → String) (my : Nat → MethodName) (cl : List vw_C) (Ts NW : List Cond) (D : va_G) (DA : FieldType → ClassId) (sa : Nat → Nat) (base : Nat)
def am_Ctx (I : am_I) (p : Program) (s : State) (m : MethodId) (args : Array Value) (meth : Method) (c : Code) : Prop :=
  p.tables.exec = Jvm.exec ∧ c.code = I.2.1 ∧ c.maxLocals = I.2.2.1 ∧ s.vm.findClass (nm I.1) = some m.cls ∧ (∀ w ∈ Ts, w.before args s = true) ∧ am_K B nm cl NW D DA sa base s ∧ meth.locks = false ∧ meth.sig.returnType = I.2.2.2.1 ∧ (I.2.2.2.2 = true → meth.name = "<init>") ∧ base ≤ s.heap.size
def am_Rel (h0 : am_H) (F : am_F) (s : State) (H : Heap) (locs : List Loc) (lsm : Array Slot) (cells slots : Nat) : Prop :=
  am_Rl sa base F.2.1 lsm ∧ am_Wd D DA sa base cl F.2.2.2 H ∧ va_S (am_A base) s.heap H locs ∧ h0.length + cells = F.2.2.2.length ∧ am_sl h0 + slots = am_sl F.2.2.2
def am_P (I : am_I) (h0 : am_H) (d : Nat) (Q : Option Value → am_H → Prop) (Z : Option Value → am_H → State → Array Value → List Frame → State → Prop) (F : am_F) : Prop :=
  am_wfF I F → ∃ v h', Q v h' ∧ F.2.2.2.length ≤ h'.length ∧ am_sl F.2.2.2 ≤ am_sl h' ∧ am_v1 h' ∧ (∀ w, v = some w → w.category = 1) ∧
    ∀ (p : Program) (e : Env) (R : Room) (s : State) (m : MethodId) (args : Array Value) (below : List Frame) (meth : Method) (c : Code), am_Ctx B nm cl Ts NW D DA sa base I p s m args meth c → d ≤ R.frames → 64 * d ≤ R.locals → h'.length ≤ h0.length + R.cells → am_sl h' ≤ am_sl h0 + R.slots →
      ∀ (H : Heap) (locs : List Loc) (lsm : Array Slot) (cells slots : Nat), am_Rel cl D DA sa base h0 F s H locs lsm cells slots → W p l e R s m args below meth c H locs cells slots (Z v h' s args below) (F0 m F.1 lsm (F.2.2.1.map (am_cv sa base)))
variable {l B nm my cl Ts NW D DA sa base}
theorem am_go {I : am_I} {h0 : am_H} {d : Nat} {Q : Option Value → am_H → Prop} {Z : Option Value → am_H → State → Array Value → List Frame → State → Prop} {F F' : am_F} (hw : am_wfF I F → am_wfF I F') (hl : F.2.2.2.length ≤ F'.2.2.2.length) (hs : am_sl F.2.2.2 ≤ am_sl F'.2.2.2)
    (hstep : am_wfF I F → ∀ (p : Program) (e : Env) (R : Room) (s : State) (m : MethodId) (args : Array Value) (below : List Frame) (meth : Method) (c : Code) (Qm : State → Prop), am_Ctx B nm cl Ts NW D DA sa base I p s m args meth c → d ≤ R.frames → 64 * d ≤ R.locals → F'.2.2.2.length ≤ h0.length + R.cells → am_sl F'.2.2.2 ≤ am_sl h0 + R.slots →
      (∀ (H : Heap) (locs : List Loc) (lsm : Array Slot) (cells slots : Nat), am_Rel cl D DA sa base h0 F' s H locs lsm cells slots → W p l e R s m args below meth c H locs cells slots Qm (F0 m F'.1 lsm (F'.2.2.1.map (am_cv sa base)))) →
      ∀ (H : Heap) (locs : List Loc) (lsm : Array Slot) (cells slots : Nat), am_Rel cl D DA sa base h0 F s H locs lsm cells slots → W p l e R s m args below meth c H locs cells slots Qm (F0 m F.1 lsm (F.2.2.1.map (am_cv sa base))))
    (hP : am_P l B nm cl Ts NW D DA sa base I h0 d Q Z F') : am_P l B nm cl Ts NW D DA sa base I h0 d Q Z F := by
  intro hF
  obtain ⟨v, h', hQ, h1, h2, h3, h4, h5⟩ := hP (hw hF)
  refine ⟨v, h', hQ, Nat.le_trans hl h1, Nat.le_trans hs h2, h3, h4, ?_⟩
  intro p e R s m args below meth c hC hf hlo hc hsl
  exact hstep hF p e R s m args below meth c _ hC hf hlo (Nat.le_trans h1 hc) (Nat.le_trans h2 hsl) (h5 p e R s m args below meth c hC hf hlo hc hsl)
/-- an instruction that moves operands alone -/
theorem am_gost {I : am_I} {h0 : am_H} {d : Nat} {Q : Option Value → am_H → Prop} {Z : Option Value → am_H → State → Array Value → List Frame → State → Prop} {pc pc' : Nat} {ls : List (Option Value)} {st st' : List Value} {h : am_H} (hst : (∀ v ∈ st, v.category = 1) → ∀ v ∈ st', v.category = 1)
    (hstep : ∀ (p : Program) (e : Env) (R : Room) (s : State) (m : MethodId) (args : Array Value) (below : List Frame) (meth : Method) (c : Code) (Qm : State → Prop) (H : Heap) (locs : List Loc) (lsm : Array Slot) (cells slots : Nat), am_Ctx B nm cl Ts NW D DA sa base I p s m args meth c → (∀ v ∈ st, v.category = 1) → am_Rel cl D DA sa base h0 (pc, ls, st, h) s H locs lsm cells slots →
      W p l e R s m args below meth c H locs cells slots Qm (F0 m pc' lsm (st'.map (am_cv sa base))) → W p l e R s m args below meth c H locs cells slots Qm (F0 m pc lsm (st.map (am_cv sa base))))
    (hP : am_P l B nm cl Ts NW D DA sa base I h0 d Q Z (pc', ls, st', h)) : am_P l B nm cl Ts NW D DA sa base I h0 d Q Z (pc, ls, st, h) :=
  am_go (F' := (pc', ls, st', h)) (fun ⟨a, b, c, e⟩ => ⟨hst a, b, c, e⟩) (Nat.le_refl _) (Nat.le_refl _)
    (fun hF p e R s m args below meth c Qm hC _ _ _ _ k H locs lsm cells slots hR => hstep p e R s m args below meth c Qm H locs lsm cells slots hC hF.1 hR (k H locs lsm cells slots hR)) hP
/-- a store into a place -/
theorem am_golv {I : am_I} {h0 : am_H} {d : Nat} {Q : Option Value → am_H → Prop} {Z : Option Value → am_H → State → Array Value → List Frame → State → Prop} {pc pc' k : Nat} {ls : List (Option Value)} {st st' : List Value} {h : am_H} {v : Value} (hst : (∀ v ∈ st, v.category = 1) → (∀ v ∈ st', v.category = 1)) (hv : (∀ v ∈ st, v.category = 1) → v.category = 1) (hk : k < ls.length)
    (hstep : ∀ (p : Program) (e : Env) (R : Room) (s : State) (m : MethodId) (args : Array Value) (below : List Frame) (meth : Method) (c : Code) (Qm : State → Prop) (H : Heap) (locs : List Loc) (lsm : Array Slot) (cells slots : Nat), am_Ctx B nm cl Ts NW D DA sa base I p s m args meth c → am_Rl sa base ls lsm → 
      (∀ lsm' : Array Slot, lv_has lsm' ls.length ((k, am_cv sa base v) :: (am_lv sa base ls).filter (fun q => !(q.1 == k) && !(q.1 + 1 == k && q.2.category == 2))) → W p l e R s m args below meth c H locs cells slots Qm (F0 m pc' lsm' (st'.map (am_cv sa base)))) → W p l e R s m args below meth c H locs cells slots Qm (F0 m pc lsm (st.map (am_cv sa base))))
    (hP : am_P l B nm cl Ts NW D DA sa base I h0 d Q Z (pc', ls.set k (some v), st', h)) : am_P l B nm cl Ts NW D DA sa base I h0 d Q Z (pc, ls, st, h) :=
  am_go (F' := (pc', ls.set k (some v), st', h)) (fun ⟨a, b, c, e⟩ => ⟨hst a, fun w hw => by
      rcases List.mem_or_eq_of_mem_set hw with h2 | h2
      · exact b w h2
      · cases h2; exact hv a, c, by
      show (ls.set k (some v)).length = _
      rw [List.length_set]; exact e⟩) (Nat.le_refl _) (Nat.le_refl _)
    (fun hF p e R s m args below meth c Qm hC _ _ _ _ kk H locs lsm cells slots hR => hstep p e R s m args below meth c Qm H locs lsm cells slots hC hR.1 (fun lsm' h' => kk H locs lsm' cells slots ⟨hR.1.store (hv hF.1) hk h', hR.2⟩)) hP
end AMS
