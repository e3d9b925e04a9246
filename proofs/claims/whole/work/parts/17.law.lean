/-! THE CLAIM OUT OF ONE WALK OF THE LAW'S BODY. Your part is whole_start (and what it stands on); all else here is the same for every law, but numbers. -/
def R_law : String := "LineFlowLaw"
def lw_P (b : Addr) (xs : List Int32) (args : Array Value) (s : State) : Prop := args = #[.ref b] ∧ s.IntsAt b xs ∧ xs.length ≤ 3072 ∧ (Jvm.Cond.and given_1 narrow_1).before args s = true
def lw_Q (_ : Array Value) (s : State) (o : Outcome) (t : State) : Prop := o = .returned (some (.int 1)) ∧ Framed s o t [] 600000 7302250
def lw_Z (below : List Frame) (a : Array Value) (s : State) : State → Prop := fun t => ∃ o, t.status = .running ∧ Ended t below o ∧ lw_Q a s o t
/-- the law's own end, with 1 on the stack, nothing written that was there before, its room as the claim has it -/
theorem lw_ret {p : Program} {l : Launch} {e : Env} {s : State} {m : MethodId} {below : List Frame} {meth : Method} {c : Code} {b : Nat} (hx : p.tables.exec = Jvm.exec) (hb : c.code = code) (hr : meth.sig.returnType = ret) (hlocks : meth.locks = false) {pc : Nat} {H : Heap} {ls : Array Slot} (hdg : decode code pc = .ok (.ireturn, 1)) : W p l e room_1 s m #[Value.ref b] below meth c H [] 600000 7302250 (lw_Z below #[Value.ref b] s) (F0 m pc ls [.int 1]) := by
  intro T hT X
  obtain ⟨fs, hret, hrun, hended, hW, hframe⟩ := X.leave (v := some (.int 1)) (hlocks := hlocks) (fun h => by rw [hr] at h; cases h)
  have hmeth' : T.vm.method? m = some meth := X.method'
  refine ⟨T.setFrames fs, ?_, .returned (some (.int 1)), hrun, hended, rfl, ⟨_, rfl⟩, hW, hframe⟩
  jvm_step X.here [X.here.top, hx, hb, hdg, hmeth', hr, ret, narrow_b1]
  (try refine ⟨rfl, ?_⟩); (try refine ⟨rfl, ?_⟩)
  first | (intro acts; rw [hret _ acts rfl rfl rfl]) | rw [hret _ _ rfl rfl rfl]
  exact Steps.refl _
/-- what holds at the law's entry: the machine, the code, the tables' words (any of lw_tbl by 'hts w (by decide +kernel)'), the script of L ints xs at the cell b, what the Statement gives of the start (any of its parts by flat_of_before) -/
def lw_At (p : Program) (s : State) (m : MethodId) (meth : Method) (c : Code) (b L : Nat) (xs : Nat → Int32) : Prop :=
  p.tables.exec = Jvm.exec ∧ c.code = code ∧ meth.sig.returnType = ret ∧ c.maxLocals = 4 ∧ s.vm.findClass R_law = some m.cls ∧ (∀ w ∈ lw_tbl, w.before #[Value.ref b] s = true) ∧ va_X b L xs s s.heap ∧ b < s.heap.size ∧ meth.locks = false ∧ (Jvm.Cond.and given_1 narrow_1).before #[Value.ref b] s = true
/-! the law's body over the small machine gives the walk of the law -/
theorem am_lwret {p : Program} {l : Launch} {e : Env} {R : Room} {s : State} {m : MethodId} {below : List Frame} {meth : Method} {c : Code} {b : Nat} (hx : p.tables.exec = Jvm.exec) (hb : c.code = code) (hr : meth.sig.returnType = ret) (hlocks : meth.locks = false) {pc : Nat} {H : Heap} {ls : Array Slot} (hdg : decode code pc = .ok (.ireturn, 1)) : W p l e R s m #[Value.ref b] below meth c H [] 600000 7302250 (lw_Z below #[Value.ref b] s) (F0 m pc ls [.int 1]) := by
  intro T hT X
  obtain ⟨fs, hret, hrun, hended, hW, hframe⟩ := X.leave (v := some (.int 1)) (hlocks := hlocks) (fun h => by rw [hr] at h; cases h)
  have hmeth' : T.vm.method? m = some meth := X.method'
  refine ⟨T.setFrames fs, ?_, .returned (some (.int 1)), hrun, hended, rfl, ⟨_, rfl⟩, hW, hframe⟩
  jvm_step X.here [X.here.top, hx, hb, hdg, hmeth', hr, ret, narrow_b1]
  (try refine ⟨rfl, ?_⟩); (try refine ⟨rfl, ?_⟩)
  first | (intro acts; rw [hret _ acts rfl rfl rfl]) | rw [hret _ _ rfl rfl rfl]
  exact Steps.refl _
def am_Il : am_I := (12, code, 4, ret, false)
def am_Zl (base b : Nat) (_ : Option Value) (_ : am_H) (s : State) (args : Array Value) (below : List Frame) : State → Prop := fun t => args = #[Value.ref b] → base = s.heap.size → lw_Z below args s t
/-- what the law's run must end with -/
def am_Ql (v : Option Value) (h : am_H) : Prop := v = some (.int 1) ∧ h.length ≤ 600000 ∧ am_sl h ≤ 7302250
theorem am_Wmono {p : Program} {l : Launch} {e : Env} {R : Room} {s : State} {m : MethodId} {args : Array Value} {below : List Frame} {meth : Method} {c : Code} {H : Heap} {locs : List Loc} {cells slots : Nat} {Q Q' : State → Prop} {g : JFrame} (hQ : ∀ t, Q t → Q' t) (w : W p l e R s m args below meth c H locs cells slots Q g) : W p l e R s m args below meth c H locs cells slots Q' g := fun T hT X => by
  obtain ⟨t, a, b⟩ := w T hT X
  exact ⟨t, a, hQ t b⟩
theorem am_re_law {l : Launch} {B : am_B} {cl : List vw_C} {Ts NW : List Cond} {D : va_G} {DA : FieldType → ClassId} {sa : Nat → Nat} {base b d : Nat} {nm : Nat → String} {pc len : Nat} {ls : List (Option Value)} {st : List Value} {h : am_H} {i : Instr} (hd : decode am_Il.2.1 pc = .ok (i, len)) (hl : am_len i len = true) (hx : am_re am_Ql am_Il st h i) : am_P l B nm cl Ts NW D DA sa base am_Il [] d am_Ql (am_Zl base b) (pc, ls, st, h) := by
  obtain ⟨v, rfl, hans, hQ, hk⟩ := hx
  intro hF
  obtain ⟨rfl, hQ1, hQ2⟩ := hQ
  refine ⟨_, h, ⟨rfl, hQ1, hQ2⟩, Nat.le_refl _, Nat.le_refl _, hF.2.2.1, fun w hw => by cases hw; rfl, ?_⟩
  intro p e R s m args below meth c hC hf hlo hc hsl H locs lsm cells slots hR
  have e1 : cells = h.length := by have := hR.2.2.2.1; simp at this; exact this
  have e2 : slots = am_sl h := by have := hR.2.2.2.2; simp [am_sl] at this; exact this
  subst e1 e2
  by_cases hab : args = #[Value.ref b] ∧ base = s.heap.size
  · obtain ⟨ha, hbs⟩ := hab
    subst ha
    rcases hk with ⟨rfl, hv⟩ | ⟨rfl, x, hv⟩ | ⟨rfl, r, hv, hr⟩
    · cases hv
    · obtain rfl : len = 1 := by simpa [am_len] using hl
      refine am_Wmono (fun t ht _ _ => ht) ?_
      refine va_forget (fun q hq => by rw [← hbs]; exact hR.2.2.1.2.2 q hq) ?_
      refine W.widen hQ1 hQ2 ?_
      exact am_lwret hC.1 hC.2.1 hC.2.2.2.2.2.2.2.1 hC.2.2.2.2.2.2.1 hd
    · cases hv
      rcases hr with h | ⟨a, h⟩ | ⟨j, h⟩ <;> cases h
  · intro T hT X
    exact ⟨_, Steps.refl _, fun h1 h2 => absurd ⟨h1, h2⟩ hab⟩
