/-! the small machine's calls are calls of the JVM -/
section AMZ2
variable {l : Launch} {B : am_B} {nm : Nat → String} {my : Nat → MethodName} {cl : List vw_C} {Ts NW : List Cond} {D : va_G} {DA : FieldType → ClassId} {sa : Nat → Nat} {base : Nat}
variable {I : am_I} {h0 : am_H} {d : Nat} {Q : Option Value → am_H → Prop}
def am_Z (cl : List vw_C) (D : va_G) (DA : FieldType → ClassId) (sa : Nat → Nat) (base : Nat) (h0 : am_H) (v : Option Value) (h' : am_H) (s : State) (args : Array Value) (below : List Frame) : State → Prop := MQ below (am_Qc cl D DA sa base v h') args s (h'.length - h0.length) (am_sl h' - am_sl h0) (am_A base)
theorem am_re_sim {pc len : Nat} {ls : List (Option Value)} {st : List Value} {h : am_H} {i : Instr} (hd : decode I.2.1 pc = .ok (i, len)) (hl : am_len i len = true) (hx : am_re Q I st h i) : am_P l B nm cl Ts NW D DA sa base I h0 d Q (am_Z cl D DA sa base h0) (pc, ls, st, h) := by
  obtain ⟨v, rfl, hans, hQ, hk⟩ := hx
  intro hF
  refine ⟨v, h, hQ, Nat.le_refl _, Nat.le_refl _, hF.2.2.1, fun w hw => hF.1 w (by rw [hw]; exact List.mem_cons_self), ?_⟩
  intro p e R s m args below meth c hC hf hlo hc hsl H locs lsm cells slots hR
  have e1 : cells = h.length - h0.length := by have := hR.2.2.2.1; simp only at this; omega
  have e2 : slots = am_sl h - am_sl h0 := by have := hR.2.2.2.2; simp only at this; omega
  have hlocks : meth.locks = false := hC.2.2.2.2.2.2.1
  have hret := hC.2.2.2.2.2.2.2.1
  subst e1 e2
  have hq : ∀ t : State, t.heap = H → s.WarmedH t.vm → am_Qc cl D DA sa base v h args s (.returned (v.map (am_cv sa base))) t := fun t ht _ => ⟨rfl, by rw [ht]; exact hR.2.1, hR.2.2.1.F ht⟩
  rcases hk with ⟨rfl, rfl⟩ | ⟨rfl, x, rfl⟩ | ⟨rfl, r, rfl, hr⟩
  · obtain rfl : len = 1 := by simpa [am_len] using hl
    refine W.vret hC.1 hC.2.1 ?_ hq hR.2.2.1.2.2 hd
    rw [hret]
    revert hans
    cases I.2.2.2.1 with
    | none => intro _; rfl
    | some ty => intro q; cases ty <;> cases q
  · obtain rfl : len = 1 := by simpa [am_len] using hl
    revert hans hret
    cases hI : I.2.2.2.1 with
    | none => intro _ q; cases q
    | some ty =>
      cases ty with
      | int => intro hret _; exact W.iret hC.1 hC.2.1 hret hq hR.2.2.1.2.2 hd
      | boolean =>
        intro hret q
        refine W.zret hC.1 hC.2.1 hret ?_ hq hR.2.2.1.2.2 hd
        simp only [am_ans, Bool.or_eq_true, beq_iff_eq] at q
        rcases q with rfl | rfl <;> rfl
      | _ => intro _ q; cases q
  · obtain rfl : len = 1 := by simpa [am_len] using hl
    have hv : am_cv sa base r = .null ∨ ∃ a, am_cv sa base r = .ref a := by
      rcases hr with rfl | ⟨a, rfl⟩ | ⟨j, rfl⟩
      · exact Or.inl rfl
      · exact Or.inr ⟨_, rfl⟩
      · exact Or.inr ⟨_, rfl⟩
    revert hans hret
    cases hI : I.2.2.2.1 with
    | none => intro _ q; cases q
    | some ty =>
      cases ty with
      | object n => intro hret _; exact W.aret hC.1 hC.2.1 hret (Or.inl ⟨_, rfl⟩) hv hq hR.2.2.1.2.2 hd
      | array n => intro hret _; exact W.aret hC.1 hC.2.1 hret (Or.inr ⟨_, rfl⟩) hv hq hR.2.2.1.2.2 hd
      | _ => intro _ q; rcases hr with rfl | ⟨a, rfl⟩ | ⟨j, rfl⟩ <;> cases q
/-- the locals at a method's entry -/
theorem am_Rl_entry {as : List Value} {n : Nat} (h1 : ∀ v ∈ as, v.category = 1) (hn : as.length ≤ n) : am_Rl sa base (as.map some ++ List.replicate (n - as.length) none) ((as.map (am_cv sa base)).map Slot.val ++ List.replicate (n - (as.map (am_cv sa base)).length) Slot.unset).toArray := by
  refine ⟨by simp, ⟨fun i v hv hc => ?_, fun i hi => ?_⟩, fun i v hv => ?_⟩
  · have hm : Slot.val v ∈ (as.map (am_cv sa base)).map Slot.val ++ List.replicate (n - (as.map (am_cv sa base)).length) Slot.unset := List.mem_of_getElem? (by simpa using hv)
    rcases List.mem_append.mp hm with h | h
    · obtain ⟨w, hw, e⟩ := List.mem_map.mp h
      cases e
      obtain ⟨u, hu, rfl⟩ := List.mem_map.mp hw
      rw [am_cv_cat, h1 u hu] at hc
      cases hc
    · have := List.eq_of_mem_replicate h
      cases this
  · have hm : Slot.second ∈ (as.map (am_cv sa base)).map Slot.val ++ List.replicate (n - (as.map (am_cv sa base)).length) Slot.unset := List.mem_of_getElem? (by simpa using hi)
    rcases List.mem_append.mp hm with h | h
    · obtain ⟨w, hw, e⟩ := List.mem_map.mp h
      cases e
    · have := List.eq_of_mem_replicate h
      cases this
  · by_cases hi : i < as.length
    · rw [List.getElem?_append_left (by simpa using hi), List.getElem?_map] at hv
      cases ha : as[i]? with
      | none => rw [ha] at hv; cases hv
      | some w =>
        rw [ha] at hv
        cases hv
        refine ⟨?_, h1 _ (List.mem_of_getElem? ha)⟩
        rw [List.getElem?_toArray, List.getElem?_append_left (by simpa using hi), List.getElem?_map, List.getElem?_map, ha]
        rfl
    · rw [List.getElem?_append_right (by simpa using hi)] at hv
      have := List.eq_of_mem_replicate (List.mem_of_getElem? hv)
      cases this
theorem am_sim (hT : am_Tab B nm my cl Ts NW) (hB : ∀ i ty vs, B.2.2.2 i = some (ty, vs) → ∀ v ∈ vs, v.category = 1) : ∀ d, am_Sim l B nm my cl Ts NW D DA sa base d := by
  intro d
  induction d with
  | zero => intro mi as h Q ht; exact ht.elim
  | succ d ih =>
    intro mi as h Q ht hv1 has
    obtain ⟨I, hI, hlen, hwp⟩ := ht
    obtain ⟨m1, m2, m3, m4, m5, m6, m7⟩ := hT.2.1 mi I hI
    have hP := hwp (am_P l B nm cl Ts NW D DA sa base I h (d + 1) Q (am_Z cl D DA sa base h)) (fun F hF => by
      obtain ⟨i, len, h1, h2, h3⟩ := hF
      rcases h3 with h3 | h3
      · exact am_nx_sim hT hB ih h1 h2 h3
      · exact am_re_sim h1 h2 h3)
    have hwf : am_wfF I (0, as.map some ++ List.replicate (I.2.2.1 - as.length) none, [], h) := by
      refine ⟨fun v hv => (List.not_mem_nil hv).elim, fun v hv => ?_, hv1, ?_⟩
      · rcases List.mem_append.mp hv with hv | hv
        · obtain ⟨w, hw, e⟩ := List.mem_map.mp hv
          cases e
          exact has _ hw
        · have := List.eq_of_mem_replicate hv
          cases this
      · show (as.map some ++ List.replicate (I.2.2.1 - as.length) none).length = I.2.2.1
        simp
        omega
    obtain ⟨v, h', hQ, g1, g2, g3, g4, g5⟩ := hP hwf
    refine ⟨v, h', I, hQ, g1, g2, g3, g4, hI, ?_⟩
    refine Met.ofW (cc := I.2.1) (maxL := I.2.2.1) (ret := I.2.2.2.1) m3 rfl ?_
    intro p e s m args below meth c s₁ Bd hml hv
    obtain ⟨rfl, hw, hK⟩ := hv
    have hts := atoms_spec (ws := Cond.code (my mi) I.2.1 I.2.2.1 I.2.2.2.1 :: Ts) Bd.pre
    have hfc : s.vm.findClass (nm I.1) = some m.cls := by rw [← m2]; exact findClass_of_methodNamed Bd.named
    have hnme : meth.name = (my mi).name := (name_of_methodNamed Bd.named Bd.method).1
    have hz : s.heap.size = base + h.length := hw.1
    rw [entry_eq m (as.map (am_cv sa base)) (fun v hv => by
      obtain ⟨w, hw, rfl⟩ := List.mem_map.mp hv
      rw [am_cv_cat]; exact has w hw)]
    exact g5 p e _ s m _ below meth c ⟨Bd.exec, Bd.bytes, hml, hfc, fun w hw => hts w (List.mem_cons_of_mem _ hw), hK, Bd.notSynchronized, Bd.returns, fun q => hnme.trans (m5 q), by omega⟩ (Nat.le_refl _) (Nat.le_refl _) (by show _ ≤ h.length + (h'.length - h.length); omega) (by show _ ≤ am_sl h + (am_sl h' - am_sl h); omega)
      s.heap [] _ 0 0 ⟨am_Rl_entry has hlen, hw, va_S.rf, rfl, rfl⟩
end AMZ2
