/-! the law's entry: what the small machine wants to know holds there; the walk of the law out of one am_wp -/
theorem am_nw_at {s : State} {args : Array Value} (hts : ∀ w ∈ lw_tbl, w.before args s = true) : ∀ w ∈ am_nw, va_Nw w s := by
  intro w hw
  have hin : w ∈ lw_tbl := by
    obtain ⟨k, hk⟩ := List.getElem?_of_mem hw
    have h := List.all_eq_true.mp am_w2 k (List.mem_range.mpr (List.getElem?_eq_some_iff.mp hk).1)
    simp only [decide_eq_true_eq] at h
    rw [hk] at h
    exact List.mem_of_getElem? h
  have hb := hts w hin
  rcases am_w3 w hw with ⟨a, i, b, n, d, hh, rfl⟩ | ⟨a, i, x, hh, rfl⟩ | ⟨C, T, rfl⟩ | ⟨C, rfl⟩ | ⟨x, rfl⟩
  · exact va_Nw.of rfl hb
  · exact va_Nw.of rfl hb
  · exact va_Nw.of rfl hb
  · exact va_AO.of hb
  · exact va_Nw.of rfl hb
def am_DA (s : State) (ty : FieldType) : ClassId := (s.vm.findClass ("[" ++ ty.toString)).getD 0
theorem am_arrs {s : State} {args : Array Value} (hts : ∀ w ∈ lw_tbl, w.before args s = true) : ∀ ty, am_tyk ty → ArrOfT s (am_DA s ty) ty ∧ va_RA s (am_DA s ty) ty := by
  intro ty hty
  have hT := am_tab []
  have prim : ∀ t, Cond.arrayClass t ∈ am_ts → (∀ C, t ≠ .object C) → ArrOfT s (am_DA s t) t ∧ va_RA s (am_DA s t) t := by
    intro t ht hno
    obtain ⟨c, k, comp, h1, h2, h3⟩ := Cond.arrayClass_spec (hts _ (List.mem_filter.mp ht).1)
    have e : am_DA s t = c := by unfold am_DA; rw [h1]; rfl
    rw [e]
    refine ⟨fun n z => ⟨fun k h => (by cases h), k, h2, comp, h3⟩, ?_⟩
    cases t with
    | object C => exact absurd rfl (hno C)
    | _ => exact h1
  obtain ⟨w1, w2, w3⟩ := hT.2.2.2.2.2.2.2.2.2.2.2.2.2.1
  rcases hty with rfl | rfl | rfl | ⟨C, hC, rfl⟩
  · exact prim _ w1 (fun C h => by cases h)
  · exact prim _ w2 (fun C h => by cases h)
  · exact prim _ w3 (fun C h => by cases h)
  · obtain ⟨comp, c, k, h1, -, h3, h4, h5⟩ := Cond.arrayOver_spec (am_nw_at hts _ (hT.2.2.2.2.2.2.2.2.2.2.2.2.2.2.2.1 C hC))
    have e : am_DA s (.object C) = c := by unfold am_DA; rw [h5]; rfl
    rw [e]
    exact ⟨fun n z => ⟨fun k h => (by cases h), k, h3, comp, h4⟩, k, comp, h3, h4, h1, h5⟩
theorem am_known {s : State} {args : Array Value} (hts : ∀ w ∈ lw_tbl, w.before args s = true) : ∃ D : va_G, va_K D am_cl [] s := by
  have hts' : ∀ w ∈ am_ts, w.before args s = true := fun w hw => hts w (List.mem_filter.mp hw).1
  have h : ∀ c : Nat, ∃ q : ClassId × (Nat → Nat), ∀ r : vw_C, am_cl[c]? = some r → u_Kn s r.1 r.2.1 r.2.2 q.1 q.2 := by
    intro c
    cases hr : am_cl[c]? with
    | none => exact ⟨(0, fun _ => 0), fun r h => by cases h⟩
    | some r =>
      obtain ⟨-, h2, h3, -⟩ := am_tabC [] c r hr
      obtain ⟨cC, iS, hk⟩ := u_known hts' h2 (hts' _ h3)
      exact ⟨(cC, iS), fun r' h => by cases h; exact hk⟩
  obtain ⟨f, hf⟩ := Classical.skolem.mp h
  exact ⟨(fun c => (f c).1, fun c => (f c).2), fun c r hr => hf c r hr, fun k q h => by simp at h⟩
theorem am_law_K {p : Program} {s : State} {m : MethodId} {meth : Method} {c : Code} {b L : Nat} {xs : Nat → Int32} (hL : L ≤ 3072) (C0 : lw_At p s m meth c b L xs) : ∃ (D : va_G) (sa : Nat → Nat), sa 0 = b ∧ am_K (am_Bx ((List.range L).map xs)) am_nm am_cl am_nw D (am_DA s) sa s.heap.size s := by
  obtain ⟨hx, hb, hr, hml, hown, hts, hX, hbl, hlocks, hgv⟩ := C0
  obtain ⟨D, hK⟩ := am_known hts
  have hflat := flat_of_before _ hgv
  have hA : ∀ a : Nat, a < s.heap.size → ¬ am_A s.heap.size a := fun a h q => Nat.lt_irrefl _ (Nat.lt_of_lt_of_le h q)
  have tab : ∀ (C n d : String) (ty : FieldType), (Cond.arrayOf (.static C n d) ty).before #[Value.ref b] s = true → (Cond.eq (.length (.static C n d)) (.int 0)).before #[Value.ref b] s = true → ∃ t : Nat, (Term.static C n d).eval #[Value.ref b] s none [] s = some (.ref t) ∧ t < s.heap.size ∧ va_T ty t 0 (fun _ => .null) (am_A s.heap.size) s s.heap := by
    intro C n d ty h1 h2
    obtain ⟨t, ht, hT⟩ := va_Tof (N := 0) (f := fun _ => .null) (A := am_A s.heap.size) (by decide) h1 (va_eqt h2) (fun j hj => absurd hj (Nat.not_lt_zero _)) hA
    obtain ⟨cell, hc, -⟩ := id hT
    exact ⟨t, ht, (Array.getElem?_eq_some_iff.mp hc).1, hT⟩
  obtain ⟨t1, g1, l1, T1⟩ := tab "LineFlow" "NO_BYTES" "[B" .byte (hflat _ (by decide +kernel)) (hflat _ (by decide +kernel))
  obtain ⟨t2, g2, l2, T2⟩ := tab "java/util/ArrayList" "DEFAULTCAPACITY_EMPTY_ELEMENTDATA" "[Ljava/lang/Object;" (.object "java/lang/Object") (hflat _ (by decide +kernel)) (hflat _ (by decide +kernel))
  obtain ⟨mi, hmi⟩ := va_Mi.of (C := "[Ljava/lang/Object;") (hflat (.isRef (.mirror "[Ljava/lang/Object;")) (by decide +kernel))
  have z1 : va_Z "LineFlow" "NO_BYTES" "[B" (.ref t1) (am_A s.heap.size) s s.heap := va_Zref (hts _ (by decide +kernel)) (hts _ (by decide +kernel)) g1 hA
  have z2 : va_Z "java/util/ArrayList" "DEFAULTCAPACITY_EMPTY_ELEMENTDATA" "[Ljava/lang/Object;" (.ref t2) (am_A s.heap.size) s s.heap := va_Zref (hts _ (by decide +kernel)) (hts _ (by decide +kernel)) g2 hA
  refine ⟨D, (fun j => if j = 0 then b else if j = 1 then t1 else if j = 2 then t2 else mi), rfl, hK, am_nw_at hts, am_arrs hts, ?_, ?_, hmi⟩
  · intro j ty vs hj
    match j, hj with
    | 0, hj =>
      cases hj
      obtain ⟨scr, h1, h2, h3, h4, h5⟩ := hX
      refine ⟨hbl, scr, h1, h2, h3, by simp [h4], by simp [h4], fun i hi => ?_, hA _ hbl⟩
      have hi' : i < L := by simpa using hi
      show scr.slots[i]? = _
      rw [h5 i hi']
      simp [hi', am_cv]
    | 1, hj => cases hj; exact ⟨l1, by obtain ⟨cell, q1, q2, q3, q4, q5, q6, q7⟩ := T1; exact ⟨cell, q1, q2, q3, q4, q5, fun i hi => absurd hi (Nat.not_lt_zero _), q7⟩⟩
    | 2, hj => cases hj; exact ⟨l2, by obtain ⟨cell, q1, q2, q3, q4, q5, q6, q7⟩ := T2; exact ⟨cell, q1, q2, q3, q4, q5, fun i hi => absurd hi (Nat.not_lt_zero _), q7⟩⟩
    | j + 3, hj => cases hj
  · intro o idx j y hb
    obtain ⟨hh, h⟩ := am_pool_ok (e := (3, j, y)) hb (by simp)
    simp only [am_chk, Bool.or_eq_true, Bool.and_eq_true, beq_iff_eq] at h
    rcases h with ⟨⟨rfl, rfl⟩, rfl⟩ | ⟨⟨rfl, rfl⟩, rfl⟩
    · exact ⟨_, _, _, _, z1, rfl, Or.inr ⟨"LineFlow", by decide +kernel⟩⟩
    · exact ⟨_, _, _, _, z2, rfl, Or.inl (va_Nw.of rfl (hts (.fieldLink "java/util/ArrayList" 39 "java/util/ArrayList" "DEFAULTCAPACITY_EMPTY_ELEMENTDATA" "[Ljava/lang/Object;") (by decide +kernel)))⟩
/-- THE WALK OF THE LAW OUT OF THE SMALL MACHINE's -/
theorem am_whole {p : Program} {e : Env} {s : State} {m : MethodId} {below : List Frame} {meth : Method} {c : Code} (l : Launch) {b L : Nat} {xs : Nat → Int32} (hL : L ≤ 3072) (C0 : lw_At p s m meth c b L xs) {d : Nat} (hd : d + 1 ≤ 1300)
    (hw : am_wp (am_Bx ((List.range L).map xs)) am_nm (am_T (am_Bx ((List.range L).map xs)) am_nm d) am_Ql am_Il (0, [some (.retAddr 0), none, none, none], [], [])) :
    W p l e room_1 s m #[Value.ref b] below meth c s.heap [] 0 0 (lw_Z below #[Value.ref b] s) (entryFrame m ([Value.ref b] : List Value).toArray 4) := by
  obtain ⟨D, sa, hsa, hK⟩ := am_law_K hL C0
  obtain ⟨hx, hb, hr, hml, hown, hts, hX, hbl, hlocks, hgv⟩ := C0
  have hT := am_tab ((List.range L).map xs)
  have hB : ∀ i ty vs, (am_Bx ((List.range L).map xs)).2.2.2 i = some (ty, vs) → ∀ v ∈ vs, v.category = 1 := by
    intro i ty vs hi v hv
    match i, hi with
    | 0, hi =>
      cases hi
      obtain ⟨x, -, rfl⟩ := List.mem_map.mp hv
      rfl
    | 1, hi => cases hi; cases hv
    | 2, hi => cases hi; cases hv
    | i + 3, hi => cases hi
  have hP := hw (am_P l (am_Bx ((List.range L).map xs)) am_nm am_cl am_ts am_nw D (am_DA s) sa s.heap.size am_Il [] (d + 1) am_Ql (am_Zl s.heap.size b)) (fun F hF => by
    obtain ⟨i, len, h1, h2, h3⟩ := hF
    rcases h3 with h3 | h3
    · exact am_nx_sim hT hB (am_sim hT hB d) h1 h2 h3
    · exact am_re_law h1 h2 h3)
  have hwf : am_wfF am_Il (0, [some (.retAddr 0), none, none, none], [], []) := by
    refine ⟨fun v hv => (List.not_mem_nil hv).elim, fun v hv => ?_, fun x hx => (List.not_mem_nil hx).elim, rfl⟩
    simp at hv
    rw [hv]
    rfl
  obtain ⟨v, h', ⟨q1, q2, q3⟩, -, -, -, -, hW⟩ := hP hwf
  rw [entry_eq m [Value.ref b] (fun v hv => by rw [List.mem_singleton.mp hv]; rfl)]
  have hRl := am_Rl_entry (sa := sa) (base := s.heap.size) (as := [.retAddr 0]) (n := 4) (fun v hv => by rw [List.mem_singleton.mp hv]; rfl) (by decide)
  have hcv : am_cv sa s.heap.size (.retAddr 0) = .ref b := by rw [← hsa]; rfl
  have := hW p e room_1 s m #[Value.ref b] below meth c ⟨hx, hb, hml, hown, fun w hw => hts w (List.mem_filter.mp hw).1, hK, hlocks, hr, fun h => (Bool.noConfusion h), Nat.le_refl _⟩ (show d + 1 ≤ 2048 by omega) (show 64 * (d + 1) ≤ 84000 by omega) (by show h'.length ≤ 0 + 600000; omega) (by show am_sl h' ≤ am_sl [] + 7302250; omega)
    s.heap [] _ 0 0 ⟨hRl, ⟨rfl, fun i e h => by simp at h⟩, va_S.rf, rfl, rfl⟩
  have this := am_Wmono (Q' := lw_Z below #[Value.ref b] s) (fun t (ht : am_Zl s.heap.size b v h' s #[Value.ref b] below t) => ht rfl rfl) this
  simp only [List.map_cons, List.map_nil, hcv] at this
  exact this
