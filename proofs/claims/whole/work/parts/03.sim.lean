/-! THE SMALL MACHINE's RUNS ARE RUNS OF THE JVM: worlds, places, one instruction. -/
def am_cv (sa : Nat → Nat) (base : Nat) : Value → Value
  | .ref i => .ref (base + i)
  | .retAddr j => .ref (sa j)
  | v => v
theorem am_cv_cat (sa : Nat → Nat) (base : Nat) (v : Value) : (am_cv sa base v).category = v.category := by cases v <;> rfl
def am_sz : am_E → Nat
  | .inl x => x.2.length
  | .inr x => x.2.length
def am_sl (h : am_H) : Nat := (h.map am_sz).sum
def am_e1 : am_E → Prop
  | .inl x => ∀ v ∈ x.2, v.category = 1
  | .inr x => ∀ v ∈ x.2, v.category = 1
def am_v1 (h : am_H) : Prop := ∀ e ∈ h, am_e1 e
def am_cell (D : va_G) (DA : FieldType → ClassId) (sa : Nat → Nat) (base : Nat) (cl : List vw_C) (a : Nat) (e : am_E) (H : Heap) : Prop := match e with
  | .inl x => ∃ r : vw_C, cl[x.1]? = some r ∧ x.2.length = r.2.2 ∧ t_OB a (D.1 x.1) r.2.2 (D.2 x.1) H (fun k => am_cv sa base (x.2.getD k .null))
  | .inr x => H[a]? = some (arrV (DA x.1) x.2.length (fun j => am_cv sa base (x.2.getD j .null)))
def am_Wd (D : va_G) (DA : FieldType → ClassId) (sa : Nat → Nat) (base : Nat) (cl : List vw_C) (h : am_H) (H : Heap) : Prop :=
  H.size = base + h.length ∧ ∀ (i : Nat) (e : am_E), h[i]? = some e → am_cell D DA sa base cl (base + i) e H
theorem am_cell.kept {D : va_G} {DA : FieldType → ClassId} {sa : Nat → Nat} {base : Nat} {cl : List vw_C} {a : Nat} {e : am_E} {H H1 : Heap} (h : am_cell D DA sa base cl a e H) (h1 : H1[a]? = H[a]?) : am_cell D DA sa base cl a e H1 := by
  cases e with
  | inl x =>
    obtain ⟨r, h2, h3, h4⟩ := h
    exact ⟨r, h2, h3, h4.kept h1⟩
  | inr x => exact h1.trans h
theorem am_Wd.set {D : va_G} {DA : FieldType → ClassId} {sa : Nat → Nat} {base : Nat} {cl : List vw_C} {h : am_H} {H H1 : Heap} {a : Nat} {e : am_E} (w : am_Wd D DA sa base cl h H) (z : H1.size = H.size) (oq : ∀ q : Nat, q ≠ base + a → H1[q]? = H[q]?) (he : am_cell D DA sa base cl (base + a) e H1) : am_Wd D DA sa base cl (h.set a e) H1 := by
  refine ⟨by rw [z, w.1, List.length_set], fun i x hx => ?_⟩
  by_cases hia : i = a
  · subst hia
    have hl : i < h.length := by
      have := (List.getElem?_eq_some_iff.mp hx).1
      simpa using this
    rw [List.getElem?_set_self hl] at hx
    cases hx
    exact he
  · rw [List.getElem?_set_ne (Ne.symm hia)] at hx
    exact (w.2 i x hx).kept (oq _ (by omega))
theorem am_Wd.push {D : va_G} {DA : FieldType → ClassId} {sa : Nat → Nat} {base : Nat} {cl : List vw_C} {h : am_H} {H H1 : Heap} {e : am_E} (w : am_Wd D DA sa base cl h H) (z : H1.size = H.size + 1) (oq : ∀ q : Nat, q < H.size → H1[q]? = H[q]?) (he : am_cell D DA sa base cl (base + h.length) e H1) : am_Wd D DA sa base cl (h ++ [e]) H1 := by
  refine ⟨by rw [z, w.1, List.length_append]; simp; omega, fun i x hx => ?_⟩
  by_cases hia : i < h.length
  · rw [List.getElem?_append_left hia] at hx
    exact (w.2 i x hx).kept (oq _ (by rw [w.1]; omega))
  · rw [List.getElem?_append_right (by omega)] at hx
    have hz : i - h.length < 1 := (List.getElem?_eq_some_iff.mp hx).1
    have hi : i = h.length := by omega
    subst hi
    rw [Nat.sub_self] at hx
    cases hx
    exact he
theorem am_sl_push (h : am_H) (e : am_E) : am_sl (h ++ [e]) = am_sl h + am_sz e := by simp [am_sl]
theorem am_sl_set (h : am_H) (a : Nat) (e e0 : am_E) (h0 : h[a]? = some e0) (hz : am_sz e = am_sz e0) : am_sl (h.set a e) = am_sl h := by
  unfold am_sl
  rw [List.map_set]
  congr 1
  have : (h.map am_sz)[a]? = some (am_sz e) := by rw [List.getElem?_map, h0, hz]; rfl
  apply List.ext_getElem?
  intro i
  by_cases hi : a = i
  · subst hi
    rw [List.getElem?_set_self (List.getElem?_eq_some_iff.mp this).1, this]
  · rw [List.getElem?_set_ne hi]
theorem am_v1_set {h : am_H} {a : Nat} {e : am_E} (h1 : am_v1 h) (he : am_e1 e) : am_v1 (h.set a e) := by
  intro x hx
  rcases List.mem_or_eq_of_mem_set hx with h2 | h2
  · exact h1 x h2
  · rw [h2]; exact he
theorem am_v1_push {h : am_H} {e : am_E} (h1 : am_v1 h) (he : am_e1 e) : am_v1 (h ++ [e]) := by
  intro x hx
  rcases List.mem_append.mp hx with h2 | h2
  · exact h1 x h2
  · rw [List.mem_singleton.mp h2]; exact he
/-- the locals -/
def am_Rl (sa : Nat → Nat) (base : Nat) (ls : List (Option Value)) (lsm : Array Slot) : Prop :=
  lsm.size = ls.length ∧ lv_wf lsm ∧ ∀ (i : Nat) (v : Value), ls[i]? = some (some v) → lsm[i]? = some (.val (am_cv sa base v)) ∧ v.category = 1
def am_lv (sa : Nat → Nat) (base : Nat) (ls : List (Option Value)) : List (Nat × Value) := (List.range ls.length).filterMap (fun i => match ls[i]? with
  | some (some v) => some (i, am_cv sa base v)
  | _ => none)
theorem am_lv_mem {sa : Nat → Nat} {base : Nat} {ls : List (Option Value)} {q : Nat × Value} : q ∈ am_lv sa base ls ↔ ∃ v, ls[q.1]? = some (some v) ∧ q.2 = am_cv sa base v := by
  unfold am_lv
  rw [List.mem_filterMap]
  constructor
  · rintro ⟨i, hi, h⟩
    split at h
    · next v hv =>
      cases h
      exact ⟨v, hv, rfl⟩
    · cases h
  · rintro ⟨v, h1, h2⟩
    refine ⟨q.1, List.mem_range.mpr (List.getElem?_eq_some_iff.mp h1).1, ?_⟩
    rw [h1]
    show some (q.1, am_cv sa base v) = some q
    rw [← h2]
theorem am_Rl.has {sa : Nat → Nat} {base : Nat} {ls : List (Option Value)} {lsm : Array Slot} (h : am_Rl sa base ls lsm) : lv_has lsm ls.length (am_lv sa base ls) := by
  refine ⟨h.1, h.2.1, fun q hq => ?_⟩
  obtain ⟨v, h1, h2⟩ := am_lv_mem.mp hq
  rw [h2]
  exact (h.2.2 _ _ h1).1
theorem am_Rl.store {sa : Nat → Nat} {base : Nat} {ls : List (Option Value)} {lsm lsm' : Array Slot} {k : Nat} {v : Value} (h : am_Rl sa base ls lsm) (hv : v.category = 1) (hk : k < ls.length)
    (h' : lv_has lsm' ls.length ((k, am_cv sa base v) :: (am_lv sa base ls).filter (fun q => !(q.1 == k) && !(q.1 + 1 == k && q.2.category == 2)))) : am_Rl sa base (ls.set k (some v)) lsm' := by
  refine ⟨by rw [h'.1, List.length_set], h'.2.1, fun i w hw => ?_⟩
  by_cases hik : i = k
  · subst hik
    rw [List.getElem?_set_self hk] at hw
    cases hw
    exact ⟨h'.2.2 (i, am_cv sa base v) List.mem_cons_self, hv⟩
  · rw [List.getElem?_set_ne (Ne.symm hik)] at hw
    have hc := (h.2.2 i w hw).2
    refine ⟨h'.2.2 (i, am_cv sa base w) (List.mem_cons_of_mem _ (List.mem_filter.mpr ⟨am_lv_mem.mpr ⟨w, hw, rfl⟩, ?_⟩)), hc⟩
    simp [hik, am_cv_cat, hc]
/-- what the tables say of the numbers: object kinds, methods, pool entries -/
def am_TabC (B : am_B) (nm : Nat → String) (cl : List vw_C) (Ts : List Cond) : Prop := ∀ (c : Nat) (r : vw_C), cl[c]? = some r → r.1 = nm c ∧ (∀ w ∈ u_ws r.1 r.2.1 r.2.2, w ∈ Ts) ∧ Cond.instantiable r.1 r.2.2 ∈ Ts ∧ Cond.initialized r.1 ∈ Ts ∧ (∀ a, a < r.2.2 → ∀ b, b < r.2.2 → a ≠ b → (r.2.1 a).2.1 ≠ (r.2.1 b).2.1) ∧
  ∃ ty : Nat → FieldType, (∀ k, k < r.2.2 → parseFieldDescriptor (r.2.1 k).2.2.1 = some (ty k)) ∧ B.2.2.1 c = some ((List.range r.2.2).map (fun k => (ty k, (r.2.1 k).2.2.2)))
def am_fieldAt (nm : Nat → String) (cl : List vw_C) (Ts NW : List Cond) (o idx t c k : Nat) : Prop := ∃ r : vw_C, cl[c]? = some r ∧ k < r.2.2 ∧ ((r.2.1 k).2.2.2 = true → (r.2.1 k).1 = nm c) ∧ ((t = 1 ∧ ∃ ref, Cond.fieldLink (nm o) idx ref (r.2.1 k).2.1 (r.2.1 k).2.2.1 ∈ Ts ∧ (ref = (r.2.1 k).1 ∨ Cond.sameField ref (r.2.1 k).1 (r.2.1 k).2.1 (r.2.1 k).2.2.1 ∈ Ts)) ∨
  (t = 2 ∧ ∃ host, Cond.fieldLinkNest (nm o) idx (r.2.1 k).1 (r.2.1 k).2.1 (r.2.1 k).2.2.1 host ∈ NW))
def am_methAt (B : am_B) (nm : Nat → String) (my : Nat → MethodName) (Ts : List Cond) (m : Nat) (I : am_I) : Prop :=
  Cond.code (my m) I.2.1 I.2.2.1 I.2.2.2.1 ∈ Ts ∧ (my m).cls = nm I.1 ∧ plainName (my m).cls = true ∧ ((my m).cls ≠ "java/lang/invoke/MethodHandle" ∧ (my m).cls ≠ "java/lang/invoke/VarHandle") ∧ (I.2.2.2.2 = true → (my m).name = "<init>") ∧ I.2.2.1 ≤ 40 ∧ Cond.initialized (my m).cls ∈ Ts
def am_parms (y : MethodName) (n : Nat) : Prop := (parseMethodDescriptor y.desc).map (fun d => d.parameters.length) = some n
def am_gcn : MethodName := ⟨"java/lang/Object", "getClass", "()Ljava/lang/Class;"⟩
/-- the words that are carried beside the others -/
def am_nwk (w : Cond) : Prop := (∃ a i b n d h, w = .fieldLinkNest a i b n d h) ∨ (∃ a i x h, w = .methodLinkNest a i x h) ∨ (∃ C T, w = .castable C T) ∨ (∃ C, w = .arrayOver (.object C)) ∨ ∃ x, w = .declares x
def am_Tab (B : am_B) (nm : Nat → String) (my : Nat → MethodName) (cl : List vw_C) (Ts NW : List Cond) : Prop :=
  am_TabC B nm cl Ts ∧ (∀ m I, B.2.1 m = some I → am_methAt B nm my Ts m I) ∧
  (∀ o idx t c k, B.1 o idx = (t, c, k) → (t = 1 ∨ t = 2) → am_fieldAt nm cl Ts NW o idx t c k) ∧
  (∀ o idx m n, B.1 o idx = (4, m, n) → Cond.methodLink (nm o) idx (my m) ∈ Ts ∧ Cond.instanceMethod (my m) ∈ Ts ∧ Cond.selects (my m).cls (my m) (my m) ∈ Ts ∧ am_parms (my m) n) ∧
  (∀ o idx m n, B.1 o idx = (5, m, n) → Cond.methodLink (nm o) idx (my m) ∈ Ts ∧ Cond.static (my m) ∈ Ts ∧ am_parms (my m) n) ∧
  (∀ o idx m n, B.1 o idx = (6, m, n) → Cond.methodLink (nm o) idx (my m) ∈ Ts ∧ Cond.instanceMethod (my m) ∈ Ts ∧ (my m).name = "<init>" ∧ am_parms (my m) n ∧ ∀ I, B.2.1 m = some I → I.2.2.2.1 = none) ∧
  (∀ o idx m n, B.1 o idx = (7, m, n) → (∃ host, Cond.methodLinkNest (nm o) idx (my m) host ∈ NW) ∧ Cond.instanceMethod (my m) ∈ Ts ∧ (my m).name = "<init>" ∧ am_parms (my m) n ∧ ∀ I, B.2.1 m = some I → I.2.2.2.1 = none) ∧
  (∀ o idx x y, B.1 o idx = (8, x, y) → Cond.methodLink (nm o) idx objectInit ∈ Ts ∧ Cond.instanceMethod objectInit ∈ Ts ∧ Cond.code objectInit ⟨#[0xb1]⟩ 1 none ∈ Ts) ∧
  (∀ o idx c y, B.1 o idx = (9, c, y) → Cond.classLink (nm o) idx (nm c) ∈ Ts) ∧
  (∀ c ts, B.2.2.1 c = some ts → ∃ r : vw_C, cl[c]? = some r) ∧
  True ∧
  (∀ o idx x y, B.1 o idx = (12, x, y) → Cond.constant (nm o) idx (Int32.ofNat x) ∈ Ts) ∧
  (∀ w ∈ Ts, (w.onTables && w.keeps) = true ∨ ∃ ty, w = .arrayClass ty) ∧
  (Cond.arrayClass .int ∈ Ts ∧ Cond.arrayClass .byte ∈ Ts ∧ Cond.arrayClass .boolean ∈ Ts) ∧ Cond.castable (nm 7) "java/lang/Object" ∈ NW ∧ (∀ C ∈ am_refs, Cond.arrayOver (.object C) ∈ NW) ∧ (∀ w ∈ NW, am_nwk w) ∧
  (∀ o idx x y, B.1 o idx = (13, x, y) → Cond.methodLink (nm o) idx arraycopyName ∈ Ts ∧ Cond.native arraycopyName ∈ Ts ∧ Cond.static arraycopyName ∈ Ts ∧ Cond.initialized "java/lang/System" ∈ Ts) ∧
  (∀ o idx x y, B.1 o idx = (14, x, y) → Cond.methodLink (nm o) idx am_gcn ∈ Ts ∧ Cond.declares am_gcn ∈ NW ∧ Cond.selects "[Ljava/lang/Object;" am_gcn am_gcn ∈ Ts ∧ Cond.instanceMethod am_gcn ∈ Ts ∧ Cond.native am_gcn ∈ Ts) ∧
  (∀ o idx x y, B.1 o idx = (15, x, y) → Cond.classLink (nm o) idx "[Ljava/lang/Object;" ∈ Ts) ∧
  (∀ o idx x y, B.1 o idx = (16, x, y) → Cond.methodLink (nm o) idx Lib.Math.max.name ∈ Ts ∧ Cond.static Lib.Math.max.name ∈ Ts ∧ Cond.initialized "java/lang/Math" ∈ Ts ∧ Cond.code Lib.Math.max.name Lib.Math.max.code 2 (some .int) ∈ Ts) ∧
  (∀ o idx x y, B.1 o idx = (17, x, y) → Cond.methodLink (nm o) idx Lib.Math.min.name ∈ Ts ∧ Cond.static Lib.Math.min.name ∈ Ts ∧ Cond.initialized "java/lang/Math" ∈ Ts ∧ Cond.code Lib.Math.min.name Lib.Math.min.code 2 (some .int) ∈ Ts)
