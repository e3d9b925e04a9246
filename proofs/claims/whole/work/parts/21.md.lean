/-! THE REFERENCE's STATE: its ints by their field numbers, its arrays by field number and place -/
abbrev md_S : Type := (Nat → Int32) × (Nat → Nat → Int32)
def md_ar : Nat → Option (FieldType × Nat) := fun f => match f with
  | 0 => some (.byte, 400)
  | 3 => some (.int, 60)
  | 4 => some (.int, 60)
  | 5 => some (.int, 60)
  | 6 => some (.int, 60)
  | 7 => some (.int, 60)
  | 8 => some (.int, 60)
  | 9 => some (.int, 540)
  | 10 => some (.byte, 7200)
  | 11 => some (.int, 60)
  | 12 => some (.int, 60)
  | 13 => some (.boolean, 60)
  | 14 => some (.int, 60)
  | 15 => some (.int, 60)
  | 16 => some (.int, 60)
  | 17 => some (.int, 60)
  | 18 => some (.int, 60)
  | 19 => some (.int, 60)
  | 20 => some (.int, 60)
  | 21 => some (.int, 60)
  | 23 => some (.boolean, 60)
  | 24 => some (.int, 60)
  | 25 => some (.int, 60)
  | 26 => some (.int, 60)
  | 27 => some (.int, 60)
  | 28 => some (.int, 60)
  | 30 => some (.int, 3700)
  | 31 => some (.int, 3700)
  | 32 => some (.int, 3700)
  | 33 => some (.int, 3700)
  | 34 => some (.int, 3700)
  | 35 => some (.int, 3700)
  | 36 => some (.int, 3700)
  | 44 => some (.int, 3700)
  | 45 => some (.int, 3700)
  | 47 => some (.int, 60)
  | 48 => some (.int, 60)
  | 49 => some (.int, 60)
  | 50 => some (.int, 60)
  | 51 => some (.int, 60)
  | 52 => some (.int, 60)
  | _ => none
def md_fv (ad : Nat → Nat) (M : md_S) (f : Nat) : Value := match md_ar f with
  | some _ => .ref (ad f)
  | none => .int (M.1 f)
def md_cells (M : md_S) (f n : Nat) : List Value := (List.range n).map (fun i => Value.int (M.2 f i))
def md_R (mo : Nat) (ad : Nat → Nat) (M : md_S) (h : am_H) : Prop :=
  h[mo]? = some (.inl (9, (List.range 56).map (md_fv ad M))) ∧ ∀ f ty n, md_ar f = some (ty, n) → h[ad f]? = some (.inr (ty, md_cells M f n))
/-- the cells lie apart -/
def md_D (mo : Nat) (ad : Nat → Nat) : Prop := (∀ f g, (md_ar f).isSome = true → (md_ar g).isSome = true → ad f = ad g → f = g) ∧ ∀ f, (md_ar f).isSome = true → ad f ≠ mo
/-- what isn't the reference's stays; nothing is made -/
def md_Fr (mo : Nat) (ad : Nat → Nat) (h h' : am_H) : Prop := h'.length = h.length ∧ am_sl h' = am_sl h ∧ ∀ a, a ≠ mo → (∀ f, (md_ar f).isSome = true → a ≠ ad f) → h'[a]? = h[a]?
theorem md_Fr.rf {mo : Nat} {ad : Nat → Nat} {h : am_H} : md_Fr mo ad h h := ⟨rfl, rfl, fun _ _ _ => rfl⟩
theorem md_Fr.tr {mo : Nat} {ad : Nat → Nat} {h h1 h2 : am_H} (a : md_Fr mo ad h h1) (b : md_Fr mo ad h1 h2) : md_Fr mo ad h h2 := ⟨b.1.trans a.1, b.2.1.trans a.2.1, fun q x y => (b.2.2 q x y).trans (a.2.2 q x y)⟩
def md_up1 (M : md_S) (f : Nat) (v : Int32) : md_S := (fun g => if g = f then v else M.1 g, M.2)
def md_up2 (M : md_S) (f i : Nat) (v : Int32) : md_S := (M.1, fun g j => if g = f ∧ j = i then v else M.2 g j)
theorem md_get {mo : Nat} {ad : Nat → Nat} {M : md_S} {h : am_H} (hR : md_R mo ad M h) {f : Nat} (hf : f < 56) : am_get h 9 mo f = some (md_fv ad M f) := by
  unfold am_get
  rw [hR.1]
  simp [hf]
theorem md_arr {B : am_B} {mo : Nat} {ad : Nat → Nat} {M : md_S} {h : am_H} (hR : md_R mo ad M h) {f n : Nat} {ty : FieldType} (hf : md_ar f = some (ty, n)) : am_arr B h (.ref (ad f)) = some (ty, md_cells M f n) := by
  unfold am_arr
  simp [hR.2 f ty n hf]
theorem md_cells_get {M : md_S} {f n i : Nat} (hi : i < n) : (md_cells M f n)[i]? = some (.int (M.2 f i)) := by simp [md_cells, hi]
theorem md_cells_len {M : md_S} {f n : Nat} : (md_cells M f n).length = n := by simp [md_cells]
theorem md_R.up1 {mo : Nat} {ad : Nat → Nat} {M : md_S} {h : am_H} (hD : md_D mo ad) (hR : md_R mo ad M h) {f : Nat} (hf : f < 56) (hn : md_ar f = none) (v : Int32) : md_R mo ad (md_up1 M f v) (am_put h mo f (.int v)) ∧ md_Fr mo ad h (am_put h mo f (.int v)) := by
  have hl : mo < h.length := (List.getElem?_eq_some_iff.mp hR.1).1
  rw [am_put_eq hR.1]
  refine ⟨⟨?_, fun g ty n hg => ?_⟩, by simp, am_sl_set h mo _ _ hR.1 (by simp [am_sz]), fun a h1 h2 => List.getElem?_set_ne (Ne.symm h1)⟩
  · rw [List.getElem?_set_self hl]
    congr 3
    apply List.ext_getElem?
    intro i
    by_cases hi : i = f
    · subst hi
      rw [List.getElem?_set_self (by simpa using hf)]
      simp [hf, md_fv, hn, md_up1]
    · rw [List.getElem?_set_ne (Ne.symm hi), List.getElem?_map, List.getElem?_map]
      by_cases h56 : i < 56
      · rw [List.getElem?_range h56]
        simp [md_fv, md_up1, hi]
      · rw [List.getElem?_eq_none (by simp; omega)]
        rfl
  · rw [List.getElem?_set_ne (fun e => hD.2 g (by rw [hg]; rfl) e.symm), hR.2 g ty n hg]
    rfl
theorem md_cells_set {M : md_S} {f n i : Nat} {v : Int32} (hi : i < n) : (md_cells M f n).set i (.int v) = md_cells (md_up2 M f i v) f n := by
  apply List.ext_getElem?
  intro j
  by_cases hj : j = i
  · subst hj
    rw [List.getElem?_set_self (by rw [md_cells_len]; exact hi), md_cells_get hi]
    simp [md_up2]
  · rw [List.getElem?_set_ne (Ne.symm hj)]
    by_cases hjn : j < n
    · rw [md_cells_get hjn, md_cells_get hjn]
      simp [md_up2, hj]
    · rw [List.getElem?_eq_none (by rw [md_cells_len]; omega), List.getElem?_eq_none (by rw [md_cells_len]; omega)]
theorem md_R.up2 {mo : Nat} {ad : Nat → Nat} {M : md_S} {h : am_H} (hD : md_D mo ad) (hR : md_R mo ad M h) {f n i : Nat} {ty : FieldType} (hf : md_ar f = some (ty, n)) (hi : i < n) (v : Int32) : md_R mo ad (md_up2 M f i v) (h.set (ad f) (.inr (ty, (md_cells M f n).set i (.int v)))) ∧ md_Fr mo ad h (h.set (ad f) (.inr (ty, (md_cells M f n).set i (.int v)))) := by
  have h0 := hR.2 f ty n hf
  have hl : ad f < h.length := (List.getElem?_eq_some_iff.mp h0).1
  have hs : (md_ar f).isSome = true := by rw [hf]; rfl
  refine ⟨⟨?_, fun g ty' n' hg => ?_⟩, by simp, am_sl_set h _ _ _ h0 (by simp [am_sz]), fun a h1 h2 => List.getElem?_set_ne (Ne.symm (h2 f hs))⟩
  · rw [List.getElem?_set_ne (hD.2 f hs), hR.1]
    rfl
  · by_cases hgf : g = f
    · subst hgf
      rw [List.getElem?_set_self hl]
      cases hf.symm.trans hg
      rw [md_cells_set hi]
    · rw [List.getElem?_set_ne (fun e => hgf (hD.1 g f (by rw [hg]; rfl) hs e.symm)), hR.2 g ty' n' hg]
      congr 3
      unfold md_cells
      apply List.map_congr_left
      intro j _
      simp [md_up2, hgf]
section MDW
variable (xs : List Int32) (mo : Nat) (ad : Nat → Nat)
/-- from here the method ends with Q, an answer and the reference's state; all in terms of the state -/
def md_wp (h0 : am_H) (d : Nat) (Q : Option Value → md_S → Prop) (I : am_I) (pc : Nat) (ls : List (Option Value)) (st : List Value) (M : md_S) : Prop :=
  ∀ h, md_R mo ad M h → md_Fr mo ad h0 h → am_wp (am_Bx xs) am_nm (am_T (am_Bx xs) am_nm d) (fun v h' => ∃ M', md_R mo ad M' h' ∧ md_Fr mo ad h0 h' ∧ Q v M') I (pc, ls, st, h)
/-- a call of a method of the reference -/
def md_C (d mi : Nat) (as : List Value) (M : md_S) (Q : Option Value → md_S → Prop) : Prop :=
  ∀ h, md_R mo ad M h → am_T (am_Bx xs) am_nm d mi (.ref mo :: as) h (fun v h' => ∃ M', md_R mo ad M' h' ∧ md_Fr mo ad h h' ∧ Q v M')
/-- a call of a static method that reads no heap -/
def md_Cs (d mi : Nat) (as : List Value) (Q : Option Value → Prop) : Prop :=
  ∀ h, am_T (am_Bx xs) am_nm d mi as h (fun v h' => h' = h ∧ Q v)
variable {xs mo ad}
variable {h0 : am_H} {d : Nat} {Q : Option Value → md_S → Prop} {I : am_I} {pc : Nat} {ls : List (Option Value)} {st rest : List Value} {M : md_S}
theorem md_C.mono {mi : Nat} {as : List Value} {Q' : Option Value → md_S → Prop} (h : md_C xs mo ad d mi as M Q) (hQ : ∀ v M, Q v M → Q' v M) : md_C xs mo ad d mi as M Q' := fun hh hR => am_T_mono (fun v h' ⟨M', a, b, c⟩ => ⟨M', a, b, hQ _ _ c⟩) (h hh hR)
theorem md_intro {mi : Nat} {as : List Value} (hI : (am_Bx xs).2.1 mi = some I) (hl : (Value.ref mo :: as).length ≤ I.2.2.1) (hw : ∀ h0, md_wp xs mo ad h0 d Q I 0 ((Value.ref mo :: as).map some ++ List.replicate (I.2.2.1 - (Value.ref mo :: as).length) none) [] M) : md_C xs mo ad (d + 1) mi as M Q :=
  fun h hR => ⟨I, hI, hl, hw h h hR md_Fr.rf⟩
theorem md_iconst {n : Int} {v : Int32} (hd : decode I.2.1 pc = .ok (.iconst n, 1)) (hv : Int32.ofInt n = v) (k : md_wp xs mo ad h0 d Q I (pc + 1) ls (.int v :: st) M) : md_wp xs mo ad h0 d Q I pc ls (st) M :=
  fun h hR hF => am_r hd rfl (show am_nx _ _ _ _ _ _ _ _ _ _ from by subst hv; exact k h hR hF)
theorem md_bipush {n : Int} {v : Int32} (hd : decode I.2.1 pc = .ok (.bipush n, 2)) (hv : (Int8.ofInt n).toInt32 = v) (k : md_wp xs mo ad h0 d Q I (pc + 2) ls (.int v :: st) M) : md_wp xs mo ad h0 d Q I pc ls (st) M :=
  fun h hR hF => am_r hd rfl (show am_nx _ _ _ _ _ _ _ _ _ _ from by subst hv; exact k h hR hF)
theorem md_sipush {n : Int} {v : Int32} (hd : decode I.2.1 pc = .ok (.sipush n, 3)) (hv : (Int16.ofInt n).toInt32 = v) (k : md_wp xs mo ad h0 d Q I (pc + 3) ls (.int v :: st) M) : md_wp xs mo ad h0 d Q I pc ls (st) M :=
  fun h hR hF => am_r hd rfl (show am_nx _ _ _ _ _ _ _ _ _ _ from by subst hv; exact k h hR hF)
theorem md_iload {i : Nat} {x : Int32} (hd : decode I.2.1 pc = .ok (.iload i, 2)) (hx : ls[i]? = some (some (.int x))) (k : md_wp xs mo ad h0 d Q I (pc + 2) ls (.int x :: st) M) : md_wp xs mo ad h0 d Q I pc ls (st) M :=
  fun h hR hF => am_r hd rfl (show am_nx _ _ _ _ _ _ _ _ _ _ from ⟨x, hx, k h hR hF⟩)
theorem md_iload_n {i : Fin 4} {x : Int32} (hd : decode I.2.1 pc = .ok (.iload_n i, 1)) (hx : ls[i.val]? = some (some (.int x))) (k : md_wp xs mo ad h0 d Q I (pc + 1) ls (.int x :: st) M) : md_wp xs mo ad h0 d Q I pc ls (st) M :=
  fun h hR hF => am_r hd rfl (show am_nx _ _ _ _ _ _ _ _ _ _ from ⟨x, hx, k h hR hF⟩)
theorem md_aload0 {i : Fin 4} {a : Nat} (hd : decode I.2.1 pc = .ok (.aload_n i, 1)) (hx : ls[i.val]? = some (some (.ref a))) (k : md_wp xs mo ad h0 d Q I (pc + 1) ls (.ref a :: st) M) : md_wp xs mo ad h0 d Q I pc ls (st) M :=
  fun h hR hF => am_r hd rfl (show am_nx _ _ _ _ _ _ _ _ _ _ from ⟨_, hx, Or.inr (Or.inl ⟨a, rfl⟩), k h hR hF⟩)
theorem md_istore {i : Nat} {x : Int32} (hd : decode I.2.1 pc = .ok (.istore i, 2)) (hx : i < ls.length) (k : md_wp xs mo ad h0 d Q I (pc + 2) (ls.set i (some (.int x))) (st) M) : md_wp xs mo ad h0 d Q I pc ls (.int x :: st) M :=
  fun h hR hF => am_r hd rfl (show am_nx _ _ _ _ _ _ _ _ _ _ from ⟨x, st, rfl, hx, k h hR hF⟩)
theorem md_istore_n {i : Fin 4} {x : Int32} (hd : decode I.2.1 pc = .ok (.istore_n i, 1)) (hx : i.val < ls.length) (k : md_wp xs mo ad h0 d Q I (pc + 1) (ls.set i.val (some (.int x))) (st) M) : md_wp xs mo ad h0 d Q I pc ls (.int x :: st) M :=
  fun h hR hF => am_r hd rfl (show am_nx _ _ _ _ _ _ _ _ _ _ from ⟨x, st, rfl, hx, k h hR hF⟩)
theorem md_iinc {i : Nat} {n : Int} {x v : Int32} (hd : decode I.2.1 pc = .ok (.iinc i n, 3)) (hx : ls[i]? = some (some (.int x))) (hv : x + Int32.ofInt n = v) (k : md_wp xs mo ad h0 d Q I (pc + 3) (ls.set i (some (.int v))) (st) M) : md_wp xs mo ad h0 d Q I pc ls (st) M :=
  fun h hR hF => am_r hd rfl (show am_nx _ _ _ _ _ _ _ _ _ _ from ⟨x, hx, by subst hv; exact k h hR hF⟩)
theorem md_iadd {x y : Int32} (hd : decode I.2.1 pc = .ok (.iadd, 1))  (k : md_wp xs mo ad h0 d Q I (pc + 1) ls (.int (x + y) :: st) M) : md_wp xs mo ad h0 d Q I pc ls (.int y :: .int x :: st) M :=
  fun h hR hF => am_r hd rfl (show am_nx _ _ _ _ _ _ _ _ _ _ from ⟨x, y, st, rfl, k h hR hF⟩)
theorem md_isub {x y : Int32} (hd : decode I.2.1 pc = .ok (.isub, 1))  (k : md_wp xs mo ad h0 d Q I (pc + 1) ls (.int (x - y) :: st) M) : md_wp xs mo ad h0 d Q I pc ls (.int y :: .int x :: st) M :=
  fun h hR hF => am_r hd rfl (show am_nx _ _ _ _ _ _ _ _ _ _ from ⟨x, y, st, rfl, k h hR hF⟩)
theorem md_imul {x y : Int32} (hd : decode I.2.1 pc = .ok (.imul, 1))  (k : md_wp xs mo ad h0 d Q I (pc + 1) ls (.int (x * y) :: st) M) : md_wp xs mo ad h0 d Q I pc ls (.int y :: .int x :: st) M :=
  fun h hR hF => am_r hd rfl (show am_nx _ _ _ _ _ _ _ _ _ _ from ⟨x, y, st, rfl, k h hR hF⟩)
theorem md_iand {x y : Int32} (hd : decode I.2.1 pc = .ok (.iand, 1))  (k : md_wp xs mo ad h0 d Q I (pc + 1) ls (.int (x &&& y) :: st) M) : md_wp xs mo ad h0 d Q I pc ls (.int y :: .int x :: st) M :=
  fun h hR hF => am_r hd rfl (show am_nx _ _ _ _ _ _ _ _ _ _ from ⟨x, y, st, rfl, k h hR hF⟩)
theorem md_ishr {x y : Int32} (hd : decode I.2.1 pc = .ok (.ishr, 1))  (k : md_wp xs mo ad h0 d Q I (pc + 1) ls (.int (x >>> (y &&& 31)) :: st) M) : md_wp xs mo ad h0 d Q I pc ls (.int y :: .int x :: st) M :=
  fun h hR hF => am_r hd rfl (show am_nx _ _ _ _ _ _ _ _ _ _ from ⟨x, y, st, rfl, k h hR hF⟩)
theorem md_idiv {x y : Int32} (hd : decode I.2.1 pc = .ok (.idiv, 1)) (hy : ¬ y = 0) (k : md_wp xs mo ad h0 d Q I (pc + 1) ls (.int (x / y) :: st) M) : md_wp xs mo ad h0 d Q I pc ls (.int y :: .int x :: st) M :=
  fun h hR hF => am_r hd rfl (show am_nx _ _ _ _ _ _ _ _ _ _ from ⟨x, y, st, rfl, hy, k h hR hF⟩)
theorem md_i2b {x : Int32} (hd : decode I.2.1 pc = .ok (.i2b, 1))  (k : md_wp xs mo ad h0 d Q I (pc + 1) ls (.int x.toInt8.toInt32 :: st) M) : md_wp xs mo ad h0 d Q I pc ls (.int x :: st) M :=
  fun h hR hF => am_r hd rfl (show am_nx _ _ _ _ _ _ _ _ _ _ from ⟨x, st, rfl, k h hR hF⟩)
theorem md_dup {v : Value} (hd : decode I.2.1 pc = .ok (.dup, 1))  (k : md_wp xs mo ad h0 d Q I (pc + 1) ls (v :: v :: st) M) : md_wp xs mo ad h0 d Q I pc ls (v :: st) M :=
  fun h hR hF => am_r hd rfl (show am_nx _ _ _ _ _ _ _ _ _ _ from ⟨v, st, rfl, k h hR hF⟩)
theorem md_dup2 {v w : Value} (hd : decode I.2.1 pc = .ok (.dup2, 1))  (k : md_wp xs mo ad h0 d Q I (pc + 1) ls (v :: w :: v :: w :: st) M) : md_wp xs mo ad h0 d Q I pc ls (v :: w :: st) M :=
  fun h hR hF => am_r hd rfl (show am_nx _ _ _ _ _ _ _ _ _ _ from ⟨v, w, st, rfl, k h hR hF⟩)
theorem md_pop {v : Value} (hd : decode I.2.1 pc = .ok (.pop, 1))  (k : md_wp xs mo ad h0 d Q I (pc + 1) ls (st) M) : md_wp xs mo ad h0 d Q I pc ls (v :: st) M :=
  fun h hR hF => am_r hd rfl (show am_nx _ _ _ _ _ _ _ _ _ _ from ⟨v, st, rfl, k h hR hF⟩)
theorem md_goto {off : Int} {tgt : Nat} (hd : decode I.2.1 pc = .ok (.goto off, 3)) (ht : (pc : Int) + off = (tgt : Int)) (k : md_wp xs mo ad h0 d Q I (tgt) ls (st) M) : md_wp xs mo ad h0 d Q I pc ls (st) M :=
  fun h hR hF => am_r hd rfl (show am_nx _ _ _ _ _ _ _ _ _ _ from ⟨tgt, ht, k h hR hF⟩)
theorem md_if_eq {x : Int32} {off : Int} {tgt : Nat} (hd : decode I.2.1 pc = .ok (.ifCond .eq off, 3)) (ht : (pc : Int) + off = (tgt : Int)) (k1 : x = 0 → md_wp xs mo ad h0 d Q I tgt ls st M) (k2 : ¬ (x = 0) → md_wp xs mo ad h0 d Q I (pc + 3) ls st M) : md_wp xs mo ad h0 d Q I pc ls (.int x :: st) M :=
  fun h hR hF => am_r hd rfl (show am_nx _ _ _ _ _ _ _ _ _ _ from ⟨x, st, rfl, tgt, ht, fun q => k1 q h hR hF, fun q => k2 q h hR hF⟩)
theorem md_icmp_eq {x y : Int32} {off : Int} {tgt : Nat} (hd : decode I.2.1 pc = .ok (.if_icmp .eq off, 3)) (ht : (pc : Int) + off = (tgt : Int)) (k1 : x = y → md_wp xs mo ad h0 d Q I tgt ls st M) (k2 : ¬ (x = y) → md_wp xs mo ad h0 d Q I (pc + 3) ls st M) : md_wp xs mo ad h0 d Q I pc ls (.int y :: .int x :: st) M :=
  fun h hR hF => am_r hd rfl (show am_nx _ _ _ _ _ _ _ _ _ _ from ⟨x, y, st, rfl, tgt, ht, fun q => k1 q h hR hF, fun q => k2 q h hR hF⟩)
theorem md_if_ne {x : Int32} {off : Int} {tgt : Nat} (hd : decode I.2.1 pc = .ok (.ifCond .ne off, 3)) (ht : (pc : Int) + off = (tgt : Int)) (k1 : ¬ x = 0 → md_wp xs mo ad h0 d Q I tgt ls st M) (k2 : ¬ (¬ x = 0) → md_wp xs mo ad h0 d Q I (pc + 3) ls st M) : md_wp xs mo ad h0 d Q I pc ls (.int x :: st) M :=
  fun h hR hF => am_r hd rfl (show am_nx _ _ _ _ _ _ _ _ _ _ from ⟨x, st, rfl, tgt, ht, fun q => k1 q h hR hF, fun q => k2 q h hR hF⟩)
theorem md_icmp_ne {x y : Int32} {off : Int} {tgt : Nat} (hd : decode I.2.1 pc = .ok (.if_icmp .ne off, 3)) (ht : (pc : Int) + off = (tgt : Int)) (k1 : ¬ x = y → md_wp xs mo ad h0 d Q I tgt ls st M) (k2 : ¬ (¬ x = y) → md_wp xs mo ad h0 d Q I (pc + 3) ls st M) : md_wp xs mo ad h0 d Q I pc ls (.int y :: .int x :: st) M :=
  fun h hR hF => am_r hd rfl (show am_nx _ _ _ _ _ _ _ _ _ _ from ⟨x, y, st, rfl, tgt, ht, fun q => k1 q h hR hF, fun q => k2 q h hR hF⟩)
theorem md_if_lt {x : Int32} {off : Int} {tgt : Nat} (hd : decode I.2.1 pc = .ok (.ifCond .lt off, 3)) (ht : (pc : Int) + off = (tgt : Int)) (k1 : x < 0 → md_wp xs mo ad h0 d Q I tgt ls st M) (k2 : ¬ (x < 0) → md_wp xs mo ad h0 d Q I (pc + 3) ls st M) : md_wp xs mo ad h0 d Q I pc ls (.int x :: st) M :=
  fun h hR hF => am_r hd rfl (show am_nx _ _ _ _ _ _ _ _ _ _ from ⟨x, st, rfl, tgt, ht, fun q => k1 q h hR hF, fun q => k2 q h hR hF⟩)
theorem md_icmp_lt {x y : Int32} {off : Int} {tgt : Nat} (hd : decode I.2.1 pc = .ok (.if_icmp .lt off, 3)) (ht : (pc : Int) + off = (tgt : Int)) (k1 : x < y → md_wp xs mo ad h0 d Q I tgt ls st M) (k2 : ¬ (x < y) → md_wp xs mo ad h0 d Q I (pc + 3) ls st M) : md_wp xs mo ad h0 d Q I pc ls (.int y :: .int x :: st) M :=
  fun h hR hF => am_r hd rfl (show am_nx _ _ _ _ _ _ _ _ _ _ from ⟨x, y, st, rfl, tgt, ht, fun q => k1 q h hR hF, fun q => k2 q h hR hF⟩)
theorem md_if_ge {x : Int32} {off : Int} {tgt : Nat} (hd : decode I.2.1 pc = .ok (.ifCond .ge off, 3)) (ht : (pc : Int) + off = (tgt : Int)) (k1 : 0 ≤ x → md_wp xs mo ad h0 d Q I tgt ls st M) (k2 : ¬ (0 ≤ x) → md_wp xs mo ad h0 d Q I (pc + 3) ls st M) : md_wp xs mo ad h0 d Q I pc ls (.int x :: st) M :=
  fun h hR hF => am_r hd rfl (show am_nx _ _ _ _ _ _ _ _ _ _ from ⟨x, st, rfl, tgt, ht, fun q => k1 q h hR hF, fun q => k2 q h hR hF⟩)
theorem md_icmp_ge {x y : Int32} {off : Int} {tgt : Nat} (hd : decode I.2.1 pc = .ok (.if_icmp .ge off, 3)) (ht : (pc : Int) + off = (tgt : Int)) (k1 : y ≤ x → md_wp xs mo ad h0 d Q I tgt ls st M) (k2 : ¬ (y ≤ x) → md_wp xs mo ad h0 d Q I (pc + 3) ls st M) : md_wp xs mo ad h0 d Q I pc ls (.int y :: .int x :: st) M :=
  fun h hR hF => am_r hd rfl (show am_nx _ _ _ _ _ _ _ _ _ _ from ⟨x, y, st, rfl, tgt, ht, fun q => k1 q h hR hF, fun q => k2 q h hR hF⟩)
theorem md_if_gt {x : Int32} {off : Int} {tgt : Nat} (hd : decode I.2.1 pc = .ok (.ifCond .gt off, 3)) (ht : (pc : Int) + off = (tgt : Int)) (k1 : 0 < x → md_wp xs mo ad h0 d Q I tgt ls st M) (k2 : ¬ (0 < x) → md_wp xs mo ad h0 d Q I (pc + 3) ls st M) : md_wp xs mo ad h0 d Q I pc ls (.int x :: st) M :=
  fun h hR hF => am_r hd rfl (show am_nx _ _ _ _ _ _ _ _ _ _ from ⟨x, st, rfl, tgt, ht, fun q => k1 q h hR hF, fun q => k2 q h hR hF⟩)
theorem md_icmp_gt {x y : Int32} {off : Int} {tgt : Nat} (hd : decode I.2.1 pc = .ok (.if_icmp .gt off, 3)) (ht : (pc : Int) + off = (tgt : Int)) (k1 : y < x → md_wp xs mo ad h0 d Q I tgt ls st M) (k2 : ¬ (y < x) → md_wp xs mo ad h0 d Q I (pc + 3) ls st M) : md_wp xs mo ad h0 d Q I pc ls (.int y :: .int x :: st) M :=
  fun h hR hF => am_r hd rfl (show am_nx _ _ _ _ _ _ _ _ _ _ from ⟨x, y, st, rfl, tgt, ht, fun q => k1 q h hR hF, fun q => k2 q h hR hF⟩)
theorem md_if_le {x : Int32} {off : Int} {tgt : Nat} (hd : decode I.2.1 pc = .ok (.ifCond .le off, 3)) (ht : (pc : Int) + off = (tgt : Int)) (k1 : x ≤ 0 → md_wp xs mo ad h0 d Q I tgt ls st M) (k2 : ¬ (x ≤ 0) → md_wp xs mo ad h0 d Q I (pc + 3) ls st M) : md_wp xs mo ad h0 d Q I pc ls (.int x :: st) M :=
  fun h hR hF => am_r hd rfl (show am_nx _ _ _ _ _ _ _ _ _ _ from ⟨x, st, rfl, tgt, ht, fun q => k1 q h hR hF, fun q => k2 q h hR hF⟩)
theorem md_icmp_le {x y : Int32} {off : Int} {tgt : Nat} (hd : decode I.2.1 pc = .ok (.if_icmp .le off, 3)) (ht : (pc : Int) + off = (tgt : Int)) (k1 : x ≤ y → md_wp xs mo ad h0 d Q I tgt ls st M) (k2 : ¬ (x ≤ y) → md_wp xs mo ad h0 d Q I (pc + 3) ls st M) : md_wp xs mo ad h0 d Q I pc ls (.int y :: .int x :: st) M :=
  fun h hR hF => am_r hd rfl (show am_nx _ _ _ _ _ _ _ _ _ _ from ⟨x, y, st, rfl, tgt, ht, fun q => k1 q h hR hF, fun q => k2 q h hR hF⟩)
theorem md_getI {idx f : Nat} (hd : decode I.2.1 pc = .ok (.getfield idx, 3)) (hb : am_pool I.1 idx = (1, 9, f)) (hf : f < 56) (hn : md_ar f = none) (k : md_wp xs mo ad h0 d Q I (pc + 3) ls (.int (M.1 f) :: st) M) : md_wp xs mo ad h0 d Q I pc ls (.ref mo :: st) M :=
  fun h hR hF => am_r hd rfl (show am_nx _ _ _ _ _ _ _ _ _ _ from ⟨mo, st, 1, 9, f, _, rfl, hb, Or.inl rfl, md_get hR hf, by unfold md_fv; rw [hn]; exact k h hR hF⟩)
theorem md_getA {idx f : Nat} {q : FieldType × Nat} (hd : decode I.2.1 pc = .ok (.getfield idx, 3)) (hb : am_pool I.1 idx = (1, 9, f)) (hf : f < 56) (hn : md_ar f = some q) (k : md_wp xs mo ad h0 d Q I (pc + 3) ls (.ref (ad f) :: st) M) : md_wp xs mo ad h0 d Q I pc ls (.ref mo :: st) M :=
  fun h hR hF => am_r hd rfl (show am_nx _ _ _ _ _ _ _ _ _ _ from ⟨mo, st, 1, 9, f, _, rfl, hb, Or.inl rfl, md_get hR hf, by unfold md_fv; rw [hn]; exact k h hR hF⟩)
theorem md_vin {j : Int32} {n : Nat} (h : vp_in j n) : ¬ j < 0 ∧ j.toNatClampNeg < n := ⟨fun q => h (Or.inl q), Nat.not_le.mp fun q => h (Or.inr q)⟩
theorem md_iald {f n : Nat} {j : Int32} (hd : decode I.2.1 pc = .ok (.iaload, 1)) (hn : md_ar f = some (.int, n)) (hj : vp_in j n) (k : md_wp xs mo ad h0 d Q I (pc + 1) ls (.int (M.2 f j.toNatClampNeg) :: st) M) : md_wp xs mo ad h0 d Q I pc ls (.int j :: .ref (ad f) :: st) M :=
  fun h hR hF => am_r hd rfl (show am_nx _ _ _ _ _ _ _ _ _ _ from ⟨j, _, st, .int, _, _, rfl, md_arr hR hn, rfl, (md_vin hj).1, md_cells_get (md_vin hj).2, k h hR hF⟩)
theorem md_bald {f n : Nat} {j : Int32} {ty : FieldType} (hd : decode I.2.1 pc = .ok (.baload, 1)) (hn : md_ar f = some (ty, n)) (hty : ty = .byte ∨ ty = .boolean) (hj : vp_in j n) (k : md_wp xs mo ad h0 d Q I (pc + 1) ls (.int (M.2 f j.toNatClampNeg) :: st) M) : md_wp xs mo ad h0 d Q I pc ls (.int j :: .ref (ad f) :: st) M :=
  fun h hR hF => am_r hd rfl (show am_nx _ _ _ _ _ _ _ _ _ _ from ⟨j, _, st, ty, _, _, rfl, md_arr hR hn, hty, (md_vin hj).1, md_cells_get (md_vin hj).2, k h hR hF⟩)
theorem md_putI {idx f : Nat} {v : Int32} {ty : FieldType} (hD : md_D mo ad) (hd : decode I.2.1 pc = .ok (.putfield idx, 3)) (hb : am_pool I.1 idx = (1, 9, f)) (hf : f < 56) (hn : md_ar f = none) (hty : ((am_fl 9).getD [])[f]? = some (ty, false)) (hfit : am_fit ty (.int v) = true) (k : md_wp xs mo ad h0 d Q I (pc + 3) ls st (md_up1 M f v)) : md_wp xs mo ad h0 d Q I pc ls (.int v :: .ref mo :: st) M :=
  fun h hR hF => am_r hd rfl (show am_nx _ _ _ _ _ _ _ _ _ _ from ⟨mo, st, 9, f, .int v, _, (am_fl 9).getD [], ty, false, rfl, hb, md_get hR hf, rfl, hty, hfit, fun q => (Bool.noConfusion q), k _ (hR.up1 hD hf hn v).1 (hF.tr (hR.up1 hD hf hn v).2)⟩)
theorem md_iast {f n : Nat} {j x : Int32} (hD : md_D mo ad) (hd : decode I.2.1 pc = .ok (.iastore, 1)) (hn : md_ar f = some (.int, n)) (hj : vp_in j n) (k : md_wp xs mo ad h0 d Q I (pc + 1) ls st (md_up2 M f j.toNatClampNeg x)) : md_wp xs mo ad h0 d Q I pc ls (.int x :: .int j :: .ref (ad f) :: st) M :=
  fun h hR hF => am_r hd rfl (show am_nx _ _ _ _ _ _ _ _ _ _ from ⟨.int x, j, ad f, st, .int, _, .int x, rfl, hR.2 f _ _ hn, ⟨rfl, rfl, x, rfl⟩, (md_vin hj).1, by rw [md_cells_len]; exact (md_vin hj).2, k _ (hR.up2 hD hn (md_vin hj).2 x).1 (hF.tr (hR.up2 hD hn (md_vin hj).2 x).2)⟩)
theorem md_bast {f n : Nat} {j x : Int32} (hD : md_D mo ad) (hd : decode I.2.1 pc = .ok (.bastore, 1)) (hn : md_ar f = some (.byte, n)) (hj : vp_in j n) (k : md_wp xs mo ad h0 d Q I (pc + 1) ls st (md_up2 M f j.toNatClampNeg x.toInt8.toInt32)) : md_wp xs mo ad h0 d Q I pc ls (.int x :: .int j :: .ref (ad f) :: st) M :=
  fun h hR hF => am_r hd rfl (show am_nx _ _ _ _ _ _ _ _ _ _ from ⟨.int x, j, ad f, st, .byte, _, .int x.toInt8.toInt32, rfl, hR.2 f _ _ hn, ⟨x, rfl, Or.inl ⟨rfl, rfl⟩⟩, (md_vin hj).1, by rw [md_cells_len]; exact (md_vin hj).2, k _ (hR.up2 hD hn (md_vin hj).2 _).1 (hF.tr (hR.up2 hD hn (md_vin hj).2 _).2)⟩)
theorem md_zast {f n : Nat} {j x : Int32} (hD : md_D mo ad) (hd : decode I.2.1 pc = .ok (.bastore, 1)) (hn : md_ar f = some (.boolean, n)) (hj : vp_in j n) (k : md_wp xs mo ad h0 d Q I (pc + 1) ls st (md_up2 M f j.toNatClampNeg (x &&& 1))) : md_wp xs mo ad h0 d Q I pc ls (.int x :: .int j :: .ref (ad f) :: st) M :=
  fun h hR hF => am_r hd rfl (show am_nx _ _ _ _ _ _ _ _ _ _ from ⟨.int x, j, ad f, st, .boolean, _, .int (x &&& 1), rfl, hR.2 f _ _ hn, ⟨x, rfl, Or.inr ⟨rfl, rfl⟩⟩, (md_vin hj).1, by rw [md_cells_len]; exact (md_vin hj).2, k _ (hR.up2 hD hn (md_vin hj).2 _).1 (hF.tr (hR.up2 hD hn (md_vin hj).2 _).2)⟩)
theorem md_alen {f n : Nat} {ty : FieldType} (hd : decode I.2.1 pc = .ok (.arraylength, 1)) (hn : md_ar f = some (ty, n)) (hty : am_tyk ty) (k : md_wp xs mo ad h0 d Q I (pc + 1) ls (.int (Int32.ofNat n) :: st) M) : md_wp xs mo ad h0 d Q I pc ls (.ref (ad f) :: st) M :=
  fun h hR hF => am_r hd rfl (show am_nx _ _ _ _ _ _ _ _ _ _ from ⟨_, st, ty, _, rfl, md_arr hR hn, hty, by rw [md_cells_len]; exact k h hR hF⟩)
theorem md_tsw {dflt lo hi : Int} {offs : Array Int} {x : Int32} {tgt len : Nat} (hd : decode I.2.1 pc = .ok (.tableswitch dflt lo hi offs, len)) (ht : (x.toInt < lo ∨ hi < x.toInt) ∧ (pc : Int) + dflt = (tgt : Int) ∨ ¬ x.toInt < lo ∧ ¬ hi < x.toInt ∧ ∃ off, offs[(x.toInt - lo).toNat]? = some off ∧ (pc : Int) + off = (tgt : Int)) (k : md_wp xs mo ad h0 d Q I tgt ls st M) : md_wp xs mo ad h0 d Q I pc ls (.int x :: st) M :=
  fun h hR hF => am_r hd rfl (show am_nx _ _ _ _ _ _ _ _ _ _ from ⟨x, st, rfl, tgt, ht, k h hR hF⟩)
theorem md_call {idx mi n : Nat} {as : List Value} {J : am_I} (hd : decode I.2.1 pc = .ok (.invokevirtual idx, 3)) (hb : am_pool I.1 idx = (4, mi, n)) (hn : as.length = n) (hrl : rest.length ≤ 8) (hJ : (am_Bx xs).2.1 mi = some J) (hJ9 : J.1 = 9) (k : md_C xs mo ad d mi as M (fun v M' => md_wp xs mo ad h0 d Q I (pc + 3) ls (v.toList ++ rest) M')) (hst : st = as.reverse ++ .ref mo :: rest) : md_wp xs mo ad h0 d Q I pc ls st M :=
  fun h hR hF => am_r hd rfl (show am_nx _ _ _ _ _ _ _ _ _ _ from Or.inr ⟨mi, n, as, mo, rest, J, _, hb, hn, hst, hrl, hJ, by rw [hJ9]; exact hR.1, am_T_mono (fun v h' ⟨M', a, b, c⟩ => c h' a (hF.tr b)) (k h hR)⟩)
theorem md_calls {idx mi n : Nat} {as : List Value} (hd : decode I.2.1 pc = .ok (.invokestatic idx, 3)) (hb : am_pool I.1 idx = (5, mi, n)) (hn : as.length = n) (hrl : rest.length ≤ 8) (k : md_Cs xs d mi as (fun v => md_wp xs mo ad h0 d Q I (pc + 3) ls (v.toList ++ rest) M)) (hst : st = as.reverse ++ rest) : md_wp xs mo ad h0 d Q I pc ls st M :=
  fun h hR hF => am_r hd rfl (show am_nx _ _ _ _ _ _ _ _ _ _ from Or.inr (Or.inr (Or.inr ⟨mi, n, as, rest, hb, hn, hst, hrl, am_T_mono (fun v h' ⟨a, b⟩ => by subst a; exact b _ hR hF) (k h)⟩)))
theorem md_iret {x : Int32} (hd : decode I.2.1 pc = .ok (.ireturn, 1)) (ha : am_ans I.2.2.2.1 (some (.int x)) = true) (hQ : Q (some (.int x)) M) : md_wp xs mo ad h0 d Q I pc ls [.int x] M :=
  fun h hR hF => am_rr hd rfl ⟨some (.int x), rfl, ha, ⟨M, hR, hF, hQ⟩, Or.inr (Or.inl ⟨rfl, x, rfl⟩)⟩
theorem md_vret (hd : decode I.2.1 pc = .ok (.return_, 1)) (ha : am_ans I.2.2.2.1 none = true) (hQ : Q none M) : md_wp xs mo ad h0 d Q I pc ls [] M :=
  fun h hR hF => am_rr hd rfl ⟨none, rfl, ha, ⟨M, hR, hF, hQ⟩, Or.inl ⟨rfl, rfl⟩⟩
end MDW
