/-! the class's layer: depth; what lives together; rules by code (by hand: wip/whole/gen/c5.py) -/
theorem am_nx_T {B : am_B} {cn : Nat → String} {T T' : am_C} {I : am_I} {P : am_F → Prop} {pc : Nat} {ls : List (Option Value)} {st : List Value} {h : am_H} {i : Instr} (hT : ∀ m as h Q, T m as h Q → T' m as h Q) (hx : am_nx B cn T I P pc ls st h i) : am_nx B cn T' I P pc ls st h i := by
  cases i with
  | ifCond c off => cases c <;> exact hx
  | if_icmp c off => cases c <;> exact hx
  | if_acmp c off => cases c <;> exact hx
  | invokevirtual idx =>
    rcases hx with hx | ⟨m, n, as, b, rest, J, fs, h1, h2, h3, h4, h5, h6, h7⟩
    · exact Or.inl hx
    · exact Or.inr ⟨m, n, as, b, rest, J, fs, h1, h2, h3, h4, h5, h6, hT _ _ _ _ h7⟩
  | invokestatic idx =>
    rcases hx with hx | hx | hx | ⟨m, n, as, rest, h1, h2, h3, h4, h5⟩
    · exact Or.inl hx
    · exact Or.inr (Or.inl hx)
    · exact Or.inr (Or.inr (Or.inl hx))
    · exact Or.inr (Or.inr (Or.inr ⟨m, n, as, rest, h1, h2, h3, h4, hT _ _ _ _ h5⟩))
  | invokespecial idx =>
    rcases hx with hx | ⟨t, m, n, as, b, rest, h1, h2, h3, h4, h5, h6⟩
    · exact Or.inl hx
    · exact Or.inr ⟨t, m, n, as, b, rest, h1, h2, h3, h4, h5, hT _ _ _ _ h6⟩
  | _ => exact hx
theorem am_wp_T {B : am_B} {cn : Nat → String} {T T' : am_C} {Q : Option Value → am_H → Prop} {I : am_I} {F : am_F} (hT : ∀ m as h Q, T m as h Q → T' m as h Q) (hw : am_wp B cn T Q I F) : am_wp B cn T' Q I F := by
  intro P hP
  refine hw P (fun F' hF => hP F' ?_)
  obtain ⟨i, len, hd, hl, h⟩ := hF
  exact ⟨i, len, hd, hl, h.imp (am_nx_T hT) id⟩
theorem am_T_s {B : am_B} {cn : Nat → String} : ∀ (d m : Nat) (as : List Value) (h : am_H) (Q : Option Value → am_H → Prop), am_T B cn d m as h Q → am_T B cn (d + 1) m as h Q := by
  intro d
  induction d with
  | zero => intro m as h Q ht; exact ht.elim
  | succ d ih =>
    intro m as h Q ht
    obtain ⟨I, h1, h2, h3⟩ := ht
    exact ⟨I, h1, h2, am_wp_T ih h3⟩
/-- deeper is no harm -/
theorem am_T_le {B : am_B} {cn : Nat → String} {d d' m : Nat} {as : List Value} {h : am_H} {Q : Option Value → am_H → Prop} (hd : d ≤ d') (ht : am_T B cn d m as h Q) : am_T B cn d' m as h Q := by
  obtain ⟨n, rfl⟩ := Nat.exists_eq_add_of_le hd
  clear hd
  induction n with
  | zero => exact ht
  | succ n ih => exact am_T_s _ _ _ _ _ ih
theorem cl_C.le {xs : List Int32} {K : Nat → Prop} {d d' mi : Nat} {as : List Value} {A : cl_A} {S : cl_S} {Q : Option Value → cl_A → cl_S → Prop} (hd : d ≤ d') (h : cl_C xs K d mi as A S Q) : cl_C xs K d' mi as A S Q := fun hh hR => am_T_le hd (h hh hR)
theorem md_C.le {xs : List Int32} {mo : Nat} {ad : Nat → Nat} {d d' mi : Nat} {as : List Value} {M : md_S} {Q : Option Value → md_S → Prop} (hd : d ≤ d') (h : md_C xs mo ad d mi as M Q) : md_C xs mo ad d' mi as M Q := fun hh hR => am_T_le hd (h hh hR)
/-- a node lives, with its has and its box -/
def cl_n (S : cl_S) (x : Int32) : Prop := vp_in x 60 ∧ S.1 5 x.toNatClampNeg ∧ S.1 22 x.toNatClampNeg ∧ S.1 0 x.toNatClampNeg
/-- a flow lives, with its floats and its line -/
def cl_f (S : cl_S) (x : Int32) : Prop := vp_in x 13 ∧ S.1 2 x.toNatClampNeg ∧ S.1 1 x.toNatClampNeg ∧ S.1 4 x.toNatClampNeg
/-- a word lives, with its box -/
def cl_w (S : cl_S) (x : Int32) : Prop := vp_in x 3700 ∧ S.1 7 x.toNatClampNeg ∧ S.1 0 (60 + x.toNatClampNeg)
/-- what there is once -/
def cl_z (S : cl_S) : Prop := S.1 3 0 ∧ S.1 6 0 ∧ S.1 8 0 ∧ S.1 10 0 ∧ S.1 20 0 ∧ S.1 21 0 ∧ S.1 24 0
theorem cl_vne {x : Int32} {n : Nat} (h : vp_in x n) : ¬ x = -1 := fun e => (md_vin h).1 (by rw [e]; decide)
theorem cl_n.l5 {S : cl_S} {x : Int32} (h : cl_n S x) : cl_lv S 5 x := ⟨cl_vne h.1, h.2.1⟩
theorem cl_n.l22 {S : cl_S} {x : Int32} (h : cl_n S x) : cl_lv S 22 x := ⟨cl_vne h.1, h.2.2.1⟩
theorem cl_n.l0 {S : cl_S} {x : Int32} (h : cl_n S x) : cl_lv S 0 x := ⟨cl_vne h.1, h.2.2.2⟩
theorem cl_f.l2 {S : cl_S} {x : Int32} (h : cl_f S x) : cl_lv S 2 x := ⟨cl_vne h.1, h.2.1⟩
theorem cl_f.l1 {S : cl_S} {x : Int32} (h : cl_f S x) : cl_lv S 1 x := ⟨cl_vne h.1, h.2.2.1⟩
theorem cl_f.l4 {S : cl_S} {x : Int32} (h : cl_f S x) : cl_lv S 4 x := ⟨cl_vne h.1, h.2.2.2⟩
theorem cl_w.l7 {S : cl_S} {x : Int32} (h : cl_w S x) : cl_lv S 7 x := ⟨cl_vne h.1, h.2.1⟩
theorem cl_60 {x : Int32} (h : vp_in x 3700) : (60 + x).toNatClampNeg = 60 + x.toNatClampNeg ∧ ¬ 60 + x = -1 := by
  obtain ⟨i, hi, rfl⟩ := vp_in_of h (by decide)
  have e : (60 : Int32) + nI i = nI (60 + i) := by
    show nI 60 + nI i = _
    rw [nI_add]
  rw [e, nI_clamp (by omega), nI_clamp (by omega)]
  exact ⟨rfl, nI_ne_m1 (by omega)⟩
theorem cl_w.l0 {S : cl_S} {x : Int32} (h : cl_w S x) : cl_lv S 0 (60 + x) := ⟨(cl_60 h.1).2, by rw [(cl_60 h.1).1]; exact h.2.2⟩
theorem cl_z.l3 {S : cl_S} (h : cl_z S) : cl_lv S 3 0 := ⟨by decide, h.1⟩
theorem cl_z.l6 {S : cl_S} (h : cl_z S) : cl_lv S 6 0 := ⟨by decide, h.2.1⟩
theorem cl_z.l8 {S : cl_S} (h : cl_z S) : cl_lv S 8 0 := ⟨by decide, h.2.2.1⟩
theorem cl_z.l10 {S : cl_S} (h : cl_z S) : cl_lv S 10 0 := ⟨by decide, h.2.2.2.1⟩
theorem cl_z.l20 {S : cl_S} (h : cl_z S) : cl_lv S 20 0 := ⟨by decide, h.2.2.2.2.1⟩
theorem cl_z.l21 {S : cl_S} (h : cl_z S) : cl_lv S 21 0 := ⟨by decide, h.2.2.2.2.2.1⟩
theorem cl_z.l24 {S : cl_S} (h : cl_z S) : cl_lv S 24 0 := ⟨by decide, h.2.2.2.2.2.2⟩
section CLW
variable {xs : List Int32} {K : Nat → Prop} {h0 : am_H} {d : Nat} {Q : Option Value → cl_A → cl_S → Prop} {I : am_I} {pc : Nat} {ls : List (Option Value)} {st rest : List Value} {A : cl_A} {S : cl_S}
theorem cl_gI {idx t c k g : Nat} {v e : Int32} (hd : decode I.2.1 pc = .ok (.getfield idx, 3)) (hb : am_pool I.1 idx = (t, c, k)) (ht : t = 1 ∨ t = 2) (hc : c < 20) (hk : k < cl_nf c) (hf : cl_ft c k = (0, 0)) (hg : 100 * c + k = g) (hl : cl_lv S c v) (he : S.2.1 g v.toNatClampNeg = e) (kk : cl_wp xs K h0 d Q I (pc + 3) ls (.int e :: st) A S) : cl_wp xs K h0 d Q I pc ls (cl_rf A c v :: st) A S := by
  subst hg he
  exact cl_getI hd hb ht hc hk hf hl kk
theorem cl_gR {idx t c k g f : Nat} {v e : Int32} (hd : decode I.2.1 pc = .ok (.getfield idx, 3)) (hb : am_pool I.1 idx = (t, c, k)) (ht : t = 1 ∨ t = 2) (hc : c < 20) (hk : k < cl_nf c) (hf : cl_ft c k = (1, f)) (hg : 100 * c + k = g) (hl : cl_lv S c v) (he : S.2.1 g v.toNatClampNeg = e) (kk : cl_wp xs K h0 d Q I (pc + 3) ls (cl_rf A f e :: st) A S) : cl_wp xs K h0 d Q I pc ls (cl_rf A c v :: st) A S := by
  subst hg he
  exact cl_getR hd hb ht hc hk hf hl kk
/-- a word's box -/
theorem cl_gW {idx t : Nat} {v : Int32} (hd : decode I.2.1 pc = .ok (.getfield idx, 3)) (hb : am_pool I.1 idx = (t, 7, 3)) (ht : t = 1 ∨ t = 2) (hl : cl_w S v) (kk : cl_wp xs K h0 d Q I (pc + 3) ls (cl_rf A 0 (60 + v) :: st) A S) : cl_wp xs K h0 d Q I pc ls (cl_rf A 7 v :: st) A S :=
  fun h hR hF => by
    rw [cl_rf_lv hl.l7]
    have hg := cl_get hR hl.2.1 (c := 7) (k := 3) (by decide) (by decide)
    have e : cl_rf A 0 (60 + v) = .ref (A 0 (60 + v.toNatClampNeg)) := by
      rw [cl_rf_lv hl.l0, (cl_60 hl.1).1]
    have kk := kk h hR hF
    rw [e] at kk
    exact ax_getf hd hb ht hg kk
/-- a node's bytes: the constant array, or its own -/
def cl_by (A : cl_A) (x c : Int32) : Value := if c = -1 then .retAddr 1 else .ref (A 23 x.toNatClampNeg)
def cl_bn (S : cl_S) (x c : Int32) : Nat := if c = -1 then 0 else (S.2.1 2301 x.toNatClampNeg).toNatClampNeg
theorem cl_byR (A : cl_A) (x c : Int32) : am_isR (cl_by A x c) := by
  unfold cl_by
  split
  · exact Or.inr (Or.inr ⟨_, rfl⟩)
  · exact Or.inr (Or.inl ⟨_, rfl⟩)
theorem cl_gB {idx t : Nat} {v e : Int32} (hd : decode I.2.1 pc = .ok (.getfield idx, 3)) (hb : am_pool I.1 idx = (t, 5, 8)) (ht : t = 1 ∨ t = 2) (hl : cl_lv S 5 v) (he : S.2.1 508 v.toNatClampNeg = e) (kk : cl_wp xs K h0 d Q I (pc + 3) ls (cl_by A v e :: st) A S) : cl_wp xs K h0 d Q I pc ls (cl_rf A 5 v :: st) A S :=
  fun h hR hF => by
    subst he
    rw [cl_rf_lv hl]
    have hg := cl_get hR hl.2 (c := 5) (k := 8) (by decide) (by decide)
    exact ax_getf hd hb ht hg (kk h hR hF)
theorem cl_alB {i : Nat} {x c : Int32} (hd : decode I.2.1 pc = .ok (.aload i, 2)) (hx : ls[i]? = some (some (cl_by A x c))) (k : cl_wp xs K h0 d Q I (pc + 2) ls (cl_by A x c :: st) A S) : cl_wp xs K h0 d Q I pc ls (st) A S :=
  fun h hR hF => ax_aload hd hx (cl_byR _ _ _) (k h hR hF)
theorem cl_alB_n {i : Fin 4} {x c : Int32} (hd : decode I.2.1 pc = .ok (.aload_n i, 1)) (hx : ls[i.val]? = some (some (cl_by A x c))) (k : cl_wp xs K h0 d Q I (pc + 1) ls (cl_by A x c :: st) A S) : cl_wp xs K h0 d Q I pc ls (st) A S :=
  fun h hR hF => ax_aload_n hd hx (cl_byR _ _ _) (k h hR hF)
theorem cl_asB {i : Nat} {x c : Int32} (hd : decode I.2.1 pc = .ok (.astore i, 2)) (hx : i < ls.length) (k : cl_wp xs K h0 d Q I (pc + 2) (ls.set i (some (cl_by A x c))) (st) A S) : cl_wp xs K h0 d Q I pc ls (cl_by A x c :: st) A S :=
  fun h hR hF => ax_astore hd hx (cl_byR _ _ _) (k h hR hF)
theorem cl_asB_n {i : Fin 4} {x c : Int32} (hd : decode I.2.1 pc = .ok (.astore_n i, 1)) (hx : i.val < ls.length) (k : cl_wp xs K h0 d Q I (pc + 1) (ls.set i.val (some (cl_by A x c))) (st) A S) : cl_wp xs K h0 d Q I pc ls (cl_by A x c :: st) A S :=
  fun h hR hF => ax_astore_n hd hx (cl_byR _ _ _) (k h hR hF)
theorem cl_byArr {h : am_H} (hR : cl_R K A S h) {x c : Int32} (hl : ¬ c = -1 → S.1 23 x.toNatClampNeg) : am_arr (am_Bx xs) h (cl_by A x c) = some (.byte, (List.range (cl_bn S x c)).map (fun p => .int (S.2.1 2300 (120 * x.toNatClampNeg + p)))) := by
  by_cases hc : c = -1
  · unfold cl_by cl_bn
    rw [if_pos hc, if_pos hc]
    rfl
  · unfold cl_by cl_bn
    rw [if_neg hc, if_neg hc]
    have h0c := (hR.1 23 _ (hl hc)).1
    unfold am_arr
    simp only [h0c]
    rfl
theorem cl_blen {x c : Int32} (hd : decode I.2.1 pc = .ok (.arraylength, 1)) (hl : ¬ c = -1 → S.1 23 x.toNatClampNeg) (k : cl_wp xs K h0 d Q I (pc + 1) ls (.int (nI (cl_bn S x c)) :: st) A S) : cl_wp xs K h0 d Q I pc ls (cl_by A x c :: st) A S :=
  fun h hR hF => am_r hd rfl (show am_nx _ _ _ _ _ _ _ _ _ _ from ⟨_, st, _, _, rfl, cl_byArr hR hl, Or.inr (Or.inl rfl), by
    have := k h hR hF
    simp only [List.length_map, List.length_range]
    exact this⟩)
theorem cl_bld {x c p e : Int32} (hd : decode I.2.1 pc = .ok (.baload, 1)) (hl : ¬ c = -1 → S.1 23 x.toNatClampNeg) (hp : vp_in p (cl_bn S x c)) (he : S.2.1 2300 (120 * x.toNatClampNeg + p.toNatClampNeg) = e) (k : cl_wp xs K h0 d Q I (pc + 1) ls (.int e :: st) A S) : cl_wp xs K h0 d Q I pc ls (.int p :: cl_by A x c :: st) A S :=
  fun h hR hF => am_r hd rfl (show am_nx _ _ _ _ _ _ _ _ _ _ from ⟨p, _, st, _, _, _, rfl, cl_byArr hR hl, Or.inl rfl, (md_vin hp).1, by
    rw [List.getElem?_map, List.getElem?_range (md_vin hp).2]
    subst he
    rfl, k h hR hF⟩)
theorem cl_hs {v p e : Int32} {q : Nat} (hd : decode I.2.1 pc = .ok (.iaload, 1)) (hl : cl_lv S 22 v) (hp : vp_in p 9) (hq : p.toNatClampNeg = q) (he : S.2.1 2200 (9 * v.toNatClampNeg + q) = e) (k : cl_wp xs K h0 d Q I (pc + 1) ls (.int e :: st) A S) : cl_wp xs K h0 d Q I pc ls (.int p :: cl_rf A 22 v :: st) A S := by
  subst hq he
  exact cl_has hd hl hp k
theorem cl_pI {idx c k g : Nat} {v x : Int32} {ty : FieldType} (hd : decode I.2.1 pc = .ok (.putfield idx, 3)) (hb : am_pool I.1 idx = (1, c, k)) (hc : c < 20) (hk : k < cl_nf c) (hf : cl_ft c k = (0, 0)) (hts : (am_fl c).isSome = true) (hty : ((am_fl c).getD [])[k]? = some (ty, false)) (hfit : am_fit ty (.int x) = true) (hg : 100 * c + k = g) (hl : cl_lv S c v) (kk : cl_wp xs K h0 d Q I (pc + 3) ls st A (cl_up S g v.toNatClampNeg x)) : cl_wp xs K h0 d Q I pc ls (.int x :: cl_rf A c v :: st) A S := by
  subst hg
  exact cl_putI hd hb hc hk hf hts hty hfit hl kk
theorem cl_pR {idx c k g f : Nat} {v x : Int32} {ty : FieldType} (hd : decode I.2.1 pc = .ok (.putfield idx, 3)) (hb : am_pool I.1 idx = (1, c, k)) (hc : c < 20) (hk : k < cl_nf c) (hf : cl_ft c k = (1, f)) (hts : (am_fl c).isSome = true) (hty : ((am_fl c).getD [])[k]? = some (ty, false)) (hob : ∃ C, ty = .object C) (hg : 100 * c + k = g) (hl : cl_lv S c v) (kk : cl_wp xs K h0 d Q I (pc + 3) ls st A (cl_up S g v.toNatClampNeg x)) : cl_wp xs K h0 d Q I pc ls (cl_rf A f x :: cl_rf A c v :: st) A S := by
  subst hg
  exact cl_putR hd hb hc hk hf hts hty hob hl kk
theorem cl_rf_nc {A : cl_A} {g j : Nat} {v : Int32} (e : cl_rf A g v = .retAddr j) : False := by
  unfold cl_rf at e
  split at e <;> cases e
/-- nodes compared -/
theorem cl_rfI {h : am_H} (hR : cl_R K A S h) {v w : Int32} (hv : v = -1 ∨ cl_n S v) (hw : w = -1 ∨ cl_n S w) : cl_rf A 5 v = cl_rf A 5 w ↔ v = w := by
  refine ⟨fun e => ?_, fun e => by rw [e]⟩
  rcases hv with rfl | hv
  · exact (cl_rf_null.mp (e.symm.trans (cl_rf_null.mpr rfl))).symm
  · rcases hw with rfl | hw
    · exact cl_rf_null.mp (e.trans (cl_rf_null.mpr rfl))
    · rw [cl_rf_lv hv.l5, cl_rf_lv hw.l5] at e
      have := (hR.2.1 5 _ 5 _ hv.2.1 hw.2.1 (Value.ref.inj e)).2
      obtain ⟨i, hi, rfl⟩ := vp_in_of hv.1 (by decide)
      obtain ⟨j, hj, rfl⟩ := vp_in_of hw.1 (by decide)
      rw [nI_clamp (by omega), nI_clamp (by omega)] at this
      rw [this]
theorem cl_acmp_eq {v w : Int32} {off : Int} {tgt : Nat} (hd : decode I.2.1 pc = .ok (.if_acmp .eq off, 3)) (ht : (pc : Int) + off = (tgt : Int)) (hv : v = -1 ∨ cl_n S v) (hw : w = -1 ∨ cl_n S w) (k1 : v = w → cl_wp xs K h0 d Q I tgt ls st A S) (k2 : ¬ (v = w) → cl_wp xs K h0 d Q I (pc + 3) ls st A S) : cl_wp xs K h0 d Q I pc ls (cl_rf A 5 w :: cl_rf A 5 v :: st) A S :=
  fun h hR hF => am_r hd rfl (show am_nx _ _ _ _ _ _ _ _ _ _ from ⟨_, _, st, rfl, ⟨cl_isR _ _ _, cl_isR _ _ _, Or.inr ⟨fun ⟨i, j, e, _⟩ => cl_rf_nc e, fun j e => e.elim (fun e => (cl_rf_nc e).elim) (fun e => (cl_rf_nc e).elim)⟩⟩, tgt, ht, fun q => k1 ((cl_rfI hR hv hw).mp q) h hR hF, fun q => k2 (fun e => q ((cl_rfI hR hv hw).mpr e)) h hR hF⟩)
theorem cl_acmp_ne {v w : Int32} {off : Int} {tgt : Nat} (hd : decode I.2.1 pc = .ok (.if_acmp .ne off, 3)) (ht : (pc : Int) + off = (tgt : Int)) (hv : v = -1 ∨ cl_n S v) (hw : w = -1 ∨ cl_n S w) (k1 : ¬ v = w → cl_wp xs K h0 d Q I tgt ls st A S) (k2 : ¬ (¬ v = w) → cl_wp xs K h0 d Q I (pc + 3) ls st A S) : cl_wp xs K h0 d Q I pc ls (cl_rf A 5 w :: cl_rf A 5 v :: st) A S :=
  fun h hR hF => am_r hd rfl (show am_nx _ _ _ _ _ _ _ _ _ _ from ⟨_, _, st, rfl, ⟨cl_isR _ _ _, cl_isR _ _ _, Or.inr ⟨fun ⟨i, j, e, _⟩ => cl_rf_nc e, fun j e => e.elim (fun e => (cl_rf_nc e).elim) (fun e => (cl_rf_nc e).elim)⟩⟩, tgt, ht, fun q => k1 (fun e => q ((cl_rfI hR hv hw).mpr e)) h hR hF, fun q => k2 (fun e => q (fun e2 => e ((cl_rfI hR hv hw).mp e2))) h hR hF⟩)
theorem cl_tsw {dflt lo hi : Int} {offs : Array Int} {x : Int32} {tgt len : Nat} (hd : decode I.2.1 pc = .ok (.tableswitch dflt lo hi offs, len)) (ht : (x.toInt < lo ∨ hi < x.toInt) ∧ (pc : Int) + dflt = (tgt : Int) ∨ ¬ x.toInt < lo ∧ ¬ hi < x.toInt ∧ ∃ off, offs[(x.toInt - lo).toNat]? = some off ∧ (pc : Int) + off = (tgt : Int)) (k : cl_wp xs K h0 d Q I tgt ls st A S) : cl_wp xs K h0 d Q I pc ls (.int x :: st) A S :=
  fun h hR hF => am_r hd rfl (show am_nx _ _ _ _ _ _ _ _ _ _ from ⟨x, st, rfl, tgt, ht, k h hR hF⟩)
/-- nodes and flows by number -/
theorem cl_ndv {p e : Int32} (hd : decode I.2.1 pc = .ok (.aaload, 1)) (hz : cl_z S) (hp : vp_in p 60) (he : S.2.1 2100 p.toNatClampNeg = e) (k : cl_wp xs K h0 d Q I (pc + 1) ls (cl_rf A 5 e :: st) A S) : cl_wp xs K h0 d Q I pc ls (.int p :: cl_rf A 21 0 :: st) A S := by
  subst he
  exact cl_aald (f := 21) (g := 5) hd (by decide) hz.l21 ⟨_, by decide, rfl⟩ (md_vin hp).1 (by
    show ((List.range 60).map (fun q => cl_rf A 5 (S.2.1 2100 q)))[p.toNatClampNeg]? = _
    rw [List.getElem?_map, List.getElem?_range (md_vin hp).2]
    rfl) k
theorem cl_flv {p : Int32} (hd : decode I.2.1 pc = .ok (.aaload, 1)) (hz : cl_z S) (hp : vp_in p 13) (k : cl_wp xs K h0 d Q I (pc + 1) ls (cl_rf A 2 p :: st) A S) : cl_wp xs K h0 d Q I pc ls (.int p :: cl_rf A 24 0 :: st) A S :=
  cl_aald (f := 24) (g := 2) hd (by decide) hz.l24 ⟨_, by decide, rfl⟩ (md_vin hp).1 (by
    show ((List.range 13).map (fun q => Value.ref (A 2 q)))[p.toNatClampNeg]? = _
    rw [List.getElem?_map, List.getElem?_range (md_vin hp).2]
    unfold cl_rf
    rw [if_neg (cl_vne hp)]
    rfl) k
theorem cl_len {f n : Nat} (hd : decode I.2.1 pc = .ok (.arraylength, 1)) (hf : ¬ f < 20) (hl : cl_lv S f 0) (ht : am_tyk (cl_ar A S f 0).1) (hn : (cl_ar A S f 0).2.length = n) (k : cl_wp xs K h0 d Q I (pc + 1) ls (.int (nI n) :: st) A S) : cl_wp xs K h0 d Q I pc ls (cl_rf A f 0 :: st) A S :=
  cl_alen hd hf hl ht hn k
theorem cl_len22 {v : Int32} (hd : decode I.2.1 pc = .ok (.arraylength, 1)) (hl : cl_lv S 22 v) (k : cl_wp xs K h0 d Q I (pc + 1) ls (.int 9 :: st) A S) : cl_wp xs K h0 d Q I pc ls (cl_rf A 22 v :: st) A S :=
  cl_alen (n := 9) hd (by decide) hl (Or.inl rfl) (by show ((List.range 9).map _).length = 9; simp) k
end CLW
