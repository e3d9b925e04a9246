/-! the class's layer: calls, Math, arrays (by hand: wip/whole/gen/c3.py) -/
section CLX
variable {xs : List Int32} {K : Nat → Prop} {h0 : am_H} {d : Nat} {Q : Option Value → cl_A → cl_S → Prop} {I : am_I} {pc : Nat} {ls : List (Option Value)} {st rest : List Value} {A : cl_A} {S : cl_S}
theorem cl_aret {g : Nat} {v : Int32} (hd : decode I.2.1 pc = .ok (.areturn, 1)) (ha : ∃ C, I.2.2.2.1 = some (.object C)) (hQ : Q (some (cl_rf A g v)) A S) : cl_wp xs K h0 d Q I pc ls [cl_rf A g v] A S :=
  fun h hR hF => by
    refine am_rr hd rfl ⟨some (cl_rf A g v), rfl, ?_, ⟨A, S, hR, hF, hQ⟩, Or.inr (Or.inr ⟨rfl, _, rfl, cl_isR _ _ _⟩)⟩
    obtain ⟨C, e⟩ := ha
    rw [e]
    unfold cl_rf
    split <;> rfl
theorem cl_call {idx mi n c : Nat} {v : Int32} {as : List Value} {J : am_I} (hd : decode I.2.1 pc = .ok (.invokevirtual idx, 3)) (hb : am_pool I.1 idx = (4, mi, n)) (hn : as.length = n) (hrl : rest.length ≤ 8) (hJ : (am_Bx xs).2.1 mi = some J) (hJc : J.1 = c) (hc20 : c < 20) (hl : cl_lv S c v) (hc : cl_C xs K d mi (cl_rf A c v :: as) A S (fun r A' S' => cl_wp xs K h0 d Q I (pc + 3) ls (r.toList ++ rest) A' S')) (hst : st = as.reverse ++ cl_rf A c v :: rest) : cl_wp xs K h0 d Q I pc ls st A S :=
  fun h hR hF => by
    subst hst
    have e := cl_rf_lv (A := A) hl
    have h0c := (hR.1 c _ hl.2).1
    have hcell : cl_cell A S c v.toNatClampNeg = .inl (c, (List.range (cl_nf c)).map (fun k => cl_fv A S c k v.toNatClampNeg)) := by unfold cl_cell; rw [if_pos hc20]
    rw [hcell] at h0c
    have hcc := hc h hR
    rw [e] at hcc ⊢
    subst hJc
    refine am_r hd rfl (show am_nx _ _ _ _ _ _ _ _ _ _ from Or.inr ⟨mi, n, as, _, rest, J, _, hb, hn, rfl, hrl, hJ, h0c, ?_⟩)
    exact am_T_mono (fun r h' ⟨A', S', a, b, q⟩ => q h' a (hF.tr b)) hcc
theorem cl_calls {idx mi n : Nat} {as : List Value} (hd : decode I.2.1 pc = .ok (.invokestatic idx, 3)) (hb : am_pool I.1 idx = (5, mi, n)) (hn : as.length = n) (hrl : rest.length ≤ 8) (hc : cl_C xs K d mi as A S (fun r A' S' => cl_wp xs K h0 d Q I (pc + 3) ls (r.toList ++ rest) A' S')) (hst : st = as.reverse ++ rest) : cl_wp xs K h0 d Q I pc ls st A S :=
  fun h hR hF => by
    subst hst
    refine am_r hd rfl (show am_nx _ _ _ _ _ _ _ _ _ _ from Or.inr (Or.inr (Or.inr ⟨mi, n, as, rest, hb, hn, rfl, hrl, ?_⟩)))
    exact am_T_mono (fun r h' ⟨A', S', a, b, q⟩ => q h' a (hF.tr b)) (hc h hR)
theorem cl_max {idx x y : Nat} {a b : Int32} (hd : decode I.2.1 pc = .ok (.invokestatic idx, 3)) (hb : am_pool I.1 idx = (16, x, y)) (hrl : st.length ≤ 8) (k : cl_wp xs K h0 d Q I (pc + 3) ls (.int (if a < b then b else a) :: st) A S) : cl_wp xs K h0 d Q I pc ls (.int b :: .int a :: st) A S :=
  fun h hR hF => am_r hd rfl (show am_nx _ _ _ _ _ _ _ _ _ _ from Or.inr (Or.inl ⟨a, b, st, x, y, hb, rfl, hrl, k h hR hF⟩))
theorem cl_min {idx x y : Nat} {a b : Int32} (hd : decode I.2.1 pc = .ok (.invokestatic idx, 3)) (hb : am_pool I.1 idx = (17, x, y)) (hrl : st.length ≤ 8) (k : cl_wp xs K h0 d Q I (pc + 3) ls (.int (if b < a then b else a) :: st) A S) : cl_wp xs K h0 d Q I pc ls (.int b :: .int a :: st) A S :=
  fun h hR hF => am_r hd rfl (show am_nx _ _ _ _ _ _ _ _ _ _ from Or.inr (Or.inr (Or.inl ⟨a, b, st, x, y, hb, rfl, hrl, k h hR hF⟩)))
/-- what a node has -/
theorem cl_has {v p : Int32} (hd : decode I.2.1 pc = .ok (.iaload, 1)) (hl : cl_lv S 22 v) (hp : vp_in p 9) (k : cl_wp xs K h0 d Q I (pc + 1) ls (.int (S.2.1 2200 (9 * v.toNatClampNeg + p.toNatClampNeg)) :: st) A S) : cl_wp xs K h0 d Q I pc ls (.int p :: cl_rf A 22 v :: st) A S :=
  fun h hR hF => by
    rw [cl_rf_lv hl]
    have h0c := (hR.1 22 _ hl.2).1
    have hcell : cl_cell A S 22 v.toNatClampNeg = .inr (.int, (List.range 9).map (fun q => .int (S.2.1 2200 (9 * v.toNatClampNeg + q)))) := rfl
    rw [hcell] at h0c
    have ha : am_arr (am_Bx xs) h (.ref (A 22 v.toNatClampNeg)) = some (.int, (List.range 9).map (fun q => .int (S.2.1 2200 (9 * v.toNatClampNeg + q)))) := by
      unfold am_arr
      simp only [h0c]
    have hg : ((List.range 9).map (fun q => Value.int (S.2.1 2200 (9 * v.toNatClampNeg + q))))[p.toNatClampNeg]? = some (.int (S.2.1 2200 (9 * v.toNatClampNeg + p.toNatClampNeg))) := by
      have := (md_vin hp).2
      simp [this]
    exact am_r hd rfl (show am_nx _ _ _ _ _ _ _ _ _ _ from ⟨p, _, st, .int, _, _, rfl, ha, rfl, (md_vin hp).1, hg, k h hR hF⟩)
end CLX
