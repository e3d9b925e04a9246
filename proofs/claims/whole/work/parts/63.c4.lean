/-! the class's layer: arrays read (by hand: wip/whole/gen/c4.py) -/
section CLY
variable {xs : List Int32} {K : Nat → Prop} {h0 : am_H} {d : Nat} {Q : Option Value → cl_A → cl_S → Prop} {I : am_I} {pc : Nat} {ls : List (Option Value)} {st rest : List Value} {A : cl_A} {S : cl_S}
theorem cl_arr {h : am_H} (hR : cl_R K A S h) {f : Nat} {v : Int32} (hf : ¬ f < 20) (hl : cl_lv S f v) : am_arr (am_Bx xs) h (cl_rf A f v) = some (cl_ar A S f v.toNatClampNeg) := by
  rw [cl_rf_lv hl]
  have h0c := (hR.1 f _ hl.2).1
  unfold cl_cell at h0c
  rw [if_neg hf] at h0c
  unfold am_arr
  simp only [h0c]
theorem cl_alen {f n : Nat} {v : Int32} (hd : decode I.2.1 pc = .ok (.arraylength, 1)) (hf : ¬ f < 20) (hl : cl_lv S f v) (ht : am_tyk (cl_ar A S f v.toNatClampNeg).1) (hn : (cl_ar A S f v.toNatClampNeg).2.length = n) (k : cl_wp xs K h0 d Q I (pc + 1) ls (.int (Int32.ofNat n) :: st) A S) : cl_wp xs K h0 d Q I pc ls (cl_rf A f v :: st) A S :=
  fun h hR hF => am_r hd rfl (show am_nx _ _ _ _ _ _ _ _ _ _ from ⟨_, st, (cl_ar A S f v.toNatClampNeg).1, (cl_ar A S f v.toNatClampNeg).2, rfl, cl_arr hR hf hl, ht, by subst hn; exact k h hR hF⟩)
theorem cl_bald {f : Nat} {v p x : Int32} (hd : decode I.2.1 pc = .ok (.baload, 1)) (hf : ¬ f < 20) (hl : cl_lv S f v) (ht : (cl_ar A S f v.toNatClampNeg).1 = .byte) (hp : ¬ p < 0) (hx : (cl_ar A S f v.toNatClampNeg).2[p.toNatClampNeg]? = some (.int x)) (k : cl_wp xs K h0 d Q I (pc + 1) ls (.int x :: st) A S) : cl_wp xs K h0 d Q I pc ls (.int p :: cl_rf A f v :: st) A S :=
  fun h hR hF => am_r hd rfl (show am_nx _ _ _ _ _ _ _ _ _ _ from ⟨p, _, st, _, _, _, rfl, cl_arr hR hf hl, Or.inl ht, hp, hx, k h hR hF⟩)
theorem cl_aald {f g : Nat} {v p x : Int32} (hd : decode I.2.1 pc = .ok (.aaload, 1)) (hf : ¬ f < 20) (hl : cl_lv S f v) (ht : ∃ C, C ∈ am_refs ∧ (cl_ar A S f v.toNatClampNeg).1 = .object C) (hp : ¬ p < 0) (hx : (cl_ar A S f v.toNatClampNeg).2[p.toNatClampNeg]? = some (cl_rf A g x)) (k : cl_wp xs K h0 d Q I (pc + 1) ls (cl_rf A g x :: st) A S) : cl_wp xs K h0 d Q I pc ls (.int p :: cl_rf A f v :: st) A S :=
  fun h hR hF => am_r hd rfl (show am_nx _ _ _ _ _ _ _ _ _ _ from ⟨p, _, st, _, _, _, rfl, cl_arr hR hf hl, ht, hp, hx, k h hR hF⟩)
end CLY
