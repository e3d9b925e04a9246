/-! the class: stores into arrays (by hand: wip/whole/gen/c50.py) -/
theorem cl_R.aset {K : Nat → Prop} {A : cl_A} {S S' : cl_S} {h : am_H} {f i : Nat} (hR : cl_R K A S h) (hl : S.1 f i) (h1 : S'.1 = S.1) (h2 : S'.2.2 = S.2.2) (hc : ∀ g j, ¬ (g = f ∧ j = i) → S.1 g j → cl_cell A S' g j = cl_cell A S g j) (hz : am_sz (cl_cell A S' f i) = am_sz (cl_cell A S f i)) : cl_R K A S' (h.set (A f i) (cl_cell A S' f i)) ∧ cl_Fr K h (h.set (A f i) (cl_cell A S' f i)) := by
  have h0 := (hR.1 f i hl).1
  have hlt : A f i < h.length := (List.getElem?_eq_some_iff.mp h0).1
  refine ⟨⟨fun g j hg => ?_, fun g j g' j' hg hg' e => ?_, by rw [List.length_set, h2]; exact hR.2.2.1, by rw [am_sl_set h _ _ _ h0 hz, h2]; exact hR.2.2.2⟩, by rw [List.length_set]; exact Nat.le_refl _, fun a ha => List.getElem?_set_ne (fun q => (hR.1 f i hl).2 (by rw [q]; exact ha))⟩
  · rw [h1] at hg
    refine ⟨?_, (hR.1 g j hg).2⟩
    by_cases c : g = f ∧ j = i
    · obtain ⟨rfl, rfl⟩ := c
      rw [List.getElem?_set_self hlt]
    · rw [List.getElem?_set_ne (fun q => c (by
        have := hR.2.1 f i g j hl hg q
        exact ⟨this.1.symm, this.2.symm⟩)), hc g j c hg]
      exact (hR.1 g j hg).1
  · rw [h1] at hg hg'
    exact hR.2.1 g j g' j' hg hg' e
theorem map_set {n p : Nat} {F G : Nat → Value} (hp : p < n) (h : ∀ q, ¬ q = p → G q = F q) : (List.range n).map G = ((List.range n).map F).set p (G p) := by
  apply List.ext_getElem?
  intro q
  by_cases c : q = p
  · subst c
    rw [List.getElem?_set_self (by simpa using hp)]
    simp [hp]
  · rw [List.getElem?_set_ne (Ne.symm c), List.getElem?_map, List.getElem?_map]
    by_cases hq : q < n
    · rw [List.getElem?_range hq]
      simp [h q c]
    · rw [List.getElem?_eq_none (by simp; omega)]
      rfl
/-- a code of an array is seen in no object, and in no other array -/
theorem cell_aup {A : cl_A} {S : cl_S} {c ix : Nat} {v : Int32} (hc : c = 2000 ∨ c = 2100 ∨ c = 2200) {g j : Nat} (h : ∀ p, g = 22 → c = 2200 → p < 9 → ¬ 9 * j + p = ix) (h20 : c = 2000 → ¬ g = 20) (h21 : c = 2100 → ¬ g = 21) : cl_cell A (cl_up S c ix v) g j = cl_cell A S g j := by
  unfold cl_cell
  by_cases hf : g < 20
  · rw [if_pos hf, if_pos hf]
    congr 2
    apply List.map_congr_left
    intro k hk
    have hk16 : k < 16 := Nat.lt_of_lt_of_le (List.mem_range.mp hk) (cl_nf_le g)
    unfold cl_fv
    rw [cl_up_off]
    rintro ⟨e1, e2⟩
    omega
  · rw [if_neg hf, if_neg hf]
    congr 1
    have e : ∀ g' j', ¬ g' = c → (cl_up S c ix v).2.1 g' j' = S.2.1 g' j' := fun g' j' hg => cl_up_off S v (fun q => hg q.1)
    unfold cl_ar
    split
    · have : ¬ c = 2000 := fun q => h20 q rfl
      simp only [e 2000 _ (Ne.symm this)]
    · have : ¬ c = 2100 := fun q => h21 q rfl
      simp only [e 2100 _ (Ne.symm this)]
    · congr 1
      apply List.map_congr_left
      intro p hp
      rw [cl_up_off]
      rintro ⟨e1, e2⟩
      exact h p rfl e1.symm (List.mem_range.mp hp) e2
    · simp only [e 2300 _ (by omega), e 2301 _ (by omega)]
    · rfl
    · simp only [e 2500 _ (by omega), e 2501 _ (by omega)]
section CLQ
variable {xs : List Int32} {K : Nat → Prop} {h0 : am_H} {d : Nat} {Q : Option Value → cl_A → cl_S → Prop} {I : am_I} {pc : Nat} {ls : List (Option Value)} {st : List Value} {A : cl_A} {S : cl_S}
theorem cl_ias {v p w : Int32} (hd : decode I.2.1 pc = .ok (.iastore, 1)) (hl : cl_lv S 22 v) (hp : vp_in p 9) (k : cl_wp xs K h0 d Q I (pc + 1) ls st A (cl_up S 2200 (9 * v.toNatClampNeg + p.toNatClampNeg) w)) : cl_wp xs K h0 d Q I pc ls (.int w :: .int p :: cl_rf A 22 v :: st) A S := by
  intro h hR hF
  rw [cl_rf_lv hl]
  obtain ⟨n, hn, rfl⟩ := vp_in_of hp (by decide)
  have cn : (nI n).toNatClampNeg = n := nI_clamp (by omega)
  rw [cn] at k
  have h0c := (hR.1 22 _ hl.2).1
  obtain ⟨r1, r2⟩ := hR.aset (S' := cl_up S 2200 (9 * v.toNatClampNeg + n) w) hl.2 rfl rfl (fun g j hgj _ => cell_aup (Or.inr (Or.inr rfl)) (fun q e1 _ hq e2 => hgj ⟨e1, by omega⟩) (fun q => absurd q (by decide)) (fun q => absurd q (by decide))) (by simp [cl_cell, cl_ar, am_sz])
  have hcell : cl_cell A (cl_up S 2200 (9 * v.toNatClampNeg + n) w) 22 v.toNatClampNeg = .inr (.int, ((List.range 9).map (fun p => Value.int (S.2.1 2200 (9 * v.toNatClampNeg + p)))).set n (.int w)) := by
    unfold cl_cell
    rw [if_neg (by decide)]
    show Sum.inr (FieldType.int, (List.range 9).map (fun p => Value.int ((cl_up S 2200 (9 * v.toNatClampNeg + n) w).2.1 2200 (9 * v.toNatClampNeg + p)))) = _
    rw [map_set (F := fun p => Value.int (S.2.1 2200 (9 * v.toNatClampNeg + p))) hn (fun q hq => by rw [cl_up_off]; rintro ⟨_, e⟩; omega), cl_up_at]
  rw [hcell] at r1 r2
  have hv : h[A 22 v.toNatClampNeg]? = some (.inr (.int, (List.range 9).map (fun p => Value.int (S.2.1 2200 (9 * v.toNatClampNeg + p))))) := by
    rw [h0c]
    rfl
  have hlt : (nI n).toNatClampNeg < ((List.range 9).map (fun p => Value.int (S.2.1 2200 (9 * v.toNatClampNeg + p)))).length := by
    rw [cn, List.length_map, List.length_range]
    exact hn
  have hk := k _ r1 (hF.tr r2)
  generalize (List.range 9).map (fun p => Value.int (S.2.1 2200 (9 * v.toNatClampNeg + p))) = vs at hv hlt hk
  rw [← cn] at hk
  exact am_r hd rfl (show am_nx _ _ _ _ _ _ _ _ _ _ from ⟨.int w, nI n, _, st, .int, vs, .int w, rfl, hv, ⟨rfl, rfl, w, rfl⟩, nI_pos (by omega), hlt, hk⟩)
theorem cl_bas {p w : Int32} (hd : decode I.2.1 pc = .ok (.bastore, 1)) (hl : cl_z S) (h1 : ∀ j, S.1 20 j → j = 0) (hp : vp_in p 400) (k : cl_wp xs K h0 d Q I (pc + 1) ls st A (cl_up S 2000 p.toNatClampNeg w.toInt8.toInt32)) : cl_wp xs K h0 d Q I pc ls (.int w :: .int p :: cl_rf A 20 0 :: st) A S := by
  intro h hR hF
  have hl0 : S.1 20 0 := hl.2.2.2.2.1
  have erf : cl_rf A 20 0 = .ref (A 20 0) := by
    unfold cl_rf
    rw [if_neg (by decide)]
    rfl
  rw [erf]
  obtain ⟨n, hn, rfl⟩ := vp_in_of hp (by decide)
  have cn : (nI n).toNatClampNeg = n := nI_clamp (by omega)
  rw [cn] at k
  have h0c := (hR.1 20 0 hl0).1
  obtain ⟨r1, r2⟩ := hR.aset (S' := cl_up S 2000 n w.toInt8.toInt32) (f := 20) (i := 0) hl0 rfl rfl (fun g j hgj hlv => cell_aup (Or.inl rfl) (fun q _ e => absurd e (by decide)) (fun _ c => by
    subst c
    exact hgj ⟨rfl, h1 j hlv⟩) (fun q => absurd q (by decide))) (by simp [cl_cell, cl_ar, am_sz])
  have hcell : cl_cell A (cl_up S 2000 n w.toInt8.toInt32) 20 0 = .inr (.byte, ((List.range 400).map (fun p => Value.int (S.2.1 2000 p))).set n (.int w.toInt8.toInt32)) := by
    unfold cl_cell
    rw [if_neg (by decide)]
    show Sum.inr (FieldType.byte, (List.range 400).map (fun p => Value.int ((cl_up S 2000 n w.toInt8.toInt32).2.1 2000 p))) = _
    rw [map_set (F := fun p => Value.int (S.2.1 2000 p)) hn (fun q hq => by rw [cl_up_off]; rintro ⟨_, e⟩; omega), cl_up_at]
  rw [hcell] at r1 r2
  have hv : h[A 20 0]? = some (.inr (.byte, (List.range 400).map (fun p => Value.int (S.2.1 2000 p)))) := by
    rw [h0c]
    rfl
  have hlt : (nI n).toNatClampNeg < ((List.range 400).map (fun p => Value.int (S.2.1 2000 p))).length := by
    rw [cn, List.length_map, List.length_range]
    exact hn
  have hk := k _ r1 (hF.tr r2)
  generalize (List.range 400).map (fun p => Value.int (S.2.1 2000 p)) = vs at hv hlt hk
  rw [← cn] at hk
  exact am_r hd rfl (show am_nx _ _ _ _ _ _ _ _ _ _ from ⟨.int w, nI n, _, st, .byte, vs, .int w.toInt8.toInt32, rfl, hv, ⟨w, rfl, Or.inl ⟨rfl, rfl⟩⟩, nI_pos (by omega), hlt, hk⟩)
theorem cl_aas {p c : Int32} (hd : decode I.2.1 pc = .ok (.aastore, 1)) (hl : cl_z S) (h1 : ∀ j, S.1 21 j → j = 0) (hp : vp_in p 60) (hc : c = -1 ∨ S.1 5 c.toNatClampNeg) (k : cl_wp xs K h0 d Q I (pc + 1) ls st A (cl_up S 2100 p.toNatClampNeg c)) : cl_wp xs K h0 d Q I pc ls (cl_rf A 5 c :: .int p :: cl_rf A 21 0 :: st) A S := by
  intro h hR hF
  have hl0 : S.1 21 0 := hl.2.2.2.2.2.1
  have erf : cl_rf A 21 0 = .ref (A 21 0) := by
    unfold cl_rf
    rw [if_neg (by decide)]
    rfl
  rw [erf]
  obtain ⟨n, hn, rfl⟩ := vp_in_of hp (by decide)
  have cn : (nI n).toNatClampNeg = n := nI_clamp (by omega)
  rw [cn] at k
  have h0c := (hR.1 21 0 hl0).1
  have hinto : am_into am_nm h (.object "LineFlow$Node") (cl_rf A 5 c) (cl_rf A 5 c) := by
    refine ⟨rfl, "LineFlow$Node", by decide, rfl, ?_⟩
    by_cases e : c = -1
    · left
      unfold cl_rf
      rw [if_pos e]
    · right
      rcases hc with q | q
      · exact absurd q e
      · have h5 := (hR.1 5 _ q).1
        unfold cl_cell at h5
        rw [if_pos (by decide)] at h5
        refine ⟨A 5 c.toNatClampNeg, 5, _, ?_, h5, Or.inl rfl⟩
        unfold cl_rf
        rw [if_neg e]
  obtain ⟨r1, r2⟩ := hR.aset (S' := cl_up S 2100 n c) (f := 21) (i := 0) hl0 rfl rfl (fun g j hgj hlv => cell_aup (Or.inr (Or.inl rfl)) (fun q _ e => absurd e (by decide)) (fun q => absurd q (by decide)) (fun _ c => by
    subst c
    exact hgj ⟨rfl, h1 j hlv⟩)) (by simp [cl_cell, cl_ar, am_sz])
  have hcell : cl_cell A (cl_up S 2100 n c) 21 0 = .inr (.object "LineFlow$Node", ((List.range 60).map (fun p => cl_rf A 5 (S.2.1 2100 p))).set n (cl_rf A 5 c)) := by
    unfold cl_cell
    rw [if_neg (by decide)]
    show Sum.inr (FieldType.object "LineFlow$Node", (List.range 60).map (fun p => cl_rf A 5 ((cl_up S 2100 n c).2.1 2100 p))) = _
    rw [map_set (F := fun p => cl_rf A 5 (S.2.1 2100 p)) hn (fun q hq => by rw [cl_up_off]; rintro ⟨_, e⟩; omega), cl_up_at]
  rw [hcell] at r1 r2
  have hv : h[A 21 0]? = some (.inr (.object "LineFlow$Node", (List.range 60).map (fun p => cl_rf A 5 (S.2.1 2100 p)))) := by
    rw [h0c]
    rfl
  have hlt : (nI n).toNatClampNeg < ((List.range 60).map (fun p => cl_rf A 5 (S.2.1 2100 p))).length := by
    rw [cn, List.length_map, List.length_range]
    exact hn
  have hk := k _ r1 (hF.tr r2)
  generalize (List.range 60).map (fun p => cl_rf A 5 (S.2.1 2100 p)) = vs at hv hlt hk
  rw [← cn] at hk
  exact am_r hd rfl (show am_nx _ _ _ _ _ _ _ _ _ _ from ⟨cl_rf A 5 c, nI n, _, st, .object "LineFlow$Node", vs, cl_rf A 5 c, rfl, hv, hinto, nI_pos (by omega), hlt, hk⟩)
end CLQ
