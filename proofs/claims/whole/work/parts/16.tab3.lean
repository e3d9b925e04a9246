/-! the tables are as the small machine asks -/
theorem am_ckC_all : ∀ c, c < 11 → am_ckC c = true := by
  intro c hc
  match c, hc with
  | 0, _ => exact am_ckC0
  | 1, _ => exact am_ckC1
  | 2, _ => exact am_ckC2
  | 3, _ => exact am_ckC3
  | 4, _ => exact am_ckC4
  | 5, _ => exact am_ckC5
  | 6, _ => exact am_ckC6
  | 7, _ => exact am_ckC7
  | 8, _ => exact am_ckC8
  | 9, _ => exact am_ckC9
  | 10, _ => exact am_ckC10
  | c + 11, h => exact absurd h (by omega)
theorem am_ckP_all : ∀ o, am_ckP o = true := by
  intro o
  match o with
  | 0 => exact am_ckP0
  | 1 => exact am_ckP1
  | 2 => exact am_ckP2
  | 3 => exact am_ckP3
  | 4 => exact am_ckP4
  | 5 => exact am_ckP5
  | 6 => exact am_ckP6
  | 7 => exact am_ckP7
  | 8 => exact am_ckP8
  | 9 => exact am_ckP9
  | 10 => exact am_ckP10
  | 11 => exact am_ckP11
  | 12 => exact am_ckP12
  | 13 => exact am_ckP13
  | 14 => exact am_ckP14
  | 15 => exact am_ckP15
  | 16 => exact am_ckP16
  | 17 => exact am_ckP17
  | 18 => exact am_ckP18
  | 19 => exact am_ckP19
  | 20 => exact am_ckP20
  | o + 21 => rfl
theorem am_ckM_all : ∀ q ∈ am_mt, am_ckM q = true := by
  have h : am_mt.all am_ckM = true := by
    show (am_mt0 ++ (am_mt1 ++ (am_mt2 ++ am_mt3))).all am_ckM = true
    rw [List.all_append, List.all_append, List.all_append, am_ckM0, am_ckM1, am_ckM2, am_ckM3]
    rfl
  exact List.all_eq_true.mp h
theorem am_pool_ok {o idx : Nat} {e : Nat × Nat × Nat} (h : am_pool o idx = e) (he : e.1 ≠ 0) : ∃ hh, am_chk o (idx, e) hh = true := by
  unfold am_pool at h
  split at h
  · next q hq =>
    have h1 := List.find?_some hq
    have h2 := List.mem_of_find?_eq_some hq
    have h3 : q.1 = idx := by simpa using h1
    have hc := am_ckP_all o
    simp only [am_ckP, Bool.and_eq_true, decide_eq_true_eq] at hc
    obtain ⟨k, hk⟩ := List.getElem?_of_mem h2
    have hkl := (List.getElem?_eq_some_iff.mp hk).1
    obtain ⟨hh, hhk⟩ : ∃ hh, (am_hints.getD o [])[k]? = some hh := ⟨_, List.getElem?_eq_getElem (by omega)⟩
    have hz : ((am_pools.getD o []).zip (am_hints.getD o []))[k]? = some (q, hh) := by
      rw [List.getElem?_zip_eq_some]
      exact ⟨hk, hhk⟩
    have := List.all_eq_true.mp hc.2 (q, hh) (List.mem_of_getElem? hz)
    refine ⟨hh, ?_⟩
    rw [← h, ← h3]
    exact this
  · exact absurd (by rw [← h]) he
theorem am_tabC (xs : List Int32) : am_TabC (am_Bx xs) am_nm am_cl am_ts := by
  intro c r hr
  have hc : c < 11 := (List.getElem?_eq_some_iff.mp hr).1
  have h := am_ckC_all c hc
  unfold am_ckC at h
  rw [hr] at h
  simp only [Bool.and_eq_true, decide_eq_true_eq, beq_iff_eq] at h
  obtain ⟨⟨⟨⟨⟨⟨h1, h2⟩, h3⟩, h4⟩, h5⟩, h6⟩, h7⟩ := h
  refine ⟨h1, fun w hw => ?_, am_at_ok h3, am_at_ok h4, fun a ha b hb hab => ?_, am_tyD r.2.1, fun k hk => ?_, h7⟩
  · obtain ⟨k, hk, rfl⟩ := List.mem_map.mp hw
    exact am_at_ok (List.all_eq_true.mp h2 k hk)
  · have := List.all_eq_true.mp (List.all_eq_true.mp h5 a (List.mem_range.mpr ha)) b (List.mem_range.mpr hb)
    simp only [Bool.or_eq_true, beq_iff_eq, bne_iff_ne] at this
    rcases this with h | h
    · exact absurd h hab
    · exact h
  · have := List.all_eq_true.mp h6 k (List.mem_range.mpr hk)
    simpa using this
theorem am_tabM (xs : List Int32) : ∀ m I, (am_Bx xs).2.1 m = some I → am_methAt (am_Bx xs) am_nm am_my am_ts m I := by
  intro m I h
  have h' : (am_mt[m]?).map (fun q => q.2) = some I := h
  cases hq : am_mt[m]? with
  | none => rw [hq] at h'; cases h'
  | some q =>
    rw [hq] at h'
    cases h'
    have hmy : am_my m = q.1 := by unfold am_my; rw [hq]; rfl
    have hm := List.mem_of_getElem? hq
    have hc := am_ckM_all q hm
    simp only [am_ckM, Bool.and_eq_true, decide_eq_true_eq, beq_iff_eq, bne_iff_ne, Bool.or_eq_true, Bool.not_eq_true'] at hc
    obtain ⟨⟨⟨⟨⟨⟨h1, h2⟩, h3⟩, h4⟩, h5⟩, h6⟩, h7⟩ := hc
    refine ⟨by rw [hmy]; exact am_qs q hm, by rw [hmy]; exact h1, by rw [hmy]; exact h2, by rw [hmy]; exact ⟨h3, h4⟩, fun hi => ?_, h6, ?_⟩
    · rw [hmy]
      rcases h5 with h5 | h5
      · rw [h5] at hi; cases hi
      · exact h5
    · rw [hmy]
      obtain ⟨i, -, hi⟩ := List.any_eq_true.mp h7
      exact am_at_ok hi
theorem am_rt_ok (xs : List Int32) {m : Nat} (h : am_rt m = true) : ∀ I, (am_Bx xs).2.1 m = some I → I.2.2.2.1 = none := by
  intro I hI
  have h' : (am_mt[m]?).map (fun q => q.2) = some I := hI
  unfold am_rt at h
  cases hq : am_mt[m]? with
  | none => rw [hq] at h'; cases h'
  | some q =>
    rw [hq] at h h'
    cases h'
    simpa using h
theorem am_w3 : ∀ w ∈ am_nw, am_nwk w := by
  intro w hw
  simp only [am_nw, List.mem_cons, List.not_mem_nil, or_false] at hw
  rcases hw with rfl | rfl | rfl | rfl | rfl | rfl | rfl | rfl | rfl | rfl | rfl | rfl | rfl | rfl | rfl
  · exact Or.inl ⟨_, _, _, _, _, _, rfl⟩
  · exact Or.inl ⟨_, _, _, _, _, _, rfl⟩
  · exact Or.inl ⟨_, _, _, _, _, _, rfl⟩
  · exact Or.inr (Or.inl ⟨_, _, _, _, rfl⟩)
  · exact Or.inr (Or.inl ⟨_, _, _, _, rfl⟩)
  · exact Or.inr (Or.inl ⟨_, _, _, _, rfl⟩)
  · exact Or.inr (Or.inl ⟨_, _, _, _, rfl⟩)
  · exact Or.inr (Or.inl ⟨_, _, _, _, rfl⟩)
  · exact Or.inr (Or.inl ⟨_, _, _, _, rfl⟩)
  · exact Or.inr (Or.inl ⟨_, _, _, _, rfl⟩)
  · exact Or.inr (Or.inr (Or.inl ⟨_, _, rfl⟩))
  · exact Or.inr (Or.inr (Or.inr (Or.inl ⟨_, rfl⟩)))
  · exact Or.inr (Or.inr (Or.inr (Or.inl ⟨_, rfl⟩)))
  · exact Or.inr (Or.inr (Or.inr (Or.inl ⟨_, rfl⟩)))
  · exact Or.inr (Or.inr (Or.inr (Or.inr ⟨_, rfl⟩)))
set_option maxHeartbeats 4000000 in
theorem am_tab (xs : List Int32) : am_Tab (am_Bx xs) am_nm am_my am_cl am_ts am_nw := by
  have hw := am_w1
  simp only [Bool.and_eq_true] at hw
  obtain ⟨⟨⟨⟨⟨⟨⟨⟨⟨⟨⟨⟨w1, w2⟩, w3⟩, w4⟩, w5⟩, w6⟩, w7⟩, w8⟩, w9⟩, w10⟩, w11⟩, w12⟩, w13⟩ := hw
  refine ⟨am_tabC xs, am_tabM xs, ?_, ?_, ?_, ?_, ?_, ?_, ?_, ?_, trivial, ?_, ?_, ⟨am_at_ok w11, am_at_ok w12, am_at_ok w13⟩, by decide, by decide, am_w3, ?_, ?_, ?_, ?_, ?_⟩
  · intro o idx t c k hb ht
    obtain ⟨hh, h⟩ := am_pool_ok (e := (t, c, k)) hb (by rcases ht with rfl | rfl <;> simp)
    rcases ht with rfl | rfl
    · simp only [am_chk] at h
      cases hr : am_cl[c]? with
      | none => rw [hr] at h; cases h
      | some r =>
        rw [hr] at h
        simp only [Bool.and_eq_true, decide_eq_true_eq, Bool.or_eq_true, Bool.not_eq_true', beq_iff_eq] at h
        obtain ⟨⟨h1, h2⟩, h3⟩ := h
        refine ⟨r, hr, h1, fun q => ?_, Or.inl ⟨rfl, ?_⟩⟩
        · rcases h2 with h2 | h2
          · rw [h2] at q; cases q
          · exact h2
        · split at h3
          · exact ⟨_, am_at_ok h3, Or.inl rfl⟩
          · simp only [Bool.and_eq_true] at h3
            exact ⟨_, am_at_ok h3.1, Or.inr (am_at_ok h3.2)⟩
    · simp only [am_chk] at h
      cases hr : am_cl[c]? with
      | none => rw [hr] at h; cases h
      | some r =>
        rw [hr] at h
        simp only [Bool.and_eq_true, decide_eq_true_eq, Bool.or_eq_true, Bool.not_eq_true', beq_iff_eq] at h
        obtain ⟨⟨h1, h2⟩, h3⟩ := h
        refine ⟨r, hr, h1, fun q => ?_, Or.inr ⟨rfl, _, h3⟩⟩
        rcases h2 with h2 | h2
        · rw [h2] at q; cases q
        · exact h2
  · intro o idx m n hb
    obtain ⟨hh, h⟩ := am_pool_ok (e := (4, m, n)) hb (by simp)
    simp only [am_chk, am_pm, Bool.and_eq_true, decide_eq_true_eq] at h
    exact ⟨am_at_ok h.1.1.1, am_at_ok h.1.1.2, am_at_ok h.1.2, h.2⟩
  · intro o idx m n hb
    obtain ⟨hh, h⟩ := am_pool_ok (e := (5, m, n)) hb (by simp)
    simp only [am_chk, am_pm, Bool.and_eq_true, decide_eq_true_eq] at h
    exact ⟨am_at_ok h.1.1, am_at_ok h.1.2, h.2⟩
  · intro o idx m n hb
    obtain ⟨hh, h⟩ := am_pool_ok (e := (6, m, n)) hb (by simp)
    simp only [am_chk, am_pm, Bool.and_eq_true, decide_eq_true_eq, beq_iff_eq] at h
    exact ⟨am_at_ok h.1.1.1.1, am_at_ok h.1.1.1.2, h.1.1.2, h.1.2, am_rt_ok xs h.2⟩
  · intro o idx m n hb
    obtain ⟨hh, h⟩ := am_pool_ok (e := (7, m, n)) hb (by simp)
    simp only [am_chk, am_pm, Bool.and_eq_true, decide_eq_true_eq, beq_iff_eq] at h
    exact ⟨⟨_, h.1.1.1.1⟩, am_at_ok h.1.1.1.2, h.1.1.2, h.1.2, am_rt_ok xs h.2⟩
  · intro o idx x y hb
    obtain ⟨hh, h⟩ := am_pool_ok (e := (8, x, y)) hb (by simp)
    simp only [am_chk] at h
    exact ⟨am_at_ok h, am_at_ok w1, am_qo⟩
  · intro o idx x y hb
    obtain ⟨hh, h⟩ := am_pool_ok (e := (9, x, y)) hb (by simp)
    simp only [am_chk] at h
    exact am_at_ok h
  · intro c ts h
    have hc : c < 11 := by
      rcases Nat.lt_or_ge c 11 with q | q
      · exact q
      · obtain ⟨c', rfl⟩ := Nat.exists_eq_add_of_le q
        rw [Nat.add_comm] at h
        cases h
    exact ⟨_, List.getElem?_eq_getElem hc⟩
  · intro o idx x y hb
    obtain ⟨hh, h⟩ := am_pool_ok (e := (12, x, y)) hb (by simp)
    simp only [am_chk] at h
    exact am_at_ok h
  · intro w hw
    exact good_of_word (List.mem_filter.mp hw).2
  · intro o idx x y hb
    obtain ⟨hh, h⟩ := am_pool_ok (e := (13, x, y)) hb (by simp)
    simp only [am_chk] at h
    exact ⟨am_at_ok h, am_at_ok w2, am_at_ok w3, am_at_ok w4⟩
  · intro o idx x y hb
    obtain ⟨hh, h⟩ := am_pool_ok (e := (14, x, y)) hb (by simp)
    simp only [am_chk] at h
    exact ⟨am_at_ok h, by simp [am_nw], am_at_ok w5, am_at_ok w6, am_at_ok w7⟩
  · intro o idx x y hb
    obtain ⟨hh, h⟩ := am_pool_ok (e := (15, x, y)) hb (by simp)
    simp only [am_chk] at h
    exact am_at_ok h
  · intro o idx x y hb
    obtain ⟨hh, h⟩ := am_pool_ok (e := (16, x, y)) hb (by simp)
    simp only [am_chk] at h
    exact ⟨am_at_ok h, am_at_ok w8, am_at_ok w10, am_qmax⟩
  · intro o idx x y hb
    obtain ⟨hh, h⟩ := am_pool_ok (e := (17, x, y)) hb (by simp)
    simp only [am_chk] at h
    exact ⟨am_at_ok h, am_at_ok w9, am_at_ok w10, am_qmin⟩
