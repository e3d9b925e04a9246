/-! the reference: what holds of all nodes when laid (by hand: wip/whole/gen/c39.py) -/
theorem nodup_le : ∀ (n : Nat) (l : List Nat), l.Nodup → (∀ x ∈ l, x < n) → l.length ≤ n := by
  intro n
  induction n with
  | zero =>
    intro l _ h
    cases l with
    | nil => exact Nat.le_refl _
    | cons a l => exact absurd (h a (by simp)) (by omega)
  | succ n ih =>
    intro l hd h
    have h1 := ih (l.erase n) (hd.erase n) (fun x hx => by
      have h2 := (List.Nodup.mem_erase_iff hd).mp hx
      have h3 := h x h2.2
      have h4 := h2.1
      omega)
    by_cases c : n ∈ l
    · rw [List.length_erase_of_mem c] at h1
      omega
    · rw [List.erase_of_not_mem c] at h1
      omega
/-- the ranges of what a node has -/
def rng (M : md_S) (i : Nat) : Prop := (f_of M (nI i) 0 ∈ ([0, 1, 2, 3] : List Int32)) ∧ (f_of M (nI i) 1 ∈ ([0, 1, 2] : List Int32)) ∧ (-1 ≤ (f_of M (nI i) 2).toInt ∧ (f_of M (nI i) 2).toInt ≤ 1100) ∧ (-1 ≤ (f_of M (nI i) 3).toInt ∧ (f_of M (nI i) 3).toInt ≤ 400) ∧ nz 50 (f_of M (nI i) 4) ∧ nz 9 (f_of M (nI i) 5) ∧ nz 50 (f_of M (nI i) 6) ∧ nz 2 (f_of M (nI i) 7) ∧ 1 ≤ (f_of M (nI i) 8).toInt ∧ (f_of M (nI i) 8).toInt ≤ 4
/-- what holds of a node between calls -/
def iv (M : md_S) (i : Nat) : Prop := (i = 0 → M.2 4 0 = -1 ∧ M.2 3 0 = 0 ∧ M.2 8 0 = 0) ∧ (¬ i = 0 → ∃ p e, p < i ∧ e < 12 ∧ M.2 4 i = nI p ∧ M.2 3 p = 0 ∧ M.2 8 p = nI e ∧ M.2 8 i = nI (e + 1)) ∧ (M.2 3 i ∈ ([0, 1, 2, 3] : List Int32)) ∧ (¬ M.2 3 i = 0 → M.2 5 i = -1) ∧ (¬ M.2 3 i = 1 → M.2 11 i = 0) ∧ by_ok M i ∧ rng M i
def NS (P : md_S) (nn : Nat) : Prop := nn ≤ 60 ∧ ∀ i, i < nn → iv P i ∧ mo_eq P i
def f_mo (m k d f : Int32) : Int32 := if m = 0 then 0 else (if ¬ d = 3 then (if ¬ k = 1 then (if ¬ k = 2 then (if ¬ k = 3 then (if ¬ m = 3 then (if ¬ m = 1 then (if ¬ m = 1 then (if ¬ d = 2 then 1 else 2) else (if ¬ d = 1 then (if ¬ d = 2 then 1 else 2) else 3)) else (if f ≤ 0 then (if ¬ m = 1 then (if ¬ d = 2 then 1 else 2) else (if ¬ d = 1 then (if ¬ d = 2 then 1 else 2) else 3)) else (if ¬ m = 1 then (if ¬ d = 2 then 1 else 2) else (if ¬ d = 2 then 1 else 2)))) else 3) else 4) else (if ¬ m = 2 then 5 else 0)) else (if ¬ m = 2 then 6 else 0)) else 0)
theorem mode_of {P : md_S} {i p : Nat} (hi : i < 60) (hp : p < 60) (h0 : ¬ i = 0) (h4 : P.2 4 i = nI p) (hm : mo_eq P i) : P.2 12 i = f_mo (P.2 12 p) (P.2 3 i) (f_of P (nI i) 0) (f_of P (nI i) 1) := by
  have := hm.2.1
  rw [if_neg h0] at this
  rw [this]
  unfold f_modeOf f_mo
  rw [nI_clamp (show i < 2 ^ 31 by omega), h4, nI_clamp (show p < 2 ^ 31 by omega)]
abbrev mo7 : List Int32 := [0, 1, 2, 3, 4, 5, 6]
theorem f_mo_in (m k d f : Int32) : f_mo m k d f ∈ mo7 := by
  unfold f_mo
  repeat' (first | (split) | decide)
theorem mo_root {P : md_S} {nn : Nat} (h : NS P nn) (hn : 0 < nn) : (P.2 12 0 = 1 ∨ P.2 12 0 = 2) ∧ P.2 13 0 = 0 := by
  have hm := (h.2 0 hn).2
  have h2 := hm.2.1
  have h3 := hm.2.2
  rw [if_pos rfl] at h2 h3
  refine ⟨?_, h3⟩
  rw [h2]
  split
  · exact Or.inl rfl
  · exact Or.inr rfl
theorem NS.m {P : md_S} {nn i : Nat} (h : NS P nn) (hi : i < nn) : P.2 12 i ∈ mo7 := by
  have h60 := h.1
  by_cases h0 : i = 0
  · subst h0
    rcases (mo_root h hi).1 with c | c <;> rw [c] <;> decide
  · obtain ⟨p, e, p1, p2, p3, p4, p5, p6⟩ := (h.2 i hi).1.2.1 h0
    rw [mode_of (by omega) (by omega) h0 p3 (h.2 i hi).2]
    exact f_mo_in _ _ _ _
/-- a node and its parent -/
theorem NS.par {P : md_S} {nn i : Nat} (h : NS P nn) (hi : i < nn) (h0 : ¬ i = 0) : ∃ p, p < i ∧ P.2 4 i = nI p ∧ P.2 3 p = 0 ∧ P.2 12 i = f_mo (P.2 12 p) (P.2 3 i) (f_of P (nI i) 0) (f_of P (nI i) 1) ∧ P.2 13 i = (if f_isBox P (nI i) = 0 then 0 else if ¬ P.2 12 p = 1 then 0 else if f_of P (nI i) 1 ≤ 0 then 0 else 1) ∧ P.2 14 i = (if f_isBox P (nI p) = 0 then P.2 14 p else nI p) := by
  have h60 := h.1
  obtain ⟨p, e, p1, p2, p3, p4, p5, p6⟩ := (h.2 i hi).1.2.1 h0
  have hm := (h.2 i hi).2
  refine ⟨p, p1, p3, p4, mode_of (by omega) (by omega) h0 p3 hm, ?_, ?_⟩
  · have := hm.2.2
    rw [if_neg h0, p3, nI_clamp (by omega)] at this
    exact this
  · have := hm.1
    rw [if_neg h0, p3, nI_clamp (by omega)] at this
    exact this
theorem NS.k0 {P : md_S} {nn i : Nat} (h : NS P nn) (hi : i < nn) (h3 : P.2 3 i = 0) : P.2 12 i = 0 ∨ P.2 12 i = 1 ∨ P.2 12 i = 2 ∨ P.2 12 i = 3 := by
  by_cases h0 : i = 0
  · subst h0
    rcases (mo_root h hi).1 with c | c <;> rw [c] <;> decide
  · obtain ⟨p, p1, p2, p3, p4, p5, p6⟩ := h.par hi h0
    rw [p4, h3]
    have := (show ∀ m ∈ mo7, ∀ d ∈ ([0, 1, 2, 3] : List Int32), ∀ f ∈ ([0, 1, 2] : List Int32), f_mo m 0 d f = 0 ∨ f_mo m 0 d f = 1 ∨ f_mo m 0 d f = 2 ∨ f_mo m 0 d f = 3 by decide)
    have hr := (h.2 i hi).1.2.2.2.2.2.2
    exact this _ (h.m (by omega)) _ hr.1 _ hr.2.1
/-- the box of a node -/
theorem NS.box {P : md_S} {nn : Nat} (h : NS P nn) : ∀ (i : Nat), i < nn → ¬ i = 0 → ∃ b, b < i ∧ P.2 14 i = nI b ∧ (P.2 12 b = 1 ∨ P.2 12 b = 2) := by
  have h60 := h.1
  intro i
  induction i using Nat.strongRecOn with
  | ind i ih =>
    intro hi h0
    obtain ⟨p, p1, p2, p3, p4, p5, p6⟩ := h.par hi h0
    by_cases c : f_isBox P (nI p) = 0
    · rw [if_pos c] at p6
      have hp0 : ¬ p = 0 := by
        rintro rfl
        exact absurd c ((isBox_m (by omega)).mpr (mo_root h (by omega)).1)
      obtain ⟨b, b1, b2, b3⟩ := ih p p1 (by omega) hp0
      exact ⟨b, by omega, p6.trans b2, b3⟩
    · rw [if_neg c] at p6
      exact ⟨p, p1, p6, (isBox_m (by omega)).mp c⟩
theorem ol_nz {P : md_S} {i : Nat} {k : bt} (hs : 1 ≤ (f_of P (nI i) 8).toInt ∧ (f_of P (nI i) 8).toInt ≤ 4) (hb : ∀ x ∈ i :: bt_pre k, by_ok P x) (hl : (bt_pre k).length ≤ 59) : nz 230400 (f_ol P i k) := by
  have hs0 : ¬ f_of P (nI i) 8 = 0 := by
    intro c
    rw [c, lit_0] at hs
    omega
  unfold f_ol ol_fd
  have hlen : ((bt_pre (.branch i k (.leaf ()))).flatMap (by_of P)).length ≤ 7200 := by
    have := by_flat (M := P) (bt_pre (.branch i k (.leaf ()))) (fun x hx => by
      have hx' : x ∈ i :: bt_pre k := by simpa [bt_pre] using hx
      obtain ⟨c, c1, c2⟩ := hb x hx'
      rw [by_len c2 c1]
      exact c1)
    have e : (bt_pre (.branch i k (.leaf ()))).length ≤ 60 := by
      simp only [bt_pre, List.length_cons, List.length_append, List.length_nil]
      omega
    omega
  obtain ⟨r1, r2, m, r3, r4, r5⟩ := ol_fold hs0 ((bt_pre (.branch i k (.leaf ()))).flatMap (by_of P)) 0 (0, 0) (0, 0, 0) (by omega) ⟨by simp, by simp, 0, by omega, rfl, Or.inl ⟨rfl, rfl, rfl⟩⟩
  rw [r1, r4]
  have hm : (nI m).toInt = m := nI_toInt (by omega)
  have e : (nI m * f_of P (nI i) 8).toInt = m * (f_of P (nI i) 8).toInt := by
    have h1 : (m : Int) * (f_of P (nI i) 8).toInt ≤ 57600 * 4 := Int.mul_le_mul (by omega) (by omega) (by omega) (by omega)
    have h2 : 0 ≤ (m : Int) * (f_of P (nI i) 8).toInt := Int.mul_nonneg (by omega) (by omega)
    rw [Int32.toInt_mul, hm]
    exact bmod_small (by omega) (by omega)
  have h1 : (m : Int) * (f_of P (nI i) 8).toInt ≤ 57600 * 4 := Int.mul_le_mul (by omega) (by omega) (by omega) (by omega)
  have h2 : 0 ≤ (m : Int) * (f_of P (nI i) 8).toInt := Int.mul_nonneg (by omega) (by omega)
  exact ⟨by rw [e]; omega, by rw [e]; omega⟩
theorem told_nz {P : md_S} {i : Nat} {x : Int32} (h : -1 ≤ (f_of P (nI i) 2).toInt ∧ (f_of P (nI i) 2).toInt ≤ 1100) (hx : nz 250000 x) : f_told P (nI i) x = -1 ∨ nz 250000 (f_told P (nI i) x) := by
  unfold f_told
  have h1000 : (1000 : Int32).toInt = 1000 := by decide
  have hm1 : (-1 : Int32).toInt = -1 := by decide
  by_cases c : f_of P (nI i) 2 < 1000
  · rw [if_pos c]
    rw [Int32.lt_iff_toInt_lt, h1000] at c
    by_cases c2 : (f_of P (nI i) 2).toInt = -1
    · exact Or.inl (Int32.toInt_inj.mp (c2.trans hm1.symm))
    · exact Or.inr ⟨by omega, by omega⟩
  · rw [if_neg c]
    rw [Int32.lt_iff_toInt_lt, h1000] at c
    unfold nz at hx
    have e1 : (f_of P (nI i) 2 - 1000).toInt = (f_of P (nI i) 2).toInt - 1000 := by
      rw [off_sub ⟨by omega, by omega⟩ ⟨by rw [h1000]; omega, by rw [h1000]; omega⟩, h1000]
    have hp : 0 ≤ x.toInt * ((f_of P (nI i) 2).toInt - 1000) := Int.mul_nonneg (by omega) (by omega)
    have hp2 : x.toInt * ((f_of P (nI i) 2).toInt - 1000) ≤ 250000 * 100 := Int.mul_le_mul (by omega) (by omega) (by omega) (by omega)
    have e2 : (x * (f_of P (nI i) 2 - 1000)).toInt = x.toInt * ((f_of P (nI i) 2).toInt - 1000) := by
      rw [Int32.toInt_mul, e1]
      exact bmod_small (by omega) (by omega)
    have h3 : 0 ≤ (x.toInt * ((f_of P (nI i) 2).toInt - 1000)).tdiv 100 := Int.tdiv_nonneg hp (by omega)
    have h4 : (x.toInt * ((f_of P (nI i) 2).toInt - 1000)).tdiv 100 ≤ 250000 := by
      rw [Int.tdiv_eq_ediv_of_nonneg hp]
      omega
    refine Or.inr ⟨?_, ?_⟩
    · rw [Int32.toInt_div, e2, show (100 : Int32).toInt = 100 by decide, bmod_small (by omega) (by omega)]
      omega
    · rw [Int32.toInt_div, e2, show (100 : Int32).toInt = 100 by decide, bmod_small (by omega) (by omega)]
      omega
theorem rng_edges {P : md_S} {i : Nat} (h : rng P i) : nz 59 (f_edges P (nI i)) := by
  have h1 := h.2.2.2.2.2.1
  have h2 := h.2.2.2.2.2.2.1
  unfold f_edges
  exact nz_add h1 h2 (by omega) (by omega) (by omega)
theorem inner_nz2 {P : md_S} {b : Nat} (hb : b < 60) (h : rng P b) (hw : nz 250000 (P.2 17 b)) : nz 250000 (f_inner P (nI b)) := by
  have h2 := rng_edges h
  unfold f_inner
  rw [nI_clamp (by omega)]
  unfold nz at *
  have e : (2 * f_edges P (nI b)).toInt = 2 * (f_edges P (nI b)).toInt := two_toInt ⟨by omega, by omega⟩
  rw [more_toInt, off_sub ⟨by omega, by omega⟩ ⟨by omega, by omega⟩, lit_0]
  omega
theorem wv_nz {P : md_S} {i b : Nat} {k : bt} (hr : rng P i) (hb : b < 60) (h14 : P.2 14 i = nI b) (hrb : rng P b) (hw : nz 250000 (P.2 17 b)) (hby : ∀ x ∈ i :: bt_pre k, by_ok P x) (hl : (bt_pre k).length ≤ 59) : nz 250000 (f_wv P i k) := by
  have hin := inner_nz2 hb hrb hw
  have hed := rng_edges hr
  have hol := ol_nz (k := k) hr.2.2.2.2.2.2.2.2 hby hl
  have hto := told_nz (i := i) hr.2.2.1 hin
  have hmg := hr.2.2.2.2.1
  unfold f_wv
  rw [h14]
  have e2 : (2 * f_edges P (nI i)).toInt = 2 * (f_edges P (nI i)).toInt := two_toInt ⟨by omega, by omega⟩
  have e4 : (2 * f_of P (nI i) 4).toInt = 2 * (f_of P (nI i) 4).toInt := two_toInt ⟨by omega, by omega⟩
  have ha : (f_inner P (nI b) - 2 * f_of P (nI i) 4).toInt = (f_inner P (nI b)).toInt - 2 * (f_of P (nI i) 4).toInt := by
    rw [off_sub ⟨by omega, by omega⟩ ⟨by omega, by omega⟩, e4]
  have hc : (f_ol P i k + 2 * f_edges P (nI i)).toInt = (f_ol P i k).toInt + 2 * (f_edges P (nI i)).toInt := by
    rw [off_toInt ⟨by omega, by omega⟩ ⟨by omega, by omega⟩, e2]
  by_cases c4 : P.2 12 i = 4
  · rw [if_neg (not_not_intro c4)]
    rcases hto with c | c
    · rw [if_neg (not_not_intro c)]
      exact ⟨by decide, by decide⟩
    · split
      · exact c
      · exact ⟨by decide, by decide⟩
  · rw [if_pos c4]
    have hwide : (f_wideOf P i k).toInt ≤ 250000 := by
      unfold f_wideOf
      rw [h14]
      split
      · rcases hto with c | c
        · contradiction
        · exact c.2
      · split
        · split
          · rw [ha]; omega
          · rw [hc]; omega
        · rw [less_toInt, ha, hc]
          omega
    exact ⟨by rw [more_toInt, e2]; omega, by rw [more_toInt, e2]; omega⟩
