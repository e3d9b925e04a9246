/-! the class: all that is in a block is where the reference has it (by hand: wip/whole/gen/c32.py) -/
/-- the words' texts -/
def WO (P : md_S) (W : Nat) : Prop := ∀ w n, w < W → n < 60 → P.2 30 w = nI n → P.2 12 n = 6 ∧ ∃ w0 m, w0 ≤ 3700 ∧ P.2 28 n = nI w0 ∧ m < (ws_of P n).length ∧ w = w0 + m
def drF (P : md_S) (i : Nat) : bt → Prop
  | .leaf _ => True
  | .branch j k s => (j < 60 ∧ P.2 14 j = nI i ∧ (P.2 12 j = 0 ∨ P.2 12 j = 1 ∨ P.2 12 j = 2 ∨ P.2 12 j = 3 ∨ P.2 12 j = 4 ∨ P.2 12 j = 5 ∨ P.2 12 j = 6) ∧ (P.2 12 j = 0 → ∀ x ∈ bt_pre k, x < 60 ∧ P.2 12 x = 0) ∧ (P.2 12 j = 4 ∨ P.2 12 j = 5 ∨ P.2 12 j = 6 → ∃ u, k = .leaf u)) ∧ (P.2 12 j = 3 → drF P i k) ∧ drF P i s
theorem gone_lo {P : md_S} {W : Nat} {S : cl_S} (hW : WO P W) : ∀ (t : bt) (ox oy : Int32), (∀ x ∈ bt_pre t, x < 60 ∧ P.2 12 x = 0) → lo_F P W S t ox oy := by
  intro t
  induction t with
  | leaf u => intro _ _ _; trivial
  | branch j k s ihk ihs =>
    intro ox oy h
    obtain ⟨h1, h2⟩ := h j (by simp [bt_pre])
    refine ⟨fun c => ?_, fun w hw h30 => ?_, ihk _ _ (fun x hx => h x (by simp [bt_pre, hx])), ihs _ _ (fun x hx => h x (by simp [bt_pre, hx]))⟩
    · rcases c with c | c
      · rw [isBox_m h1, h2] at c; exact absurd c (by decide)
      · rw [h2] at c; exact absurd c (by decide)
    · have := (hW w j hw h1 h30).1
      rw [h2] at this
      exact absurd this (by decide)
theorem lo_of {P M : md_S} {W i : Nat} {S : cl_S} {V : List (Nat × bt)} {VW : List Nat} {ox oy : Int32} (hW : WO P W) (hp : si_pl S P M W ox oy [] [] V VW) (h15 : ∀ n, n < 60 → f_boxy P n → P.2 14 n = nI i → P.2 15 n = M.2 15 n ∧ P.2 16 n = M.2 16 n) (h33 : ∀ w n, w < W → n < 60 → P.2 30 w = nI n → P.2 14 n = nI i → P.2 33 w = M.2 33 w ∧ P.2 34 w = M.2 34 w) : ∀ (t : bt), drF P i t → cvF P V VW t → lo_F P W S t ox oy := by
  intro t
  induction t with
  | leaf u => intro _ _; trivial
  | branch j k s ihk ihs =>
    intro hd hc
    obtain ⟨⟨d1, d2, d3, d4, d5⟩, d6, d7⟩ := hd
    obtain ⟨c1, c2, c3, c4⟩ := hc
    obtain ⟨p1, p2, p3⟩ := hp
    have hs := ihs d7 c4
    have nw : ¬ P.2 12 j = 6 → ∀ w, w < W → P.2 30 w = nI j → S.2.1 0 (60 + w) = P.2 33 w + ox ∧ S.2.1 1 (60 + w) = P.2 34 w + oy := fun h6 w hw h30 => absurd (hW w j hw d1 h30).1 h6
    have leafk : ∀ ox' oy', (∃ u, k = .leaf u) → lo_F P W S k ox' oy' := by
      rintro ox' oy' ⟨u, rfl⟩
      trivial
    rcases d3 with m | m | m | m | m | m | m
    · refine ⟨fun c => ?_, nw (by rw [m]; decide), gone_lo hW k _ _ (d4 m), hs⟩
      rcases c with c | c
      · rw [isBox_m d1, m] at c; exact absurd c (by decide)
      · rw [m] at c; exact absurd c (by decide)
    · have hb : ¬ f_isBox P (nI j) = 0 := (isBox_m d1).mpr (Or.inl m)
      rcases p1 (j, k) (c1 (Or.inl hb)) hb with r | r
      · cases r
      · obtain ⟨a0, a1, a2, a3, a4, a5⟩ := r
        obtain ⟨e1, e2⟩ := h15 j d1 (Or.inl hb) d2
        refine ⟨fun _ => ⟨by rw [e1]; exact a0, by rw [e2]; exact a1, a2, a3, a4⟩, nw (by rw [m]; decide), ?_, hs⟩
        rw [if_neg hb, if_neg hb, e1, e2]
        exact a5
    · have hb : ¬ f_isBox P (nI j) = 0 := (isBox_m d1).mpr (Or.inr m)
      rcases p1 (j, k) (c1 (Or.inl hb)) hb with r | r
      · cases r
      · obtain ⟨a0, a1, a2, a3, a4, a5⟩ := r
        obtain ⟨e1, e2⟩ := h15 j d1 (Or.inl hb) d2
        refine ⟨fun _ => ⟨by rw [e1]; exact a0, by rw [e2]; exact a1, a2, a3, a4⟩, nw (by rw [m]; decide), ?_, hs⟩
        rw [if_neg hb, if_neg hb, e1, e2]
        exact a5
    · have hb0 : f_isBox P (nI j) = 0 := by unfold f_isBox; rw [nI_clamp (by omega), m]; rfl
      refine ⟨fun c => ?_, nw (by rw [m]; decide), ?_, hs⟩
      · rcases c with c | c
        · exact absurd hb0 c
        · rw [m] at c; exact absurd c (by decide)
      · rw [if_pos hb0, if_pos hb0]
        exact ihk (d6 m) (c3 m)
    · obtain ⟨⟨b2, b3, b511⟩, r⟩ := p2 (j, k) (c1 (Or.inr m)) m
      rcases r with r | r
      · cases r
      · obtain ⟨e1, e2⟩ := h15 j d1 (Or.inr m) d2
        exact ⟨fun _ => ⟨by rw [e1]; exact r.1, by rw [e2]; exact r.2, b2, b3, b511⟩, nw (by rw [m]; decide), leafk _ _ (d5 (Or.inl m)), hs⟩
    · have hb0 : f_isBox P (nI j) = 0 := by unfold f_isBox; rw [nI_clamp (by omega), m]; rfl
      refine ⟨fun c => ?_, nw (by rw [m]; decide), leafk _ _ (d5 (Or.inr (Or.inl m))), hs⟩
      rcases c with c | c
      · exact absurd hb0 c
      · rw [m] at c; exact absurd c (by decide)
    · have hb0 : f_isBox P (nI j) = 0 := by unfold f_isBox; rw [nI_clamp (by omega), m]; rfl
      refine ⟨fun c => ?_, fun w hw h30 => ?_, leafk _ _ (d5 (Or.inr (Or.inr m))), hs⟩
      · rcases c with c | c
        · exact absurd hb0 c
        · rw [m] at c; exact absurd c (by decide)
      · obtain ⟨_, w0, m', g1, g2, g3, rfl⟩ := hW w j hw d1 h30
        obtain ⟨e1, e2⟩ := h33 _ j hw d1 h30 d2
        rcases p3 _ (c2 m w0 g1 g2 m' g3) with r | r
        · cases r
        · rw [e1, e2]; exact r
