/-! a text word by word; what comes into the relation (by hand: wip/whole/gen/c20.py) -/
/-- the words of a text, on the line -/
def g_lt (s : Int32) : List (Nat × Nat × Int32) → Nat → md_S → md_S
  | [], _, M => M
  | r :: ws, w, M => g_lt s ws (w + 1) (f_pi (if 0 < r.1 then md_up1 M 54 1 else M) (nI w) (M.2 35 w) s)
/-- a blank at the end -/
def g_fn (l : List Int32) (M : md_S) : md_S := match l.getLast? with
  | none => M
  | some b => if f_blank b = 0 then M else md_up1 M 54 1
theorem up1_idem (M : md_S) (f : Nat) (v w : Int32) : md_up1 (md_up1 M f v) f w = md_up1 M f w := by
  unfold md_up1
  congr 1
  funext g
  by_cases h : g = f
  · simp [h]
  · simp [h]
theorem up1_self (M : md_S) (f : Nat) (v : Int32) (h : M.1 f = v) : md_up1 M f v = M := by
  unfold md_up1
  rw [← h]
  congr 1
  funext g
  by_cases c : g = f
  · simp [c]
  · simp [c]
theorem ws_hd (s : Int32) : ∀ (l : List Int32) (j : Nat), (∀ o, ∃ e w' tl, ws_A s l j (some o) = (o.1, e, w') :: tl) ∧ (∀ r tl, ws_A s l j none = r :: tl → j ≤ r.1) ∧ (ws_A s l j none = [] → ∀ b ∈ l, ¬ f_blank b = 0) := by
  intro l
  induction l with
  | nil =>
    intro j
    refine ⟨fun o => ⟨_, _, _, rfl⟩, ?_, ?_⟩
    · intro r tl h
      cases h
    · intro _ b hb
      cases hb
  | cons b l ih =>
    intro j
    obtain ⟨h1, h2, h3⟩ := ih (j + 1)
    refine ⟨fun o => ?_, fun r tl h => ?_, fun h => ?_⟩
    · unfold ws_A
      by_cases c : f_blank b = 0
      · rw [if_pos c]
        exact h1 (o.1, o.2 + f_glyph b * s)
      · rw [if_neg c]
        exact ⟨_, _, _, rfl⟩
    · unfold ws_A at h
      by_cases c : f_blank b = 0
      · rw [if_pos c] at h
        obtain ⟨e, w', tl', h4⟩ := h1 (j, 0 + f_glyph b * s)
        rw [h4] at h
        have := (List.cons.inj h).1
        rw [← this]
        exact Nat.le_refl _
      · rw [if_neg c] at h
        have := h2 r tl h
        omega
    · unfold ws_A at h
      by_cases c : f_blank b = 0
      · rw [if_pos c] at h
        obtain ⟨e, w', tl', h4⟩ := h1 (j, 0 + f_glyph b * s)
        rw [h4] at h
        cases h
      · rw [if_neg c] at h
        intro x hx
        rcases List.mem_cons.mp hx with rfl | hx
        · exact c
        · exact h3 h x hx
theorem g_fn_cons {b c : Int32} {l : List Int32} (M : md_S) : g_fn (b :: c :: l) M = g_fn (c :: l) M := by
  unfold g_fn
  rw [List.getLast?_cons_cons]
theorem g_blk {s : Int32} {b : Int32} {l : List Int32} {j w : Nat} {M : md_S} (hb : ¬ f_blank b = 0) : g_fn l (g_lt s (ws_A s l (j + 1) none) w (md_up1 M 54 1)) = g_fn (b :: l) (g_lt s (ws_A s l (j + 1) none) w M) := by
  obtain ⟨_, h2, h3⟩ := ws_hd s l (j + 1)
  cases hw : ws_A s l (j + 1) none with
  | nil =>
    have h3 := h3 hw
    show g_fn l (md_up1 M 54 1) = g_fn (b :: l) M
    cases l with
    | nil =>
      unfold g_fn
      simp [hb]
    | cons c l =>
      rw [g_fn_cons]
      unfold g_fn
      have hm : ∀ x, (c :: l).getLast? = some x → ¬ f_blank x = 0 := fun x hx => h3 x (List.mem_of_getLast? hx)
      cases hg : (c :: l).getLast? with
      | none => simp at hg
      | some x =>
        simp only [if_neg (hm x hg), up1_idem]
  | cons r ws =>
    have hr := h2 r ws hw
    cases l with
    | nil => cases hw
    | cons c l =>
      rw [g_fn_cons]
      congr 1
      unfold g_lt
      rw [if_pos (show 0 < r.1 by omega), if_pos (show 0 < r.1 by omega), up1_idem, md_up1_2]
theorem lt_words (s : Int32) : ∀ (l : List Int32) (j w : Nat) (M : md_S), ((0 < j → M.1 54 = 1) → f_lt s l false w M = g_fn l (g_lt s (ws_A s l j none) w M)) ∧ ∀ o, f_lt s l true w M = g_fn l (g_lt s (ws_A s l j (some o)).tail w M) := by
  intro l
  induction l with
  | nil =>
    intro j w M
    exact ⟨fun _ => rfl, fun o => rfl⟩
  | cons b l ih =>
    intro j w M
    have same : ∀ N, f_blank b = 0 → g_fn (b :: l) N = g_fn l N := by
      intro N hb
      cases l with
      | nil =>
        unfold g_fn
        simp [hb]
      | cons c l => exact g_fn_cons N
    refine ⟨fun hj => ?_, fun o => ?_⟩
    · unfold f_lt
      by_cases c : f_blank b = 0
      · rw [if_pos c, if_neg (by decide), (ih (j + 1) (w + 1) _).2 (j, 0 + f_glyph b * s), ← same _ c]
        congr 1
        obtain ⟨e, w', tl, h4⟩ := (ws_hd s l (j + 1)).1 (j, 0 + f_glyph b * s)
        have h5 : ws_A s (b :: l) j none = ws_A s l (j + 1) (some (j, 0 + f_glyph b * s)) := by
          rw [ws_A, if_pos c]
        rw [h5, h4]
        show g_lt s tl (w + 1) _ = g_lt s tl (w + 1) (f_pi (if 0 < j then md_up1 M 54 1 else M) (nI w) (M.2 35 w) s)
        congr 2
        by_cases hj0 : 0 < j
        · rw [if_pos hj0, up1_self _ _ _ (hj hj0)]
        · rw [if_neg hj0]
      · rw [if_neg c, (ih (j + 1) w _).1 (fun _ => md_up1_at _ _ _), g_blk c]
        congr 2
        rw [ws_A, if_neg c]
    · unfold f_lt
      by_cases c : f_blank b = 0
      · rw [if_pos c, if_pos rfl, (ih (j + 1) w M).2 (o.1, o.2 + f_glyph b * s), ← same _ c]
        congr 2
        rw [ws_A, if_pos c]
      · rw [if_neg c, (ih (j + 1) w _).1 (fun _ => md_up1_at _ _ _), g_blk c]
        congr 2
        rw [ws_A, if_neg c]
        rfl
theorem lineText_words (M : md_S) (n w : Nat) : f_lineText_M M n w = g_fn (by_of M n) (g_lt (f_of M (nI n) 8) (ws_of M n) w M) := (lt_words (f_of M (nI n) 8) (by_of M n) 0 w M).1 (fun h => absurd h (by omega))
section SMX
variable {xs : List Int32} {K : Nat → Prop} {A : cl_A} {P : md_S} {nn W i f D : Nat} {T : List Nat} {ox oy : Int32} {S : cl_S} {M : md_S} {l : List Nat} {wl : List (Nat × bt)} {bl ex : List Nat} {V : List (Nat × bt)} {VW : List Nat} {B : Nat}
theorem SMl.m54 (h : SMl xs K A P nn W i f D T ox oy S M l wl bl ex V VW B) (x : Int32) : SMl xs K A P nn W i f D T ox oy S (md_up1 M 54 x) l wl bl ex V VW B := by
  have e : ∀ g, ¬ g = 54 → (md_up1 M 54 x).1 g = M.1 g := fun g hg => md_up1_ne _ hg _
  obtain ⟨g1, g2, g3, g4, g5, g6, g7, g8, g9, g10, g11, g12, g13⟩ := h
  refine ⟨g1, g2, ?_, ?_, ?_, ?_, ?_, ?_, g9, g10, g11, g12, g13⟩
  · unfold si_fw at g3 ⊢; rw [e 55 (by decide), e 43 (by decide)]; exact g3
  · unfold si_fl at g4 ⊢; rw [e 46 (by decide)]; exact g4
  · unfold si_wt at g5 ⊢; rw [e 53 (by decide)]; exact g5
  · unfold si_ln at g6 ⊢; rw [e 41 (by decide), e 42 (by decide), e 40 (by decide), e 39 (by decide), e 37 (by decide)]; exact g6
  · rw [e 37 (by decide)]; exact g7
  · rw [e 55 (by decide)]; exact g8
/-- a word comes -/
theorem SMl.addW (h : SMl xs K A P nn W i f D T ox oy S M l wl bl [] V VW B) {w : Nat} {q : Nat × bt} (hw : w < W) (hn : w ∉ VW) (hq : q ∈ V) (h30 : P.2 30 w = nI q.1) (h6 : P.2 12 q.1 = 6) : SMl xs K A P nn W i f D T ox oy S M l wl bl [60 + w] V (VW ++ [w]) B := by
  obtain ⟨g1, g2, g3, g4, g5, g6, g7, g8, g9, g10, g11, g12, g13⟩ := h
  rw [List.append_nil] at g9 g10
  obtain ⟨p1, p2, p3⟩ := g9
  obtain ⟨d1, d2, d3, d4, d5, d6, d7, d8, d9, d10, d11⟩ := g10
  refine ⟨g1, g2, g3, g4, g5, g6, g7, g8, ⟨p1, fun q' hq' h4 => ⟨(p2 q' hq' h4).1, (p2 q' hq' h4).2.imp (fun r => List.mem_append_left _ r) id⟩, fun w' hw' => ?_⟩, ⟨d1, d2, d3, d4, d5, fun b hb => ?_, ?_, fun w' hw' => ?_, d9, d10, d11⟩, g11, g12, g13⟩
  · rcases List.mem_append.mp hw' with r | r
    · exact (p3 w' r).imp (fun r => List.mem_append_left _ r) id
    · rw [List.mem_singleton.mp r]
      exact Or.inl (by simp)
  · rcases List.mem_append.mp hb with r | r
    · rcases d6 b r with r | ⟨w', r1, r2⟩
      · exact Or.inl r
      · exact Or.inr ⟨w', List.mem_append_left _ r1, r2⟩
    · exact Or.inr ⟨w, by simp, List.mem_singleton.mp r⟩
  · rw [List.nodup_append]
    refine ⟨d7, by simp, fun a ha b hb e => ?_⟩
    rw [List.mem_singleton.mp hb] at e
    rcases d6 a ha with ⟨k, r1, _⟩ | ⟨w', r1, r2⟩
    · have := d9 _ (d1 _ r1 a (by simp))
      omega
    · obtain rfl : w' = w := by omega
      exact hn r1
  · rcases List.mem_append.mp hw' with r | r
    · exact d8 w' r
    · rw [List.mem_singleton.mp r]
      exact ⟨hw, q, hq, h30, h6⟩
/-- a node comes: a text, or anything that is no box and no piece -/
theorem si_ds.addV {q : Nat × bt} (h : si_ds P nn W T l wl bl V VW) (hT : ∀ x ∈ sub q, x ∈ T) (hd : ∀ q' ∈ V, (∀ x ∈ sub q, x ∉ sub q') ∧ ∀ x ∈ sub q', x ∉ sub q) : si_ds P nn W T l wl bl (V ++ [q]) VW := by
  obtain ⟨d1, d2, d3, d4, d5, d6, d7, d8, d9, d10, d11⟩ := h
  refine ⟨fun q' hq' => ?_, fun q1 h1 q2 h2 => ?_, fun n hn => ?_, fun q' hq' => ⟨List.mem_append_left _ (d4 q' hq').1, (d4 q' hq').2⟩, d5, fun b hb => ?_, d7, fun w hw => ?_, d9, d10, d11⟩
  · rcases List.mem_append.mp hq' with r | r
    · exact d1 q' r
    · rw [List.mem_singleton.mp r]; exact hT
  · rcases List.mem_append.mp h1 with r1 | r1
    · rcases List.mem_append.mp h2 with r2 | r2
      · exact d2 q1 r1 q2 r2
      · rw [List.mem_singleton.mp r2]; exact Or.inr (hd q1 r1).2
    · rcases List.mem_append.mp h2 with r2 | r2
      · rw [List.mem_singleton.mp r1]; exact Or.inr (hd q2 r2).1
      · rw [List.mem_singleton.mp r1, List.mem_singleton.mp r2]; exact Or.inl rfl
  · obtain ⟨k, r1, r2⟩ := d3 n hn
    exact ⟨k, List.mem_append_left _ r1, r2⟩
  · rcases d6 b hb with ⟨k, r1, r2⟩ | r
    · exact Or.inl ⟨k, List.mem_append_left _ r1, r2⟩
    · exact Or.inr r
  · obtain ⟨r1, q', r2, r3⟩ := d8 w hw
    exact ⟨r1, q', List.mem_append_left _ r2, r3⟩
theorem SMl.addV (h : SMl xs K A P nn W i f D T ox oy S M l wl bl ex V VW B) {q : Nat × bt} (hT : ∀ x ∈ sub q, x ∈ T) (hd : ∀ q' ∈ V, (∀ x ∈ sub q, x ∉ sub q') ∧ ∀ x ∈ sub q', x ∉ sub q) (hb : f_isBox P (nI q.1) = 0) (h4 : ¬ P.2 12 q.1 = 4) : SMl xs K A P nn W i f D T ox oy S M l wl bl ex (V ++ [q]) VW B := by
  obtain ⟨g1, g2, g3, g4, g5, g6, g7, g8, ⟨p1, p2, p3⟩, g10, g11, g12, g13⟩ := h
  refine ⟨g1, g2, g3, g4, g5, g6, g7, g8, ⟨fun q' hq' hb' => ?_, fun q' hq' h4' => ?_, p3⟩, g10.addV hT hd, g11, by simp; omega, g13⟩
  · rcases List.mem_append.mp hq' with r | r
    · exact p1 q' r hb'
    · rw [List.mem_singleton.mp r] at hb'; exact absurd hb hb'
  · rcases List.mem_append.mp hq' with r | r
    · exact p2 q' r h4'
    · rw [List.mem_singleton.mp r] at h4'; exact absurd h4' h4
end SMX
