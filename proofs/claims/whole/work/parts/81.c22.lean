/-! the class: floats, pieces, breaks come (by hand: wip/whole/gen/c22.py) -/
section SMY
variable {xs : List Int32} {K : Nat → Prop} {A : cl_A} {P : md_S} {nn W i f D : Nat} {T : List Nat} {ox oy : Int32} {S S' : cl_S} {M : md_S} {l : List Nat} {wl : List (Nat × bt)} {bl ex : List Nat} {V : List (Nat × bt)} {VW : List Nat} {B : Nat} {q : Nat × bt}
/-- a new node lies apart from all that has been visited -/
def apart (V : List (Nat × bt)) (q : Nat × bt) : Prop := ∀ q' ∈ V, (∀ x ∈ sub q, x ∉ sub q') ∧ ∀ x ∈ sub q', x ∉ sub q
/-- a float is put, the line is empty -/
theorem SMl.putF (h : SMl xs K A P nn W i f D T ox oy S M l [] [] [] V VW B) (hT : ∀ x ∈ sub q, x ∈ T) (hd : apart V q) (hb : ¬ f_isBox P (nI q.1) = 0)
    (F : FR P W (sub q) (q.1 :: (l ++ bt_pre q.2)) f S S') (hfx : ∀ g, 100 ≤ g → g < 500 → g ∉ [102, 103, 104, 105] → S'.2.1 g f = S.2.1 g f) (hfl : si_fl S' P (f_putFloat_M M l.length q.1) f ox oy (l ++ [q.1]) (B + cs P q.1 q.2)) (hp : plB P W S' (f_putFloat_M M l.length q.1) ox oy q) : FR P W T T f S S' ∧ SMl xs K A P nn W i f D T ox oy S' (f_putFloat_M M l.length q.1) (l ++ [q.1]) [] [] [] (V ++ [q]) VW (B + cs P q.1 q.2) := by
  obtain ⟨g1, g2, g3, g4, g5, g6, g7, g8, ⟨p1, p2, p3⟩, g10, g11, g12, g13⟩ := h
  have hds := g10
  obtain ⟨d1, d2, d3, d4, d5, d6, d7, d8, d9, d10, d11⟩ := g10
  have sub60 : ∀ x ∈ sub q, x < 60 := fun x hx => by have := d9 x (hT x hx); omega
  have hds' := hds.addV hT hd
  have hqV : q ∈ V ++ [q] := by simp
  have hbl := hds'.bl hqV hb
  have FT : FR P W T T f S S' := F.sub hT (fun x hx => by
    rcases List.mem_cons.mp hx with rfl | hx
    · exact hT _ (by simp)
    · rcases List.mem_append.mp hx with hx | hx
      · obtain ⟨k, hk, _⟩ := d3 x hx
        exact d1 _ hk x (by simp)
      · exact hT x (by simp [hx])) (Nat.le_refl _)
  have hqn : ∀ q' ∈ V, ¬ q'.1 = q.1 := fun q' hq' e => (hd q' hq').2 q'.1 (by simp) (by rw [e]; simp)
  refine ⟨FT, g1.fr FT, g2.x (fun a ha => pf_2 _ _ _ (fun r => ha ((show ∀ a ∈ [15, 16, 47, 48, 49, 50, 51], a ∈ X_C by decide) a r))) (pf_2 _ _ _ (by decide)), g3.mv (fun g hg => by
      have := (show ∀ g ∈ [200, 201, 202, 203, 100, 101], 100 ≤ g ∧ g < 500 ∧ g ∉ [102, 103, 104, 105] by decide) g hg
      exact hfx g this.1 this.2.1 this.2.2) (pf_1 _ _ _ (by decide)) (pf_1 _ _ _ (by decide)), hfl, ?_, ?_, ⟨?_, ?_⟩, ?_, ⟨?_, ?_, ?_⟩, ⟨hds'.1, hds'.2.1, ?_, (fun q' hq' => by cases hq'), ?_, (fun b hb => by cases hb), List.nodup_nil, hds'.2.2.2.2.2.2.2⟩, (fun q' hq' => by cases hq'), ?_, fun _ => rfl⟩
  · obtain ⟨a1, a2, a3, a4⟩ := g5
    refine ⟨?_, ?_, ?_, fun k n hk => by simp at hk⟩
    · rw [pf_1 _ _ _ (by decide)]; exact a1
    · rw [hfx 207 (by decide) (by decide) (by decide)]; exact a2
    · rw [hfx 208 (by decide) (by decide) (by decide)]; exact a3
  · obtain ⟨a1, a2, a3, a4, a5, a6, a7, a8, a9, a10, a11⟩ := g6
    refine ⟨?_, Nat.zero_le _, ?_, ?_, ?_, fun k b hk => by simp at hk, fun c => absurd rfl c, ?_, ?_, ?_, fun _ => ?_⟩
    · rw [pf_1 _ _ _ (by decide)]; exact a1
    · rw [hfx 400 (by decide) (by decide) (by decide)]; exact a3
    · rw [hfx 401 (by decide) (by decide) (by decide)]; exact a4
    · rw [hfx 404 (by decide) (by decide) (by decide), pf_1 _ _ _ (by decide)]; exact a5
    · rw [pf_1 _ _ _ (by decide)]; exact nz_mono a8 (Nat.le_add_right _ _)
    · rw [pf_1 _ _ _ (by decide)]; exact nz_mono a9 (Nat.le_add_right _ _)
    · rw [pf_1 _ _ _ (by decide), pf_1 _ _ _ (by decide)]; omega
    · rw [pf_1 _ _ _ (by decide)]; exact a11 rfl
  · rw [hfx 204 (by decide) (by decide) (by decide), pf_1 _ _ _ (by decide)]; exact g7.1
  · rw [hfx 205 (by decide) (by decide) (by decide)]; exact g7.2
  · rw [pf_1 _ _ _ (by decide)]; exact nb_mono g8 (Nat.le_add_right _ _)
  · intro q' hq' hb'
    rcases List.mem_append.mp hq' with r | r
    · rcases p1 q' r hb' with c | c
      · cases c
      · have h15 := pf_15o M l.length q.1 (hqn q' r)
        exact Or.inr (c.mv F (hd q' r).2 (fun x hx => by have := d9 x (d1 q' r x hx); omega) sub60 h15.1 h15.2)
    · rw [List.mem_singleton.mp r]; exact Or.inr hp
  · intro q' hq' h4
    rcases List.mem_append.mp hq' with r | r
    · have hn := hbl.1 q' hq' h4
      have h15 := pf_15o M l.length q.1 (hqn q' r)
      rw [F.2.1 _ hn 0 (by decide), F.2.1 _ hn 1 (by decide), F.2.1 _ hn 2 (by decide), F.2.1 _ hn 3 (by decide), F.2.2.2.1 q'.1 (fun c => hn (Or.inl c.1)), h15.1, h15.2]
      exact p2 q' r h4
    · rw [List.mem_singleton.mp r] at h4
      exact absurd h4 (boxy_n4 (sub60 q.1 (by simp)) hb)
  · intro w hw
    have hn := hbl.2 w hw
    rw [F.2.1 _ hn 0 (by decide), F.2.1 _ hn 1 (by decide), pf_2 _ _ _ (by decide), pf_2 _ _ _ (by decide)]
    exact p3 w hw
  · intro n hn
    rcases List.mem_append.mp hn with r | r
    · obtain ⟨k, r1, r2⟩ := d3 n r
      exact ⟨k, List.mem_append_left _ r1, r2⟩
    · rw [List.mem_singleton.mp r]; exact ⟨q.2, hqV, hb⟩
  · simp only [List.map_nil, List.append_nil] at d5 ⊢
    rw [List.nodup_append]
    refine ⟨d5, by simp, fun a ha b hb' e => ?_⟩
    rw [List.mem_singleton.mp hb'] at e
    obtain ⟨k, r1, _⟩ := d3 a ha
    exact hqn _ r1 e
  · simp only [List.length_append, List.length_singleton, List.length_nil] at g12 ⊢
    omega
/-- a float waits -/
theorem SMl.wait (h : SMl xs K A P nn W i f D T ox oy S M l wl bl [] V VW B) (hbl : ¬ bl = []) (hT : ∀ x ∈ sub q, x ∈ T) (hd : apart V q) (hb : ¬ f_isBox P (nI q.1) = 0) (hok : flt_ok xs K A P nn W i f D T q) (hV : V.length < 60)
    (hX : cl_X [207, 208, 515] S S') (hf' : ∀ g, g = 207 ∨ g = 208 → ∀ f', ¬ f' = f → S'.2.1 g f' = S.2.1 g f') (h5 : ∀ m, ¬ m = q.1 → m ∉ wl.map (·.1) → S'.2.1 515 m = S.2.1 515 m) (hc : chn (S'.2.1 515) (wl.map (·.1) ++ [q.1]) (S'.2.1 207 f)) (hl : S'.2.1 208 f = nI q.1) : FR P W T T f S S' ∧ SMl xs K A P nn W i f D T ox oy S' (f_wait M q.1) l (wl ++ [q]) bl [] (V ++ [q]) VW B := by
  obtain ⟨g1, g2, g3, g4, g5, g6, g7, g8, ⟨p1, p2, p3⟩, g10, g11, g12, g13⟩ := h
  rw [List.append_nil] at p2 p3 g10
  have hds := g10
  obtain ⟨d1, d2, d3, d4, d5, d6, d7, d8, d9, d10, d11⟩ := g10
  have eq : ∀ g, g ∉ [207, 208, 515] → S'.2.1 g = S.2.1 g := hX.2.2
  have hds' := hds.addV hT hd
  have hqV : q ∈ V ++ [q] := by simp
  have hqn : ∀ q' ∈ V, ¬ q'.1 = q.1 := fun q' hq' e => (hd q' hq').2 q'.1 (by simp) (by rw [e]; simp)
  have FT : FR P W T T f S S' := by
    refine ⟨hX.sub (by decide), fun b _ g hg => by rw [eq g (by simp; omega)], fun b _ => by rw [eq 2 (by decide), eq 3 (by decide)]; exact ⟨rfl, rfl⟩, fun m _ => by rw [eq 511 (by decide)], fun m hm => h5 m (fun e => hm (by rw [e]; exact hT _ (by simp))) (fun r => ?_), fun g a1 a2 f' hf2 => ?_⟩
    · obtain ⟨q', hq', rfl⟩ := List.mem_map.mp r
      exact hm (d1 q' (d4 q' hq').1 _ (by simp))
    · by_cases c : g = 207 ∨ g = 208
      · exact hf' g c f' (by omega)
      · rw [eq g (by simp; omega)]
  have e1 : ∀ g, ¬ g = 53 → (f_wait M q.1).1 g = M.1 g := fun g hg => by unfold f_wait; rw [md_up1_ne _ hg]; rfl
  have e2 : ∀ a, ¬ a = 52 → (f_wait M q.1).2 a = M.2 a := fun a ha => by unfold f_wait; rw [md_up1_2, md_up2_ne _ ha]
  have ewl : (M.1 53).toNatClampNeg = wl.length := by rw [g5.1, nI_clamp (by omega)]
  have hflts : ∀ c, md_flts (f_wait M q.1) c = md_flts M c := by
    intro c
    unfold md_flts md_flt
    rw [e2 47 (by decide), e2 48 (by decide), e2 49 (by decide), e2 50 (by decide), e2 51 (by decide)]
  have hln : ∀ n ∈ l, S'.2.1 515 n = S.2.1 515 n := by
    intro n hn
    refine h5 n (fun e => ?_) (fun r => ?_)
    · obtain ⟨k, r1, _⟩ := d3 n hn
      exact hqn _ r1 e
    · exact (List.nodup_append.mp d5).2.2 n hn n r rfl
  refine ⟨FT, g1.fr FT, g2.x (fun a ha => e2 a (fun c => ha (by rw [c]; decide))) (e2 18 (by decide)), g3.mv (fun g hg => by rw [eq g ((show ∀ g ∈ [200, 201, 202, 203, 100, 101], g ∉ [207, 208, 515] by decide) g hg)]) (e1 55 (by decide)) (e1 43 (by decide)), ?_, ?_, ?_, ?_, ?_, ⟨?_, ?_, ?_⟩, ⟨hds'.1, hds'.2.1, hds'.2.2.1, ?_, ?_, by rw [List.append_nil]; exact hds'.2.2.2.2.2.1, by rw [List.append_nil]; exact d7, hds'.2.2.2.2.2.2.2⟩, ?_, ?_, fun c => absurd c hbl⟩
  · unfold si_fl at g4 ⊢
    rw [hflts, e1 46 (by decide), eq 102 (by decide), eq 103 (by decide), eq 104 (by decide), eq 105 (by decide)]
    obtain ⟨a1, a2, a3, a4, a5, a6⟩ := g4
    exact ⟨a1, a2, chn_mv hln a3, a4, fl_L_mv (fun n _ => by rw [eq 0 (by decide), eq 1 (by decide), eq 2 (by decide), eq 3 (by decide)]; exact ⟨rfl, rfl, rfl, rfl⟩) a5, a6⟩
  · refine ⟨?_, ?_, ?_, ?_⟩
    · unfold f_wait
      rw [md_up1_at, g5.1, nI_1]
      simp
    · simp only [List.map_append, List.map_cons, List.map_nil]; exact hc
    · simp only [List.map_append, List.map_cons, List.map_nil]; rw [lst_app]; exact hl
    · intro k n hk
      unfold f_wait
      rw [md_up1_2, ewl]
      simp only [List.map_append, List.map_cons, List.map_nil] at hk
      by_cases c : k = wl.length
      · subst c
        rw [List.getElem?_append_right (by simp), show wl.length - (wl.map (·.1)).length = 0 by simp] at hk
        have : n = q.1 := by simpa using hk.symm
        rw [this, md_up2_at]
      · have hkl : k < (wl.map (·.1)).length := by
          have := (List.getElem?_eq_some_iff.mp hk).1
          simp at this ⊢
          omega
        rw [List.getElem?_append_left hkl] at hk
        rw [md_up2_off _ _ c]
        exact g5.2.2.2 k n hk
  · unfold si_ln at g6 ⊢
    rw [eq 4 (by decide), eq 400 (by decide), eq 401 (by decide), eq 404 (by decide), eq 0 (by decide), eq 3 (by decide), eq 403 (by decide), eq 402 (by decide), e1 41 (by decide), e1 42 (by decide), e1 40 (by decide), e1 39 (by decide), e1 37 (by decide), e2 44 (by decide), e2 45 (by decide)]
    exact g6
  · rw [eq 204 (by decide), eq 205 (by decide), e1 37 (by decide)]; exact g7
  · rw [e1 55 (by decide)]; exact g8
  · intro q' hq' hb'
    rcases List.mem_append.mp hq' with r | r
    · rcases p1 q' r hb' with c | c
      · exact Or.inl (List.mem_append_left _ c)
      · exact Or.inr (c.ag (fun b _ => by rw [eq 0 (by decide), eq 1 (by decide), eq 2 (by decide), eq 3 (by decide)]; exact ⟨rfl, rfl, rfl, rfl⟩) (fun m _ => by rw [eq 511 (by decide)]) (by rw [e2 15 (by decide)]) (by rw [e2 16 (by decide)]))
    · rw [List.mem_singleton.mp r]; exact Or.inl (by simp)
  · intro q' hq' h4
    rcases List.mem_append.mp hq' with r | r
    · rw [eq 0 (by decide), eq 1 (by decide), eq 2 (by decide), eq 3 (by decide), eq 511 (by decide), e2 15 (by decide), e2 16 (by decide), List.append_nil]
      exact p2 q' r h4
    · rw [List.mem_singleton.mp r] at h4
      have := d9 _ (hT q.1 (by simp))
      exact absurd h4 (boxy_n4 (by omega) hb)
  · rw [eq 0 (by decide), eq 1 (by decide), e2 33 (by decide), e2 34 (by decide), List.append_nil]
    exact p3
  · intro q' hq'
    rcases List.mem_append.mp hq' with r | r
    · exact ⟨List.mem_append_left _ (d4 q' r).1, (d4 q' r).2⟩
    · rw [List.mem_singleton.mp r]; exact ⟨hqV, hb⟩
  · simp only [List.map_append, List.map_cons, List.map_nil]
    rw [← List.append_assoc, List.nodup_append]
    refine ⟨d5, by simp, fun a ha b hb' e => ?_⟩
    rw [List.mem_singleton.mp hb'] at e
    rcases List.mem_append.mp ha with r | r
    · obtain ⟨k, r1, _⟩ := d3 a r
      exact hqn _ r1 e
    · obtain ⟨q', hq', rfl⟩ := List.mem_map.mp r
      exact hqn q' (d4 q' hq').1 e
  · intro q' hq'
    rcases List.mem_append.mp hq' with r | r
    · exact g11 q' r
    · rw [List.mem_singleton.mp r]; exact hok
  · simp only [List.length_append, List.length_singleton] at g12 ⊢
    omega
end SMY
