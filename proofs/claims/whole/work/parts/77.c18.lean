/-! the class: an item comes on the line (by hand: wip/whole/gen/c18.py) -/
theorem kk_endLine0 {xs : List Int32} {K : Nat → Prop} {d : Nat} {A : cl_A} {S : cl_S} {f : Nat} (hf : cl_f S (nI f)) (hf13 : f < 13) (he : S.2.1 400 f = -1) : ∀ Q', Q' none A S → cl_C xs K (d + 3) 83 [cl_rf A 3 0, cl_rf A 2 (nI f)] A S Q' := by
  intro Q' hQ
  have cf : (nI f).toNatClampNeg = f := nI_clamp (by omega)
  have e : g_empty S (nI f) = 1 := by
    unfold g_empty
    rw [cf, if_neg (fun q => q he)]
  refine cl_intro (ms83 xs) (Nat.le_of_ble_eq_true rfl) (fun h0 => vc83_0 ⟨hf, fun c => ?_, fun _ => hQ⟩)
  rw [e] at c
  exact absurd c (by decide)
/-- a change of codes that the relation doesn't read at this flow -/
theorem SMl.fl {xs : List Int32} {K : Nat → Prop} {A : cl_A} {P : md_S} {nn W i f D : Nat} {T : List Nat} {ox oy : Int32} {S S' : cl_S} {M : md_S} {l : List Nat} {wl : List (Nat × bt)} {bl ex : List Nat} {V : List (Nat × bt)} {VW : List Nat} {B : Nat} (h : SMl xs K A P nn W i f D T ox oy S M l wl bl ex V VW B) (hX : cl_X [206] S S') (hf : ∀ f', ¬ f' = f → S'.2.1 206 f' = S.2.1 206 f') : FR P W T T f S S' ∧ SMl xs K A P nn W i f D T ox oy S' M l wl bl ex V VW B := by
  have F : FR P W T T f S S' := FR.flow hX (by decide) (fun g g1 g2 f' hf' => by
    by_cases c : g = 206
    · rw [c]; exact hf f' (by omega)
    · rw [hX.2.2 g (by simp [c])])
  have eq : ∀ g, g ≠ 206 → S'.2.1 g = S.2.1 g := fun g hg => hX.2.2 g (by simp [hg])
  obtain ⟨h1, h2, h3, h4, h5, h6, h7, h8, h9, h10, h11, h12, h13⟩ := h
  refine ⟨F, h1.fr F, h2, h3.mv (fun g hg => by rw [eq g ((show ∀ g ∈ [200, 201, 202, 203, 100, 101], g ≠ 206 by decide) g hg)]) rfl rfl, ?_, ?_, ?_, ?_, h8, ?_, h10, h11, h12, h13⟩
  · unfold si_fl at h4 ⊢
    rw [eq 515 (by decide), eq 102 (by decide), eq 103 (by decide), eq 104 (by decide), eq 105 (by decide)]
    obtain ⟨a1, a2, a3, a4, a5, a6⟩ := h4
    exact ⟨a1, a2, a3, a4, fl_L_mv (fun n _ => by rw [eq 0 (by decide), eq 1 (by decide), eq 2 (by decide), eq 3 (by decide)]; exact ⟨rfl, rfl, rfl, rfl⟩) a5, a6⟩
  · unfold si_wt at h5 ⊢
    rw [eq 515 (by decide), eq 207 (by decide), eq 208 (by decide)]
    exact h5
  · unfold si_ln at h6 ⊢
    rw [eq 4 (by decide), eq 400 (by decide), eq 401 (by decide), eq 404 (by decide), eq 0 (by decide), eq 3 (by decide), eq 403 (by decide), eq 402 (by decide)]
    exact h6
  · rw [eq 204 (by decide), eq 205 (by decide)]
    exact h7
  · obtain ⟨p1, p2, p3⟩ := h9
    refine ⟨fun q hq hb => (p1 q hq hb).imp id (fun r => r.ag (fun b _ => by rw [eq 0 (by decide), eq 1 (by decide), eq 2 (by decide), eq 3 (by decide)]; exact ⟨rfl, rfl, rfl, rfl⟩) (fun m _ => by rw [eq 511 (by decide)]) rfl rfl), ?_, ?_⟩
    · rw [eq 0 (by decide), eq 1 (by decide), eq 2 (by decide), eq 3 (by decide), eq 511 (by decide)]
      exact p2
    · rw [eq 0 (by decide), eq 1 (by decide)]
      exact p3
theorem cl_up_X206 (S : cl_S) (f : Nat) (x : Int32) : cl_X [206] S (cl_up S 206 f x) ∧ ∀ f', ¬ f' = f → (cl_up S 206 f x).2.1 206 f' = S.2.1 206 f' := ⟨cl_X.rf.up (by decide) _ _, fun f' h => cl_up_ne2 _ _ _ _ h⟩
/-- a box comes on the line, at at_, with the line's edges as the ghost has them -/
theorem SMl.item {xs : List Int32} {K : Nat → Prop} {A : cl_A} {P : md_S} {nn W i f D : Nat} {T : List Nat} {ox oy : Int32} {S S1 S' : cl_S} {M : md_S} {l : List Nat} {wl : List (Nat × bt)} {bl : List Nat} {b : Nat} {V : List (Nat × bt)} {VW : List Nat} {B C : Nat} {a w at_ y e39 : Int32} (h : SMl xs K A P nn W i f D T ox oy S M l wl bl [b] V VW B) (hit : it_b W a b) (hbw2 : S.2.1 2 b = w) (hbh : S.2.1 3 b = f_itemHigh P a) (hM : f_itemHigh M a = f_itemHigh P a) (hh : nz C (f_itemHigh P a)) (hat : nb (B + C) (at_ + w)) (h39 : nb B e39) (hy : nz B y) (hy42 : bl = [] ∨ y = M.1 37) (hC : 1 ≤ C) (hwl : bl = [] ∨ ¬ bl = [] ∧ True)
    (x1 : cl_X [204, 402, 403] S S1) (f1 : ∀ g, 100 ≤ g → g < 500 → ∀ f', ¬ f' = f → S1.2.1 g f' = S.2.1 g f') (y1 : S1.2.1 204 f = y + oy) (z2 : S1.2.1 402 f = e39 + ox)
    (x2 : cl_X [0, 4, 400, 401, 403, 404] S1 S') (f2 : ∀ g, g = 400 ∨ g = 401 ∨ g = 403 ∨ g = 404 → ∀ f', ¬ f' = f → S'.2.1 g f' = S1.2.1 g f') (c2 : ∀ m, ¬ m = b → m ∉ bl → S'.2.1 4 m = S1.2.1 4 m) (o2 : ∀ m, ¬ m = b → S'.2.1 0 m = S1.2.1 0 m) (k2 : chn (S'.2.1 4) (bl ++ [b]) (S'.2.1 400 f)) (l2 : S'.2.1 401 f = nI b) (b2 : S'.2.1 0 b = at_ + ox) (r2 : S'.2.1 403 f = at_ + ox + w) (h2 : S'.2.1 404 f = f_more (S1.2.1 404 f) (S1.2.1 3 b)) (N : md_S) (hN1 : ∀ g, g ∉ [37, 38, 39, 40, 41, 42, 54] → N.1 g = M.1 g) (hN2 : ∀ a, a ∉ [44, 45] → N.2 a = M.2 a) (n37 : N.1 37 = y) (n39 : N.1 39 = e39) (n40 : N.1 40 = at_ + w) (n41 : N.1 41 = nI (bl.length + 1)) (n42 : N.1 42 = f_more (M.1 42) (f_itemHigh M a)) (n44 : ∀ k, N.2 44 k = if k = bl.length then a else M.2 44 k) (n45 : ∀ k, N.2 45 k = if k = bl.length then at_ else M.2 45 k) : FR P W T T f S S' ∧ SMl xs K A P nn W i f D T ox oy S' N l wl (bl ++ [b]) [] V VW (B + C) := by
  obtain ⟨g1, g2, g3, g4, g5, g6, g7, g8, g9, g10, g11, g12, g13⟩ := h
  have eqA : ∀ g, g ∉ [0, 4, 204, 400, 401, 402, 403, 404] → S'.2.1 g = S.2.1 g := by
    intro g hg
    simp only [List.mem_cons, List.not_mem_nil, or_false, not_or] at hg
    rw [x2.2.2 g (by simp [hg]), x1.2.2 g (by simp [hg])]
  have hbT : inT P W T b := g10.blT (List.mem_append_right _ (by simp))
  have hblT : ∀ m ∈ bl, inT P W T m := fun m hm => g10.blT (List.mem_append_left _ hm)
  have F : FR P W T T f S S' := by
    refine ⟨((x1.sub (by decide)).tr (x2.sub (by decide))), fun m hm g hg => ?_, fun m hm => by rw [eqA 2 (by decide), eqA 3 (by decide)]; exact ⟨rfl, rfl⟩, fun m _ => by rw [eqA 511 (by decide)], fun m _ => by rw [eqA 515 (by decide)], fun g a1 a2 f' hf' => ?_⟩
    · have hmb : ¬ m = b := fun e => hm (by rw [e]; exact hbT)
      have hml : m ∉ bl := fun e => hm (hblT m e)
      by_cases c0 : g = 0
      · rw [c0, o2 m hmb, x1.2.2 0 (by decide)]
      · by_cases c4 : g = 4
        · rw [c4, c2 m hmb hml, x1.2.2 4 (by decide)]
        · rw [eqA g (by simp; omega)]
    · by_cases c : g = 400 ∨ g = 401 ∨ g = 403 ∨ g = 404
      · rw [f2 g c f' (by omega), f1 g a1 a2 f' (by omega)]
      · rw [x2.2.2 g (by simp; omega), f1 g a1 a2 f' (by omega)]
  have hnb : ∀ m, ¬ m = b → S'.2.1 0 m = S.2.1 0 m := fun m hm => by rw [o2 m hm, x1.2.2 0 (by decide)]
  obtain ⟨q1, q2, q3, q4, q5, q6, q7, q8, q9, q10, q11⟩ := g6
  have hbnl : b ∉ bl := by
    have := g10.2.2.2.2.2.2.1
    rw [List.nodup_append] at this
    exact fun r => this.2.2 b r b (by simp) rfl
  have h42 : (M.1 42).toInt + y.toInt ≤ B := by
    rcases hy42 with c | c
    · rw [q11 c, lit_0]; have := hy.2; omega
    · rw [c]; omega
  have e42 : S'.2.1 404 f = N.1 42 := by rw [h2, x1.2.2 404 (by decide), x1.2.2 3 (by decide), q5, hbh, n42, hM]
  refine ⟨F, g1.fr F, g2.x (fun a ha => hN2 a (fun r => ha ((show ∀ a ∈ [44, 45], a ∈ X_C by decide) a r))) (hN2 18 (by decide)), g3.mv (fun g hg => by rw [eqA g ((show ∀ g ∈ [200, 201, 202, 203, 100, 101], g ∉ [0, 4, 204, 400, 401, 402, 403, 404] by decide) g hg)]) (hN1 55 (by decide)) (hN1 43 (by decide)), ?_, ?_, ⟨?_, ?_, ?_, ?_, e42, ?_, ?_, ?_, ?_, ?_, ?_⟩, ⟨?_, ?_⟩, by rw [hN1 55 (by decide)]; exact nb_mono g8 (by omega), ?_, by rw [List.append_nil]; exact g10, g11, g12, ?_⟩
  · have hfl : ∀ c, md_flts N c = md_flts M c := by
      intro c
      unfold md_flts md_flt
      rw [hN2 47 (by decide), hN2 48 (by decide), hN2 49 (by decide), hN2 50 (by decide), hN2 51 (by decide)]
    unfold si_fl at g4 ⊢
    rw [hfl, hN1 46 (by decide), eqA 515 (by decide), eqA 102 (by decide), eqA 103 (by decide), eqA 104 (by decide), eqA 105 (by decide)]
    obtain ⟨a1, a2, a3, a4, a5, a6, a7, a8⟩ := g4
    refine ⟨a1, a2, a3, a4, fl_L_mv (fun n hn => ?_) a5, a6, a7, fun q hq => (a8 q hq).mono (by omega)⟩
    have : ¬ n = b := by
      intro e
      obtain ⟨k, hk, hb⟩ := g10.2.2.1 n hn
      exact g10.nbl hk hb (b := n) (Or.inl (by simp)) (by rw [e]; simp)
    rw [hnb n this, eqA 1 (by decide), eqA 2 (by decide), eqA 3 (by decide)]
    exact ⟨rfl, rfl, rfl, rfl⟩
  · unfold si_wt at g5 ⊢
    rw [eqA 515 (by decide), eqA 207 (by decide), eqA 208 (by decide), hN1 53 (by decide), hN2 52 (by decide)]
    exact g5
  · rw [n41]; simp
  · simp; omega
  · exact k2
  · rw [l2, lst_app]
  · intro k m hk
    by_cases c : k = bl.length
    · subst c
      rw [List.getElem?_append_right (Nat.le_refl _), Nat.sub_self] at hk
      have hm : m = b := by simpa using hk.symm
      subst hm
      rw [n44, n45, if_pos rfl, if_pos rfl, eqA 3 (by decide)]
      exact ⟨hit, b2, hbh⟩
    · have hkl : k < bl.length := by
        have := (List.getElem?_eq_some_iff.mp hk).1
        simp at this
        omega
      rw [List.getElem?_append_left hkl] at hk
      have hmb : ¬ m = b := fun e => hbnl (by rw [← e]; exact List.mem_of_getElem? hk)
      rw [n44, n45, if_neg c, if_neg c, hnb m hmb, eqA 3 (by decide)]
      exact q6 k m hk
  · intro _
    rw [r2, n40, n39]
    refine ⟨by grind, ?_, nb_mono h39 (by omega), hat⟩
    rw [x2.2.2 402 (by decide), z2]
  · rw [n42, hM]
    unfold nz at *
    rw [more_toInt]
    omega
  · rw [n37]; exact nz_mono hy (by omega)
  · rw [n37, n42, hM, more_toInt]
    have := hh.2
    have := hy.2
    have := q8.1
    omega
  · intro c
    simp at c
  · rw [n37, x2.2.2 204 (by decide)]; exact y1
  · rw [eqA 205 (by decide)]; exact g7.2
  · obtain ⟨p1, p2, p3⟩ := g9
    rw [List.append_nil]
    refine ⟨fun q hq hb => (p1 q hq hb).imp id (fun r => r.ag (fun m hm => by
      have : ¬ m = b := fun e => g10.nbl hq hb hm (by rw [e]; simp)
      rw [hnb m this, eqA 1 (by decide), eqA 2 (by decide), eqA 3 (by decide)]
      exact ⟨rfl, rfl, rfl, rfl⟩) (fun m _ => by rw [eqA 511 (by decide)]) (by rw [hN2 15 (by decide)]) (by rw [hN2 16 (by decide)])), fun q hq h4 => ?_, fun w' hw' => ?_⟩
    · obtain ⟨r1, r2'⟩ := p2 q hq h4
      rw [eqA 1 (by decide), eqA 2 (by decide), eqA 3 (by decide), eqA 511 (by decide), hN2 15 (by decide), hN2 16 (by decide)]
      refine ⟨r1, ?_⟩
      by_cases c : q.1 = b
      · exact Or.inl (by rw [c]; simp)
      · rw [hnb _ c]; exact r2'
    · rw [eqA 1 (by decide), hN2 33 (by decide), hN2 34 (by decide)]
      by_cases c : 60 + w' = b
      · exact Or.inl (by rw [c]; simp)
      · rw [hnb _ c]; exact p3 w' hw'
  · intro c
    simp at c
