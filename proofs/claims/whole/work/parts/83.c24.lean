/-! the class: pieces and breaks (by hand: wip/whole/gen/c24.py) -/
section ADG
variable {xs : List Int32} {K : Nat → Prop} {A : cl_A} {P : md_S} {nn W i f D E : Nat} {T : List Nat} {ox oy : Int32} {S S' : cl_S} {M : md_S} {l : List Nat} {wl : List (Nat × bt)} {bl : List Nat} {V : List (Nat × bt)} {VW : List Nat} {B : Nat} {q : Nat × bt}
/-- a piece comes -/
theorem SMl.addP (h : SMl xs K A P nn W i f D T ox oy S M l wl bl [] V VW B) (hT : ∀ x ∈ sub q, x ∈ T) (hd : apart V q) (h4 : P.2 12 q.1 = 4) (hX : cl_X [511, 2, 3] S S') (hne : ∀ g, ∀ m, ¬ m = q.1 → S'.2.1 g m = S.2.1 g m) (e2 : S'.2.1 2 q.1 = P.2 17 q.1) (e3 : S'.2.1 3 q.1 = P.2 18 q.1) (e511 : S'.2.1 511 q.1 = 1) : FR P W T T f S S' ∧ SMl xs K A P nn W i f D T ox oy S' M l wl bl [q.1] (V ++ [q]) VW B := by
  obtain ⟨g1, g2, g3, g4, g5, g6, g7, g8, ⟨p1, p2, p3⟩, g10, g11, g12, g13⟩ := h
  rw [List.append_nil] at p2 p3 g10
  have hds := g10
  obtain ⟨d1, d2, d3, d4, d5, d6, d7, d8, d9, d10, d11⟩ := g10
  have eq : ∀ g, g ∉ [511, 2, 3] → S'.2.1 g = S.2.1 g := hX.2.2
  have hqT := hT q.1 (by simp)
  have hq60 : q.1 < 60 := by have := d9 _ hqT; omega
  have hqn : ∀ q' ∈ V, ∀ x ∈ sub q', ¬ x = q.1 := fun q' hq' x hx e => (hd q' hq').2 x hx (by rw [e]; simp)
  have hds' := hds.addV hT hd
  have hqb : q.1 ∉ bl := by
    intro r
    rcases d6 q.1 r with ⟨k, r1, _⟩ | ⟨w, _, r2⟩
    · exact hqn _ r1 q.1 (by simp) rfl
    · omega
  have FT : FR P W T T f S S' := ⟨hX.sub (by decide), fun b hb g _ => hne g b (fun e => hb (Or.inl (by rw [e]; exact hqT))), fun b hb => ⟨hne 2 b (by omega), hne 3 b (by omega)⟩, fun m hm => hne 511 m (fun e => hm ⟨by rw [e]; exact hqT, by rw [e]; exact Or.inr h4⟩), fun m _ => by rw [eq 515 (by decide)], fun g a1 a2 f' _ => by rw [eq g (by simp; omega)]⟩
  refine ⟨FT, g1.fr FT, g2, g3.mv (fun g hg => by rw [eq g ((show ∀ g ∈ [200, 201, 202, 203, 100, 101], g ∉ [511, 2, 3] by decide) g hg)]) rfl rfl, ?_, ?_, ?_, ?_, g8, ⟨?_, ?_, ?_⟩, ⟨hds'.1, hds'.2.1, hds'.2.2.1, hds'.2.2.2.1, d5, ?_, ?_, hds'.2.2.2.2.2.2.2⟩, g11, by simp; omega, g13⟩
  · unfold si_fl at g4 ⊢
    rw [eq 515 (by decide), eq 102 (by decide), eq 103 (by decide), eq 104 (by decide), eq 105 (by decide)]
    obtain ⟨a1, a2, a3, a4, a5, a6⟩ := g4
    refine ⟨a1, a2, a3, a4, fl_L_mv (fun n hn => ?_) a5, a6⟩
    obtain ⟨k, r1, _⟩ := d3 n hn
    have := hqn _ r1 n (by simp)
    exact ⟨hne 0 n this, hne 1 n this, hne 2 n this, hne 3 n this⟩
  · unfold si_wt at g5 ⊢
    rw [eq 515 (by decide), eq 207 (by decide), eq 208 (by decide)]
    exact g5
  · unfold si_ln at g6 ⊢
    rw [eq 4 (by decide), eq 400 (by decide), eq 401 (by decide), eq 404 (by decide), eq 0 (by decide), eq 403 (by decide), eq 402 (by decide)]
    obtain ⟨a1, a2, a3, a4, a5, a6, a7⟩ := g6
    refine ⟨a1, a2, a3, a4, a5, fun k b hk => ?_, a7⟩
    rw [hne 3 b (fun e => hqb (by rw [← e]; exact List.mem_of_getElem? hk))]
    exact a6 k b hk
  · rw [eq 204 (by decide), eq 205 (by decide)]; exact g7
  · intro q' hq' hb'
    rcases List.mem_append.mp hq' with r | r
    · refine (p1 q' r hb').imp id (fun c => c.ag (fun b hb => ?_) (fun m hm => hne 511 m (hqn q' r m hm)) rfl rfl)
      have : ¬ b = q.1 := by
        rintro rfl
        rcases hb with hb | ⟨w, m, r1, _⟩
        · exact hqn q' r _ hb rfl
        · omega
      exact ⟨hne 0 b this, hne 1 b this, hne 2 b this, hne 3 b this⟩
    · rw [List.mem_singleton.mp r] at hb'
      exact absurd h4 (boxy_n4 hq60 hb')
  · intro q' hq' h4'
    rcases List.mem_append.mp hq' with r | r
    · have := hqn q' r q'.1 (by simp)
      rw [hne 0 _ this, hne 1 _ this, hne 2 _ this, hne 3 _ this, hne 511 _ this]
      exact ⟨(p2 q' r h4').1, (p2 q' r h4').2.imp (fun c => List.mem_append_left _ c) id⟩
    · rw [List.mem_singleton.mp r]
      exact ⟨⟨e2, e3, e511⟩, Or.inl (by simp)⟩
  · intro w hw
    rw [eq 0 (by decide), eq 1 (by decide)]
    exact (p3 w hw).imp (fun c => List.mem_append_left _ c) id
  · intro b hb
    rcases List.mem_append.mp hb with r | r
    · exact hds'.2.2.2.2.2.1 b r
    · rw [List.mem_singleton.mp r]
      exact Or.inl ⟨q.2, by simp, h4⟩
  · rw [List.nodup_append]
    refine ⟨d7, by simp, fun a ha b hb' e => ?_⟩
    rw [List.mem_singleton.mp hb'] at e
    exact hqb (by rw [← e]; exact ha)
theorem cs_ge (P : md_S) (n : Nat) (k : bt) : 600000 ≤ cs P n k := by
  unfold cs
  omega
/-- a piece on the line -/
theorem kk_inl4 (hSP : SP P nn W) (hib : f_boxy P i) (hi : i < nn) (hf13 : f < 13) (hox : nb ((f + 1) * 67108864 + 59) ox) (hoy : nb ((f + 1) * 67108864 + 59) oy) (h : SMl xs K A P nn W i f D T ox oy (bgn S f) M l wl bl [] V VW B) (hbk : bkR (bgn S f) M f bl) (hT : ∀ x ∈ sub q, x ∈ T) (hd : apart V q) (hk : P.2 3 q.1 = 3) (h4 : P.2 12 q.1 = 4) (h17 : P.2 17 q.1 = if ¬ f_told P (nI q.1) (f_inner P (nI i)) = -1 then f_told P (nI q.1) (f_inner P (nI i)) else 8) (h18 : P.2 18 q.1 = f_hv P q.1) (hV : V.length < 59) (hB : B + csq P wl + cs P q.1 q.2 ≤ 67108000) (hD : 21 ≤ D) (hE : D + 3 ≤ E) : ∀ Q', (∀ S' l' wl' bl' B', FR P W T T f S S' → SMl xs K A P nn W i f D T ox oy S' (f_pi M (-1 - nI q.1) (M.2 17 q.1) (f_of M (nI q.1) 8)) l' wl' bl' [] (V ++ [q]) VW B' → B' + csq P wl' ≤ B + csq P wl + cs P q.1 q.2 → bkR S' (f_pi M (-1 - nI q.1) (M.2 17 q.1) (f_of M (nI q.1) 8)) f bl' → (M.1 37).toInt ≤ ((f_pi M (-1 - nI q.1) (M.2 17 q.1) (f_of M (nI q.1) 8)).1 37).toInt → Q' none A S') → cl_C xs K E 78 [cl_rf A 3 0, cl_rf A 2 (nI f), cl_rf A 5 (nI q.1)] A S Q' := by
  intro Q' hQ
  have hT0 := h.1.1
  have h60 := hT0.1
  have cf : (nI f).toNatClampNeg = f := nI_clamp (by omega)
  have hds := h.2.2.2.2.2.2.2.2.2.1
  have hn : q.1 < nn := hds.2.2.2.2.2.2.2.2.1 _ (hT q.1 (by simp))
  have cn : (nI q.1).toNatClampNeg = q.1 := hT0.cl hn
  have hX := bgn_X S f
  have hf : cl_f S (nI f) := (hT0.2.2.1 f hf13).mv hX.1.symm
  have hz : cl_z S := hT0.2.1.mv hX.1.symm
  have hnn : cl_n S (nI q.1) := (hT0.n hn).mv hX.1.symm
  have e501 : S.2.1 501 q.1 = 3 := by
    rw [← hk, ← hT0.kind hn, hX.2.2 501 (by decide)]
  have hTS : cl_T S P nn := hT0.mv hX.1.symm (fun g hg => (hX.2.2 g ((show ∀ g ∈ X_st, g ∉ [204, 205] by decide) g hg)).symm)
  have hSPn := hSP.1 q.1 hn
  have hin := inner_nz (hSP.1 i hi) (by omega) hib
  have e203 : S.2.1 203 f = f_inner P (nI i) := by
    rw [← hX.2.2 203 (by decide), h.2.2.1.2.2.2.1, h.2.2.1.2.2.2.2.1]
  have etold : g_told S (nI q.1) (S.2.1 203 f) 8 = P.2 17 q.1 := by
    rw [e203, g_told_eq hTS hn hSPn hin, h17]
    by_cases c : f_told P (nI q.1) (f_inner P (nI i)) = -1
    · rw [if_pos c, if_neg (fun r => r c)]
    · rw [if_neg c, if_pos c]
  obtain ⟨d', rfl⟩ : ∃ d', E = d' + 2 + 1 := ⟨E - 3, by omega⟩
  refine cl_intro (ms78 xs) (Nat.le_of_ble_eq_true rfl) (fun h0 => vc78_0 ⟨hf, hnn, ?_⟩)
  rw [cn, e501, cf, hTS.h3 hn, hTS.h8 hn, etold]
  refine ⟨fun _ => ⟨fun c => absurd rfl c, fun _ => ⟨hz, ?_⟩⟩, fun c => absurd (by decide) c⟩
  show cl_C xs K (d' + 2) 80 [cl_rf A 3 0, cl_rf A 2 (nI f), cl_rf A 0 (nI q.1), .int (f_of P (nI q.1) 8)] A (cl_up (cl_up (cl_up (bgn S f) 511 q.1 1) 2 q.1 (P.2 17 q.1)) 3 q.1 (f_hv P q.1)) _
  rw [← h18]
  have hXp : cl_X [511, 2, 3] (bgn S f) (cl_up (cl_up (cl_up (bgn S f) 511 q.1 1) 2 q.1 (P.2 17 q.1)) 3 q.1 (P.2 18 q.1)) := ((cl_X.rf.up (by decide) _ _).up (by decide) _ _).up (by decide) _ _
  have hne : ∀ g, ∀ m, ¬ m = q.1 → (cl_up (cl_up (cl_up (bgn S f) 511 q.1 1) 2 q.1 (P.2 17 q.1)) 3 q.1 (P.2 18 q.1)).2.1 g m = (bgn S f).2.1 g m := fun g m hm => by rw [cl_up_ne2 _ _ _ _ hm, cl_up_ne2 _ _ _ _ hm, cl_up_ne2 _ _ _ _ hm]
  have b2 : (cl_up (cl_up (cl_up (bgn S f) 511 q.1 1) 2 q.1 (P.2 17 q.1)) 3 q.1 (P.2 18 q.1)).2.1 2 q.1 = P.2 17 q.1 := by rw [cl_up_ne1 _ _ _ _ (by decide), cl_up_at]
  have b3 : (cl_up (cl_up (cl_up (bgn S f) 511 q.1 1) 2 q.1 (P.2 17 q.1)) 3 q.1 (P.2 18 q.1)).2.1 3 q.1 = P.2 18 q.1 := cl_up_at _ _ _ _
  have b511 : (cl_up (cl_up (cl_up (bgn S f) 511 q.1 1) 2 q.1 (P.2 17 q.1)) 3 q.1 (P.2 18 q.1)).2.1 511 q.1 = 1 := by rw [cl_up_ne1 _ _ _ _ (by decide), cl_up_ne1 _ _ _ _ (by decide), cl_up_at]
  generalize cl_up (cl_up (cl_up (bgn S f) 511 q.1 1) 2 q.1 (P.2 17 q.1)) 3 q.1 (P.2 18 q.1) = Sp at hXp hne b2 b3 b511
  obtain ⟨F1, h1⟩ := h.addP hT hd h4 hXp hne b2 b3 b511
  have hq60 : q.1 < 60 := by omega
  have hih : ∀ N, N.2 18 q.1 = P.2 18 q.1 → f_itemHigh N (-1 - nI q.1) = P.2 18 q.1 := by
    intro N hN
    unfold f_itemHigh
    rw [if_neg (nI_neg_lt hq60), nI_neg1 hq60, cn]
    exact hN
  have hbx : nz 250000 (P.2 17 q.1) := hSPn.2.2.2.2.2.2.1 (Or.inr h4)
  have hhx : nz 400 (P.2 18 q.1) := hSPn.2.2.2.2.2.2.2.1 h4
  have hcs := cs_ge P q.1 q.2
  have h12 : (P.2 17 q.1).toInt + 12 ≤ ((cs P q.1 q.2 : Nat) : Int) := by
    have a1 := hbx.2
    have e2 : ((250000 : Nat) : Int) = 250000 := rfl
    rw [e2] at a1
    omega
  have hs84 : nz 4 (f_of P (nI q.1) 8) := ⟨by have := hSPn.2.2.2.1.1; omega, hSPn.2.2.2.1.2⟩
  refine kk_addItem (C := cs P q.1 q.2) (a := -1 - nI q.1) (w := P.2 17 q.1) hSP hib hi hf13 hox hoy h1 (fun hb => by rw [hXp.2.2 206 (by decide)]; exact hbk.2 hb) (Or.inl ⟨hq60, rfl⟩) b2 (by rw [b3, hih P rfl]) (fun N hN => by rw [hih N (hN.2 q.1 (hT q.1 (by simp))), hih P rfl]) hbx h12 (by rw [hih P rfl]; exact nz_mono hhx (Nat.le_trans (by decide) hcs)) hs84 hB (by simp; omega) hD (by omega) _ (fun S2 l2 wl2 bl2 B2 F2 h4' hB2 hbl2 z2 m2 mo2 => ⟨rfl, ?_, rfl, ?_⟩)
  · rw [F2.1.1, hXp.1, hX.1]
  · have e17 : M.2 17 q.1 = P.2 17 q.1 := by rw [h.2.1.1 17 (by decide)]
    rw [e17, h.2.1.of] at hQ
    exact hQ S2 l2 wl2 bl2 B2 (((bgn_FR S f).tr F1).tr F2) h4' hB2 ⟨Or.inl m2, fun _ => by rw [z2, m2]⟩ mo2
theorem seven_toInt {x : Int32} (h : nz 4 x) : (7 * x).toInt = 7 * x.toInt := by
  unfold nz at h
  rw [Int32.toInt_mul, show (7 : Int32).toInt = 7 by decide]
  exact bmod_small (by omega) (by omega)
/-- a break -/
theorem kk_inl5 (hSP : SP P nn W) (hib : f_boxy P i) (hi : i < nn) (hf13 : f < 13) (hox : nb ((f + 1) * 67108864 + 59) ox) (hoy : nb ((f + 1) * 67108864 + 59) oy) (h : SMl xs K A P nn W i f D T ox oy (bgn S f) M l wl bl [] V VW B) (hT : ∀ x ∈ sub q, x ∈ T) (hk : P.2 3 q.1 = 2) (hV : V.length < 59) (hB : B + csq P wl + cs P q.1 q.2 ≤ 67108000) (hD : 21 ≤ D) (hE : D + 3 ≤ E) : ∀ Q', (∀ S' l' B', FR P W T T f S S' → SMl xs K A P nn W i f D T ox oy S' (f_brk M q.1) l' [] [] [] V VW B' → B' ≤ B + csq P wl + cs P q.1 q.2 → bkR S' (f_brk M q.1) f [] → (M.1 37).toInt ≤ ((f_brk M q.1).1 37).toInt → Q' none A S') → cl_C xs K E 78 [cl_rf A 3 0, cl_rf A 2 (nI f), cl_rf A 5 (nI q.1)] A S Q' := by
  intro Q' hQ
  have hT0 := h.1.1
  have h60 := hT0.1
  have cf : (nI f).toNatClampNeg = f := nI_clamp (by omega)
  have hds := h.2.2.2.2.2.2.2.2.2.1
  have hn : q.1 < nn := hds.2.2.2.2.2.2.2.2.1 _ (hT q.1 (by simp))
  have cn : (nI q.1).toNatClampNeg = q.1 := hT0.cl hn
  have hX := bgn_X S f
  have hf : cl_f S (nI f) := (hT0.2.2.1 f hf13).mv hX.1.symm
  have hz : cl_z S := hT0.2.1.mv hX.1.symm
  have hnn : cl_n S (nI q.1) := (hT0.n hn).mv hX.1.symm
  have e501 : S.2.1 501 q.1 = 2 := by
    rw [← hk, ← hT0.kind hn, hX.2.2 501 (by decide)]
  have hSPn := hSP.1 q.1 hn
  have hs84 : nz 4 (f_of P (nI q.1) 8) := ⟨by have := hSPn.2.2.2.1.1; omega, hSPn.2.2.2.1.2⟩
  have hcs := cs_ge P q.1 q.2
  obtain ⟨q1, q2, q3, q4, q5, q6, q7, q8, q9, q10, q11⟩ := id h.2.2.2.2.2.1
  rw [List.append_nil] at hds
  have hbb : ∀ m ∈ bl, m < 2 ^ 31 := fun m hm => by have := (hds.blv h.1 hm).1; omega
  obtain ⟨d', rfl⟩ : ∃ d', E = d' + 2 + 1 := ⟨E - 3, by omega⟩
  refine cl_intro (ms78 xs) (Nat.le_of_ble_eq_true rfl) (fun h0 => vc78_0 ⟨hf, hnn, ?_⟩)
  rw [cn, e501, cf]
  refine ⟨fun _ => ⟨fun _ => ⟨fun c => absurd c (by decide), fun _ => ⟨hz, ?_⟩⟩, fun c => absurd (by decide) c⟩, fun c => absurd (by decide) c⟩
  show cl_C xs K (d' + 2) 88 [cl_rf A 3 0, cl_rf A 2 (nI f), cl_rf A 5 (nI q.1)] A (bgn S f) _
  obtain ⟨d'', rfl⟩ : ∃ d'', d' = d'' + 1 := ⟨d' - 1, by omega⟩
  refine cl_intro (ms88 xs) (Nat.le_of_ble_eq_true rfl) (fun h0 => vc88_0 ⟨hT0.2.2.1 f hf13, ?_⟩)
  rw [cf, cn, hT0.h8 hn]
  by_cases hbe : bl = []
  · have hwe := h.2.2.2.2.2.2.2.2.2.2.2.2 hbe
    subst hbe hwe
    have ge : g_empty (bgn S f) (nI f) = 1 := by
      unfold g_empty
      rw [cf, if_neg (fun c => c q3)]
    have h41 : M.1 41 ≤ 0 := by rw [q1]; decide
    refine ⟨fun c => absurd (by rw [← c, ge]) (show ¬ (1 : Int32) = 0 by decide), fun _ => ⟨hT0.n hn, ?_⟩⟩
    have e7 := seven_toInt hs84
    have hs28 : nz 28 (7 * f_of P (nI q.1) 8) := by
      unfold nz at *
      omega
    have eb : f_brk M q.1 = md_up1 (md_up1 M 37 (M.1 37 + 7 * f_of P (nI q.1) 8)) 54 0 := by
      unfold f_brk
      rw [if_pos h41, h.2.1.of]
    have hX4 : cl_X [204] (bgn S f) (cl_up (bgn S f) 204 f ((bgn S f).2.1 204 f + 7 * f_of P (nI q.1) 8)) := cl_X.rf.up (by decide) _ _
    have z4 : (cl_up (bgn S f) 204 f ((bgn S f).2.1 204 f + 7 * f_of P (nI q.1) 8)).2.1 204 f = M.1 37 + oy + 7 * f_of P (nI q.1) 8 := by rw [cl_up_at, h.2.2.2.2.2.2.1.1]
    have o4 : ∀ f', ¬ f' = f → (cl_up (bgn S f) 204 f ((bgn S f).2.1 204 f + 7 * f_of P (nI q.1) 8)).2.1 204 f' = (bgn S f).2.1 204 f' := fun f' hf' => cl_up_ne2 _ _ _ _ hf'
    generalize cl_up (bgn S f) 204 f ((bgn S f).2.1 204 f + 7 * f_of P (nI q.1) 8) = S4 at hX4 z4 o4
    have eq : ∀ g, g ≠ 204 → S4.2.1 g = (bgn S f).2.1 g := fun g hg => hX4.2.2 g (by simp [hg])
    have F4 : FR P W T T f (bgn S f) S4 := FR.flow hX4 (by decide) (fun g _ _ f' hf' => by
      by_cases c : g = 204
      · rw [c]; exact o4 f' (by omega)
      · rw [eq g c])
    have hN : ∀ g, g ∉ [37, 54] → (md_up1 (md_up1 M 37 (M.1 37 + 7 * f_of P (nI q.1) 8)) 54 0).1 g = M.1 g := fun g hg => by
      simp only [List.mem_cons, List.not_mem_nil, or_false, not_or] at hg
      rw [md_up1_ne _ hg.2, md_up1_ne _ hg.1]
    have n37 : (md_up1 (md_up1 M 37 (M.1 37 + 7 * f_of P (nI q.1) 8)) 54 0).1 37 = M.1 37 + 7 * f_of P (nI q.1) 8 := by rw [md_up1_ne _ (by decide), md_up1_at]
    have hy' : nz (B + 28) (M.1 37 + 7 * f_of P (nI q.1) 8) := nz_add q9 hs28 (Nat.le_refl _) (by omega) (by decide)
    simp only [csq, List.map_nil, List.sum_nil, Nat.add_zero] at hB hQ
    refine ⟨rfl, hX4.1.trans hX.1, rfl, ?_⟩
    rw [eb] at hQ
    refine hQ S4 l (B + 28) ((bgn_FR S f).tr F4) ?_ (by omega) ⟨Or.inl (md_up1_at _ _ _), fun c => absurd rfl c⟩ (by
      rw [n37, off_toInt (nz_bd q9 (by omega)) (nz_bd hs28 (by decide))]
      have := hs28.1
      omega)
    obtain ⟨g1, g2, g3, g4, g5, g6, g7, g8, ⟨p1, p2, p3⟩, g10, g11, g12, g13⟩ := h
    refine ⟨g1.fr F4, g2, g3.mv (fun g hg => by rw [eq g ((show ∀ g ∈ [200, 201, 202, 203, 100, 101], g ≠ 204 by decide) g hg)]) (hN 55 (by decide)) (hN 43 (by decide)), ?_, ?_, ?_, ⟨?_, ?_⟩, ?_, ⟨?_, ?_, ?_⟩, g10, g11, g12, g13⟩
    · unfold si_fl at g4 ⊢
      rw [hN 46 (by decide), eq 515 (by decide), eq 102 (by decide), eq 103 (by decide), eq 104 (by decide), eq 105 (by decide)]
      obtain ⟨a1, a2, a3, a4, a5, a6, a7, a8⟩ := g4
      exact ⟨a1, a2, a3, a4, fl_L_mv (fun n _ => by rw [eq 0 (by decide), eq 1 (by decide), eq 2 (by decide), eq 3 (by decide)]; exact ⟨rfl, rfl, rfl, rfl⟩) a5, a6, a7, fun r hr => (a8 r hr).mono (Nat.le_add_right _ _)⟩
    · unfold si_wt at g5 ⊢
      rw [hN 53 (by decide), eq 515 (by decide), eq 207 (by decide), eq 208 (by decide)]
      exact g5
    · refine ⟨by rw [hN 41 (by decide)]; exact q1, Nat.zero_le _, by rw [eq 400 (by decide)]; exact q3, by rw [eq 401 (by decide)]; exact q4, by rw [eq 404 (by decide), hN 42 (by decide)]; exact q5, fun k b hk => by simp at hk, fun c => absurd rfl c, by rw [hN 42 (by decide)]; exact nz_mono q8 (Nat.le_add_right _ _), by rw [n37]; exact hy', ?_, fun _ => by rw [hN 42 (by decide)]; exact q11 rfl⟩
      rw [n37, hN 42 (by decide), q11 rfl, lit_0]
      have := hy'.2
      omega
    · rw [z4, n37]; grind
    · rw [eq 205 (by decide)]; exact g7.2
    · rw [hN 55 (by decide)]; exact nb_mono g8 (Nat.le_add_right _ _)
    · intro q' hq' hb'
      exact (p1 q' hq' hb').imp id (fun c => c.ag (fun b _ => by rw [eq 0 (by decide), eq 1 (by decide), eq 2 (by decide), eq 3 (by decide)]; exact ⟨rfl, rfl, rfl, rfl⟩) (fun m _ => by rw [eq 511 (by decide)]) rfl rfl)
    · rw [eq 0 (by decide), eq 1 (by decide), eq 2 (by decide), eq 3 (by decide), eq 511 (by decide)]
      exact p2
    · rw [eq 0 (by decide), eq 1 (by decide)]
      exact p3
  · have h400 : ¬ (bgn S f).2.1 400 f = -1 := fun e => hbe ((chn_m1 hbb q3).mp e)
    have ge : g_empty (bgn S f) (nI f) = 0 := by
      unfold g_empty
      rw [cf, if_pos h400]
    have hlen0 : 0 < bl.length := by
      rcases Nat.eq_zero_or_pos bl.length with c | c
      · exact absurd (List.length_eq_zero_iff.mp c) hbe
      · exact c
    have h41 : ¬ M.1 41 ≤ 0 := by rw [q1]; exact nI_ge (a := 0) hlen0 (by omega)
    have c41 : (M.1 41).toNatClampNeg = bl.length := by rw [q1, nI_clamp (by omega)]
    have hlV := h.2.2.2.2.2.2.2.2.2.2.2.1
    have c53 : (M.1 53).toNatClampNeg = wl.length := by rw [h.2.2.2.2.1.1, nI_clamp (by omega)]
    have eb : f_brk M q.1 = md_up1 (f_endLine_M M bl.length wl.length) 54 0 := by
      unfold f_brk
      rw [if_neg h41, c41, c53]
    refine ⟨fun _ => ⟨hT0.2.1, ?_⟩, fun c => absurd ge c⟩
    refine kk_endLine hSP hib hi hf13 hox hoy h hbe (by omega) (by omega) hD (by omega) _ (fun S1 F1 z1 h1 => ⟨rfl, F1.1.1, rfl, ?_⟩)
    rw [eb] at hQ
    refine ⟨rfl, F1.1.1.trans hX.1, rfl, hQ S1 (l ++ wl.map (·.1)) (B + csq P wl) ((bgn_FR S f).tr F1) (h1.m54 0) (by omega) ⟨Or.inl (md_up1_at _ _ _), fun c => absurd rfl c⟩ (by
      rw [md_up1_ne _ (by decide), el37, off_toInt (nz_bd q9 (by omega)) (nz_bd q8 (by omega))]
      have := q8.1
      omega)⟩
end ADG
