/-! the reference: layBlock whole (by hand: wip/whole/gen/m21.py) -/
theorem lb_fin_X {M : md_S} {z y : Nat} (hl : li_b M z y) : md_X X_I X_B M (lb_fM M) ∧ ∃ c, (lb_fM M).1 46 = nI c ∧ c + y ≤ 60 := by
  obtain ⟨L, wt, c, l, lz, ly⟩ := hl
  have l' := l
  obtain ⟨l1, l2, l3, l4, l5, l6, l7⟩ := l'
  unfold lb_fM
  by_cases h : M.1 41 ≤ 0
  · rw [if_pos h]
    exact ⟨md_X.rf, c, l5, by omega⟩
  · rw [if_neg h, l2, l4, nI_clamp (by omega), nI_clamp (by omega)]
    obtain ⟨e1, e2⟩ := li_end l
    exact ⟨e2.sub (by decide) (by decide), c + wt, e1.2.2.2.2.1, by omega⟩
/-- lines end -/
theorem c_lb_fin {xs : List Int32} {mo : Nat} {ad : Nat → Nat} (hD : md_D mo ad) {h0 : am_H} {d : Nat} {Q : Option Value → md_S → Prop} {M : md_S} {i z y : Nat} {th x : Int32} {st : lb_S} (hl : li_b M z y) (hx : x = -1 ∨ ∃ j, j < 60 ∧ x = nI j ∧ lb_isB M j)
    (hk : lb_A xs mo ad h0 d Q i th (lb_fS M st) x (lb_fM M)) : lb_B xs mo ad h0 d Q i th st x M := by
  obtain ⟨L, wt, c, l, lz, ly⟩ := hl
  obtain ⟨l1, l2, l3, l4, l5, l6, l7⟩ := l
  have one : ∀ o9 o10 o11 o12, M.1 41 ≤ 0 → md_wp xs mo ad h0 (d + 10) Q I135 89 [some (.ref mo), some (.int (nI i)), some (.int (M.1 37)), some (.int (-1)), some (.int st.2.2.1), some (.int th), some (.int 0), some (.int st.2.2.2.2), some (.int x), o9, o10, o11, o12] [] M := by
    intro o9 o10 o11 o12 h
    have := hk o9 o10 o11 o12
    unfold lb_fS lb_fM at this
    rw [if_pos h] at this
    exact this
  have two : ∀ o9 o10 o11 o12, ¬ M.1 41 ≤ 0 → md_C xs mo ad (d + 10) 143 [] M (fun v N1 => v = none ∧ (md_wp xs mo ad h0 (d + 10) Q I135 89 [some (.ref mo), some (.int (nI i)), some (.int (N1.1 37)), some (.int (-1)), some (.int st.2.2.1), some (.int th), some (.int 0), some (.int st.2.2.2.2), some (.int x), o9, o10, o11, o12] [] N1)) := by
    intro o9 o10 o11 o12 h
    have := hk o9 o10 o11 o12
    unfold lb_fS lb_fM at this
    rw [if_neg h, l2, l4, nI_clamp (by omega), nI_clamp (by omega)] at this
    exact c_endLine hD l1 l2 l3 l4 l5 l6 l7 _ ⟨rfl, this⟩
  intro o9 o10 o11 o12
  rcases hx with rfl | ⟨j, hj, rfl, hB⟩
  · exact vc135_373 hD ⟨fun _ => ⟨one _ _ _ _, two _ _ _ _⟩, fun q => absurd rfl q⟩
  · have hcj : (nI j).toNatClampNeg = j := nI_clamp (by omega)
    refine vc135_373 hD ⟨fun q => absurd q (nI_ne_m1 (by omega)), fun _ => ⟨vp_nI hj (by decide), fun q => absurd q hB.1, fun _ => ⟨fun _ => ⟨one _ _ _ _, two _ _ _ _⟩, fun q => absurd ?_ q⟩⟩⟩
    rw [hcj]
    exact hB.2
theorem isBox0 {M : md_S} {j : Nat} (hj : j < 60) (h : M.2 12 j = 0) : f_isBox M (nI j) = 0 := by
  have hc : (nI j).toNatClampNeg = j := nI_clamp (by omega)
  unfold f_isBox
  rw [hc, h]
  rfl
theorem c_lb_skB {xs : List Int32} {mo : Nat} {ad : Nat → Nat} (hD : md_D mo ad) {h0 : am_H} {d : Nat} {Q : Option Value → md_S → Prop} {M : md_S} {i j : Nat} {th p : Int32} {st : lb_S} {k s : bt} (hR : bt_R (M.2 4) (M.2 5) (M.2 7) p (.branch j k s)) (h0m : M.2 12 j = 0) (hk : lb_B xs mo ad h0 d Q i th st (bt_hd (-1) s) M) : lb_B xs mo ad h0 d Q i th st (nI j) M := by
  have hj : j < 60 := hR.1
  have hcj : (nI j).toNatClampNeg = j := nI_clamp (by omega)
  intro o9 o10 o11 o12
  refine vc135_373 hD ⟨fun q => absurd q (nI_ne_m1 (by omega)), fun _ => ⟨vp_nI hj (by decide), ?_⟩⟩
  rw [hcj]
  refine ⟨fun _ => ⟨fun _ => ?_, fun q => absurd h0m q⟩, fun q => absurd (isBox0 hj h0m) q⟩
  rw [hR.2.2.2.1]
  exact hk _ _ _ _
theorem c_lb_skA {xs : List Int32} {mo : Nat} {ad : Nat → Nat} (hD : md_D mo ad) {h0 : am_H} {d : Nat} {Q : Option Value → md_S → Prop} {M : md_S} {i j : Nat} {th p : Int32} {st : lb_S} {k s : bt} (hR : bt_R (M.2 4) (M.2 5) (M.2 7) p (.branch j k s)) (h0m : M.2 12 j = 0) (hk : lb_A xs mo ad h0 d Q i th st (bt_hd (-1) s) M) : lb_A xs mo ad h0 d Q i th st (nI j) M := by
  have hj : j < 60 := hR.1
  have hcj : (nI j).toNatClampNeg = j := nI_clamp (by omega)
  intro o9 o10 o11 o12
  refine vc135_89 hD ⟨fun q => absurd q (nI_ne_m1 (by omega)), fun _ => ⟨vp_nI hj (by decide), ?_⟩⟩
  rw [hcj]
  refine ⟨fun q => absurd h0m q, fun _ => ?_⟩
  rw [hR.2.2.2.1]
  exact hk _ _ _ _
theorem c_lb_th {xs : List Int32} {mo : Nat} {ad : Nat → Nat} (hD : md_D mo ad) {h0 : am_H} {d : Nat} {Q : Option Value → md_S → Prop} {M : md_S} {i j z y : Nat} {th p : Int32} {st : lb_S} {k s : bt} (hR : bt_R (M.2 4) (M.2 5) (M.2 7) p (.branch j k s)) (hn : j ∉ bt_pre k) (ho : ∀ x ∈ j :: bt_pre k, nd_ok M x) (hl : li_b M (nd_it M j + nd_its M k + z) (1 + (bt_pre k).length + y)) (hm : ¬ M.2 12 j = 0) (hB : ¬ lb_isB M j)
    (hk : md_X X_I X_B M (f_thing M j k) → li_b (f_thing M j k) z y → lb_B xs mo ad h0 d Q i th st (bt_hd (-1) s) (f_thing M j k)) : lb_B xs mo ad h0 d Q i th st (nI j) M := by
  have hj : j < 60 := hR.1
  have hcj : (nI j).toNatClampNeg = j := nI_clamp (by omega)
  have hvj : vp_in (nI j) 60 := vp_nI hj (by decide)
  intro o9 o10 o11 o12
  have go : md_C xs mo ad (d + 10) 136 [.int (nI j)] M (fun v N2 => v = none ∧ ((vp_in (nI j) 60) ∧ (md_wp xs mo ad h0 (d + 10) Q I135 373 [some (.ref mo), some (.int (nI i)), some (.int st.1), some (.int st.2.1), some (.int st.2.2.1), some (.int th), some (.int st.2.2.2.1), some (.int st.2.2.2.2), some (.int (N2.2 7 j)), o9, o10, o11, o12] [] N2))) := by
    refine c_lineThing hD hR hn ho hl _ (fun hx hl2 => ⟨rfl, hvj, ?_⟩)
    rw [hx.2 7 (by decide), hR.2.2.2.1]
    exact hk hx hl2 _ _ _ _
  refine vc135_373 hD ⟨fun q => absurd q (nI_ne_m1 (by omega)), fun _ => ⟨hvj, ?_⟩⟩
  rw [hcj]
  exact ⟨fun b0 => ⟨fun q => absurd q hm, fun _ => go⟩, fun b0 => ⟨fun b1 => absurd ⟨b0, b1⟩ hB, fun b1 => ⟨fun q => absurd q hm, fun _ => go⟩⟩⟩
theorem li_go {M : md_S} {st : lb_S} {c z y : Nat} (h46 : M.1 46 = nI c) (hc : c + y ≤ 60) (hz : z ≤ 3700) : li_b (lb_go M st) z y ∧ md_X X_I X_B M (lb_go M st) := by
  have hx : md_X X_I X_B M (lb_go M st) := by
    unfold lb_go
    exact ((((md_X.rf.up1 (by decide) _).up1 (by decide) _).up1 (by decide) _).up1 (by decide) _).up1 (by decide) _
  refine ⟨⟨0, 0, c, ⟨by omega, ?_, fun k hk => absurd hk (by omega), ?_, ?_, by omega, fun k hk => absurd hk (by omega)⟩, by omega, by omega⟩, hx⟩
  · unfold lb_go
    rw [md_up1_ne _ (by decide), md_up1_ne _ (by decide), md_up1_ne _ (by decide), md_up1_at]
    rfl
  · unfold lb_go
    rw [md_up1_ne _ (by decide), md_up1_at]
    rfl
  · unfold lb_go
    rw [md_up1_ne _ (by decide), md_up1_ne _ (by decide), md_up1_ne _ (by decide), md_up1_ne _ (by decide), md_up1_ne _ (by decide)]
    exact h46
theorem lb_bM_X (M : md_S) (i : Nat) (st : lb_S) (j : Nat) : md_X X_I X_B M (lb_bM M i st j) := by
  unfold lb_bM
  exact (md_X.rf.up2 (by decide) _ _).up2 (by decide) _ _
theorem lb_isB_same {M M' : md_S} (h : md_X X_I X_B M M') {j : Nat} : lb_isB M' j ↔ lb_isB M j := by
  unfold lb_isB f_isBox
  rw [h.2 12 (by decide), h.2 13 (by decide)]
/-- the chain of a block, from here on -/
theorem c_lb {xs : List Int32} {mo : Nat} {ad : Nat → Nat} (hD : md_D mo ad) {h0 : am_H} {d : Nat} {Q : Option Value → md_S → Prop} {i : Nat} {th p : Int32} (hi : i < 60) : ∀ (t : bt) (q : Bool) (st : lb_S) (M : md_S), bt_R (M.2 4) (M.2 5) (M.2 7) p t → (bt_pre t).Nodup → (∀ x ∈ bt_pre t, nd_ok M x) → (¬ i = 0 → vp_in (M.2 4 i) 60) → (¬ st.2.1 = -1 → vp_in st.2.1 60) → nd_its M t ≤ 3700 → (if q = true then li_b M (nd_its M t) (bt_pre t).length else ∃ c, M.1 46 = nI c ∧ c + (bt_pre t).length ≤ 60) →
    (md_X X_I X_B M (f_lb i th t q st M).2 → (∃ c, (f_lb i th t q st M).2.1 46 = nI c ∧ c ≤ 60) → lb_A xs mo ad h0 d Q i th (f_lb i th t q st M).1 (-1) (f_lb i th t q st M).2) → if q = true then lb_B xs mo ad h0 d Q i th st (bt_hd (-1) t) M else lb_A xs mo ad h0 d Q i th st (bt_hd (-1) t) M := by
  intro t
  induction t with
  | leaf u =>
    intro q st M _ _ _ _ _ _ hl hk
    cases q with
    | true =>
      simp only [if_true] at hl ⊢
      obtain ⟨x1, c, x2, x3⟩ := lb_fin_X hl
      exact c_lb_fin hD hl (Or.inl rfl) (hk x1 ⟨c, x2, by omega⟩)
    | false =>
      simp only [Bool.false_eq_true, if_false] at hl ⊢
      obtain ⟨c, h1, h2⟩ := hl
      exact hk md_X.rf ⟨c, h1, by omega⟩
  | branch j k s _ ihs =>
    intro q st M hR hn ho hp hst hz hl hk
    have hj : j < 60 := hR.1
    have hn' := hn
    simp only [bt_pre, List.nodup_cons, List.mem_append, not_or] at hn'
    rw [nd_its_br] at hz hl
    have hlen : (bt_pre (.branch j k s)).length = 1 + (bt_pre k).length + (bt_pre s).length := by
      simp [bt_pre]
      omega
    rw [hlen] at hl
    have hnit : 1 ≤ nd_it M j := by unfold nd_it; omega
    -- the rest of the chain
    have rest : ∀ (q' : Bool) (st' : lb_S) (M' : md_S), md_X X_I X_B M M' → (¬ st'.2.1 = -1 → vp_in st'.2.1 60) → f_lb i th (.branch j k s) q st M = f_lb i th s q' st' M' → (if q' = true then li_b M' (nd_its M s) (bt_pre s).length else ∃ c, M'.1 46 = nI c ∧ c + (bt_pre s).length ≤ 60) → if q' = true then lb_B xs mo ad h0 d Q i th st' (bt_hd (-1) s) M' else lb_A xs mo ad h0 d Q i th st' (bt_hd (-1) s) M' := by
      intro q' st' M' hx hst' e hl'
      rw [e] at hk
      refine ihs q' st' M' (by rw [hx.2 4 (by decide), hx.2 5 (by decide), hx.2 7 (by decide)]; exact hR.2.2.2.2.2) (List.nodup_append.mp hn'.2).2.1 (fun x hx' => nd_ok_same hx (ho x (by simp [bt_pre, hx']))) (fun h => by rw [hx.2 4 (by decide)]; exact hp h) hst' (by rw [nd_its_same hx]; omega) (by rw [nd_its_same hx]; exact hl') (fun hx2 hc2 => hk (hx.tr hx2) hc2)
    by_cases h0m : M.2 12 j = 0
    · have e : f_lb i th (.branch j k s) q st M = f_lb i th s q st M := by rw [f_lb, if_pos h0m]
      cases q with
      | true =>
        simp only [if_true] at hl ⊢
        exact c_lb_skB hD hR h0m (rest true st M md_X.rf hst e (li_b_le hl (by omega) (by omega)))
      | false =>
        simp only [Bool.false_eq_true, if_false] at hl ⊢
        obtain ⟨c, h1, h2⟩ := hl
        exact c_lb_skA hD hR h0m (rest false st M md_X.rf hst e ⟨c, h1, by omega⟩)
    · by_cases hB : lb_isB M j
      · cases q with
        | true =>
          simp only [if_true] at hl ⊢
          have e : f_lb i th (.branch j k s) true st M = f_lb i th s false (lb_bS (lb_fM M) i th (lb_fS M st) j) (lb_bM (lb_fM M) i (lb_fS M st) j) := by rw [f_lb, if_neg h0m, if_pos hB, if_pos rfl]
          obtain ⟨x1, c, x2, x3⟩ := lb_fin_X hl
          refine c_lb_fin hD hl (Or.inr ⟨j, hj, rfl, hB⟩) ?_
          refine c_lb_blk (c := c) (p := p) (k := k) (s := s) hD hi (fun h => by rw [x1.2 4 (by decide)]; exact hp h) (by rw [x1.2 4 (by decide), x1.2 5 (by decide), x1.2 7 (by decide)]; exact hR) (by omega) x2 ((lb_isB_same x1).mpr hB) (fun h => absurd rfl h) ?_
          exact rest false _ _ (x1.tr (lb_bM_X _ _ _ _)) (fun _ => vp_nI hj (by decide)) e ⟨c, x2, by omega⟩
        | false =>
          simp only [Bool.false_eq_true, if_false] at hl ⊢
          have e : f_lb i th (.branch j k s) false st M = f_lb i th s false (lb_bS M i th st j) (lb_bM M i st j) := by rw [f_lb, if_neg h0m, if_pos hB, if_neg (by decide)]
          obtain ⟨c, h1, h2⟩ := hl
          refine c_lb_blk (c := c) (p := p) (k := k) (s := s) hD hi hp hR (by omega) h1 hB hst ?_
          exact rest false _ _ (lb_bM_X _ _ _ _) (fun _ => vp_nI hj (by decide)) e ⟨c, h1, by omega⟩
      · have thing : ∀ M1, md_X X_I X_B M M1 → f_lb i th (.branch j k s) q st M = f_lb i th s true st (f_thing M1 j k) → li_b M1 (nd_it M j + nd_its M k + nd_its M s) (1 + (bt_pre k).length + (bt_pre s).length) → lb_B xs mo ad h0 d Q i th st (nI j) M1 := by
          intro M1 hx e hl1
          refine c_lb_th (z := nd_its M s) (y := (bt_pre s).length) (p := p) (k := k) (s := s) hD (by rw [hx.2 4 (by decide), hx.2 5 (by decide), hx.2 7 (by decide)]; exact hR) hn'.1.1 (fun x hx' => nd_ok_same hx (ho x ?_)) (by rw [nd_it_same hx, nd_its_same hx]; exact hl1) (by rw [hx.2 12 (by decide)]; exact h0m) (fun q => hB ((lb_isB_same hx).mp q)) (fun hx2 hl2 => ?_)
          · simp only [bt_pre, List.mem_cons, List.mem_append] at hx' ⊢
            rcases hx' with h | h
            · exact Or.inl h
            · exact Or.inr (Or.inl h)
          · exact rest true st _ (hx.tr hx2) hst e hl2
        cases q with
        | true =>
          simp only [if_true] at hl ⊢
          exact thing M md_X.rf (by rw [f_lb, if_neg h0m, if_neg hB, if_pos rfl]) hl
        | false =>
          simp only [Bool.false_eq_true, if_false] at hl ⊢
          obtain ⟨c, h1, h2⟩ := hl
          obtain ⟨g1, g2⟩ := li_go (st := st) (z := nd_it M j + nd_its M k + nd_its M s) (y := 1 + (bt_pre k).length + (bt_pre s).length) h1 (by omega) (by omega)
          exact c_lb_go hD hj h0m hB hst (thing _ g2 (by rw [f_lb, if_neg h0m, if_neg hB, if_neg (by decide)]) g1)
