/-! the reference: lineThing (by hand: wip/whole/gen/m19.py) -/
def X_B : List Nat := [15, 16, 33, 34, 44, 45, 47, 48, 49, 50, 51, 52]
/-- the line is in order, with room for z items and y floats more -/
def li_b (M : md_S) (z y : Nat) : Prop := ∃ L wt c, li_ok M L wt c ∧ L + z ≤ 3700 ∧ c + wt + y ≤ 60
theorem li_b_le {M : md_S} {z y z' y' : Nat} (h : li_b M z y) (hz : z' ≤ z) (hy : y' ≤ y) : li_b M z' y' := by
  obtain ⟨L, wt, c, h1, h2, h3⟩ := h
  exact ⟨L, wt, c, h1, by omega, by omega⟩
theorem li_same {M M' : md_S} {L wt c : Nat} (hl : li_ok M L wt c) (h41 : M'.1 41 = M.1 41) (h53 : M'.1 53 = M.1 53) (h46 : M'.1 46 = M.1 46) (h44 : M'.2 44 = M.2 44) (h52 : M'.2 52 = M.2 52) (h30 : M'.2 30 = M.2 30) : li_ok M' L wt c := by
  obtain ⟨l1, l2, l3, l4, l5, l6, l7⟩ := hl
  exact ⟨l1, h41.trans l2, fun k hk => by rw [h44]; exact it_ok_same h30 (l3 k hk), h53.trans l4, h46.trans l5, l6, fun k hk => by rw [h52]; exact l7 k hk⟩
theorem li_pf {M : md_S} {L wt c n : Nat} (hl : li_ok M L wt c) (hc : c + wt + 1 ≤ 60) : li_ok (f_putFloat_M M c n) L wt (c + 1) := by
  have hx := f_putFloat_X M c n
  obtain ⟨l1, l2, l3, l4, l5, l6, l7⟩ := hl
  exact ⟨l1, (hx.1 41 (by decide)).trans l2, fun k hk => by rw [hx.2 44 (by decide)]; exact it_ok_same (hx.2 30 (by decide)) (l3 k hk), (hx.1 53 (by decide)).trans l4, f_putFloat_46 _ _ _, by omega, fun k hk => by rw [hx.2 52 (by decide)]; exact l7 k hk⟩
def f_wait (M : md_S) (i : Nat) : md_S := md_up1 (md_up2 M 52 (M.1 53).toNatClampNeg (nI i)) 53 (M.1 53 + 1)
theorem li_wait {M : md_S} {L wt c i : Nat} (hi : i < 60) (hl : li_ok M L wt c) (hc : c + wt + 1 ≤ 60) : li_ok (f_wait M i) L (wt + 1) c := by
  obtain ⟨l1, l2, l3, l4, l5, l6, l7⟩ := hl
  have hcl : (M.1 53).toNatClampNeg = wt := by rw [l4, nI_clamp (by omega)]
  unfold f_wait
  rw [hcl, l4, nI_1]
  refine ⟨l1, ?_, fun k hk => ?_, ?_, ?_, by omega, fun k hk => ?_⟩
  · rw [md_up1_ne _ (by decide)]
    exact l2
  · rw [md_up1_2, md_up2_ne _ (by decide)]
    refine it_ok_same ?_ (l3 k hk)
    rw [md_up1_2, md_up2_ne _ (by decide)]
  · rw [md_up1_at]
  · rw [md_up1_ne _ (by decide)]
    exact l5
  · rw [md_up1_2]
    by_cases h : k = wt
    · exact ⟨i, hi, by rw [h, md_up2_at]⟩
    · rw [md_up2_off _ _ h]
      exact l7 k (by omega)
def f_brk (M : md_S) (i : Nat) : md_S := if M.1 41 ≤ 0 then md_up1 (md_up1 M 37 (M.1 37 + 7 * f_of M (nI i) 8)) 54 0 else md_up1 (f_endLine_M M (M.1 41).toNatClampNeg (M.1 53).toNatClampNeg) 54 0
/-- one node on the line; D: where all that it holds has been -/
def f_nd (M : md_S) (i : Nat) (D : md_S) : md_S :=
  if f_isBox M (nI i) = 0 then (if ¬ M.2 12 i = 4 then (if ¬ M.2 12 i = 5 then (if ¬ M.2 12 i = 6 then (if ¬ M.2 12 i = 0 then D else M) else f_lineText_M M i (M.2 28 i).toNatClampNeg) else f_brk M i) else f_pi M (-1 - nI i) (M.2 17 i) (f_of M (nI i) 8))
  else (if M.1 41 ≤ 0 then f_putFloat_M M (M.1 46).toNatClampNeg i else f_wait M i)
def f_ln : bt → md_S → md_S
  | .leaf _, M => M
  | .branch i k s, M => f_ln s (f_nd M i (f_ln k M))
/-- it goes into node i -/
def nd_in (M : md_S) (i : Nat) : Prop := f_isBox M (nI i) = 0 ∧ ¬ M.2 12 i = 4 ∧ ¬ M.2 12 i = 5 ∧ ¬ M.2 12 i = 6 ∧ ¬ M.2 12 i = 0
/-- what lineThing wants of a node -/
def nd_ok (M : md_S) (i : Nat) : Prop := i < 60 ∧ (M.2 12 i = 6 → by_ok M i ∧ ∃ w, M.2 28 i = nI w ∧ wd_on M i w (ws_of M i) ∧ w + (ws_of M i).length ≤ 3700)
def nd_it (M : md_S) (i : Nat) : Nat := (ws_of M i).length + 1
theorem ws_same {M M' : md_S} (h9 : M'.2 9 = M.2 9) (h10 : M'.2 10 = M.2 10) (h11 : M'.2 11 = M.2 11) (i : Nat) : ws_of M' i = ws_of M i := by
  unfold ws_of f_of
  rw [by_same h10 h11, h9]
theorem nd_ok_same {M M' : md_S} (h : md_X X_I X_B M M') {i : Nat} (ho : nd_ok M i) : nd_ok M' i := by
  refine ⟨ho.1, fun h6 => ?_⟩
  rw [h.2 12 (by decide)] at h6
  obtain ⟨⟨cc, c1, c2⟩, w, h1, h2, h3⟩ := ho.2 h6
  rw [ws_same (h.2 9 (by decide)) (h.2 10 (by decide)) (h.2 11 (by decide))]
  refine ⟨⟨cc, c1, by rw [h.2 11 (by decide)]; exact c2⟩, w, by rw [h.2 28 (by decide)]; exact h1, fun q r hq => ?_, h3⟩
  rw [h.2 30 (by decide), h.2 31 (by decide), h.2 32 (by decide)]
  exact h2 q r hq
theorem nd_it_same {M M' : md_S} (h : md_X X_I X_B M M') (i : Nat) : nd_it M' i = nd_it M i := by
  unfold nd_it
  rw [ws_same (h.2 9 (by decide)) (h.2 10 (by decide)) (h.2 11 (by decide))]
theorem nI_neg1 {i : Nat} (h : i < 60) : (-1 : Int32) - (-1 - nI i) = nI i := by
  have : ∀ j, j < 60 → (-1 : Int32) - (-1 - nI j) = nI j := by decide
  exact this i h
theorem nI_neg_lt {i : Nat} (h : i < 60) : ¬ (0 : Int32) ≤ -1 - nI i := by
  have : ∀ j, j < 60 → ¬ (0 : Int32) ≤ -1 - nI j := by decide
  exact this i h
theorem c_nd {xs : List Int32} {mo : Nat} {ad : Nat → Nat} (hD : md_D mo ad) {h0 : am_H} {d : Nat} {Q : Option Value → md_S → Prop} {M : md_S} {i z y : Nat} {p tp bv : Int32} {k s : bt} {o3 : Option Value}
    (hR : bt_R (M.2 4) (M.2 5) (M.2 7) p (.branch i k s)) (hb : bh (M.2 4) (M.2 7) tp (nI i) bv) (hl : li_b M (nd_it M i + z) (1 + y)) (ho : nd_ok M i)
    (k1 : nd_in M i → ∀ o3, md_wp xs mo ad h0 (d + 9) Q I136 2 [some (.ref mo), some (.int tp), some (.int (bt_hd bv k)), o3] [] M)
    (k2 : ¬ nd_in M i → ∀ D, md_X X_I X_B M (f_nd M i D) → li_b (f_nd M i D) z y → ∀ o3, md_wp xs mo ad h0 (d + 9) Q I136 2 [some (.ref mo), some (.int tp), some (.int bv), o3] [] (f_nd M i D)) :
    md_wp xs mo ad h0 (d + 9) Q I136 2 [some (.ref mo), some (.int tp), some (.int (nI i)), o3] [] M := by
  have hi : i < 60 := hR.1
  have hci : (nI i).toNatClampNeg = i := nI_clamp (by omega)
  have hvi : vp_in (nI i) 60 := vp_nI hi (by decide)
  obtain ⟨L, wt, c, l, lz, ly⟩ := hl
  obtain ⟨l1, l2, l3, l4, l5, l6, l7⟩ := l
  have l : li_ok M L wt c := ⟨l1, l2, l3, l4, l5, l6, l7⟩
  have hL0 : M.1 41 ≤ 0 ↔ L = 0 := by
    rw [l2, ← nI_0, nI_leI (by omega) (by decide)]
    omega
  have cL : (M.1 41).toNatClampNeg = L := by rw [l2, nI_clamp (by omega)]
  have cw : (M.1 53).toNatClampNeg = wt := by rw [l4, nI_clamp (by omega)]
  have cc : (M.1 46).toNatClampNeg = c := by rw [l5, nI_clamp (by omega)]
  have hbx : ∀ {M' : md_S}, md_X X_I X_B M M' → bh (M'.2 4) (M'.2 7) tp (nI i) bv := fun h => by rw [h.2 4 (by decide), h.2 7 (by decide)]; exact hb
  have lz' : L + ((ws_of M i).length + 1 + z) ≤ 3700 := lz
  -- on, behind the node
  have on : ∀ M', ¬ nd_in M i → M' = f_nd M i M → md_X X_I X_B M M' → li_b M' z y → md_C xs mo ad (d + 9) 121 [.int (nI i), .int tp] M' (fun v N2 => ∃ y2, v = some (.int y2) ∧ md_wp xs mo ad h0 (d + 9) Q I136 2 [some (.ref mo), some (.int tp), some (.int y2), some (.int 1)] [] N2) := by
    intro M' hn e hx hlb
    subst e
    exact c_behind hD (hbx hx) _ ⟨_, rfl, k2 hn M hx hlb _⟩
  refine vc136_2 hD ⟨fun q => absurd q (nI_ne_m1 (by omega)), fun _ => ⟨hvi, ?_⟩⟩
  rw [hci]
  refine ⟨fun b0 => ⟨fun b4 => ⟨fun b5 => ⟨fun b6 => ?_, fun b6 => ?_⟩, fun b5 => ⟨fun b7 => ?_, fun b7 => ?_⟩⟩, fun b4 => ?_⟩, fun b0 => ⟨fun b7 => ?_, fun b7 => ?_⟩⟩
  · -- none of these: into it, or gone
    intro s1 e1
    by_cases hz : ¬ M.2 12 i = 0
    · rw [if_pos hz] at e1
      subst e1
      refine ⟨fun _ => ?_, fun q => absurd rfl q⟩
      exact c_after hD hR hb _ ⟨_, rfl, k1 ⟨b0, b4, b5, b6, hz⟩ _⟩
    · rw [if_neg hz] at e1
      subst e1
      refine ⟨fun q => absurd q (by decide), fun _ => ?_⟩
      have e : f_nd M i M = M := by
        unfold f_nd
        rw [if_pos b0, if_pos b4, if_pos b5, if_pos b6, if_neg hz]
      exact on M (fun q => q.2.2.2.2 (Classical.not_not.mp hz)) e.symm md_X.rf ⟨L, wt, c, l, by omega, by omega⟩
  · -- a text
    have b6' : M.2 12 i = 6 := Classical.not_not.mp b6
    obtain ⟨o1, w, o2, o3', o4⟩ := ho.2 b6'
    have e : f_nd M i M = f_lineText_M M i w := by
      unfold f_nd
      rw [if_pos b0, if_pos b4, if_pos b5, if_neg b6, o2, nI_clamp (by omega)]
    refine c_lineText (z := 1 + z) hD hi o1 o2 o3' o4 l (by omega) _ (fun L' wt' c' z1 z2 z3 z4 => ⟨rfl, ?_⟩)
    exact on _ (fun q => q.2.2.2.1 b6') e.symm (z4.sub (by decide) (by decide)) ⟨L', wt', c', z1, by omega, by omega⟩
  · -- a break on an empty line
    rintro _ rfl _ rfl
    have e : f_nd M i M = md_up1 (md_up1 M 37 (M.1 37 + 7 * f_of M (nI i) 8)) 54 0 := by
      unfold f_nd f_brk
      rw [if_pos b0, if_pos b4, if_neg b5, if_pos b7]
    refine on _ (fun q => b5 q.2.2.1) e.symm ((md_X.rf.up1 (by decide) _).up1 (by decide) _) ⟨L, wt, c, li_same l ?_ ?_ ?_ rfl rfl rfl, by omega, by omega⟩
    · rw [md_up1_ne _ (by decide), md_up1_ne _ (by decide)]
    · rw [md_up1_ne _ (by decide), md_up1_ne _ (by decide)]
    · rw [md_up1_ne _ (by decide), md_up1_ne _ (by decide)]
  · -- a break that ends the line
    have e : f_nd M i M = md_up1 (f_endLine_M M L wt) 54 0 := by
      unfold f_nd f_brk
      rw [if_pos b0, if_pos b4, if_neg b5, if_neg b7, cL, cw]
    obtain ⟨e1, e2⟩ := li_end l
    refine c_endLine hD l1 l2 l3 l4 l5 l6 l7 _ ⟨rfl, ?_⟩
    rintro _ rfl
    refine on _ (fun q => b5 q.2.2.1) e.symm ((e2.sub (by decide) (by decide)).up1 (by decide) _) ⟨0, 0, c + wt, li_same e1 ?_ ?_ ?_ rfl rfl rfl, by omega, by omega⟩
    · rw [md_up1_ne _ (by decide)]
    · rw [md_up1_ne _ (by decide)]
    · rw [md_up1_ne _ (by decide)]
  · -- a piece
    have e : f_nd M i M = f_putItem_M M L wt (-1 - nI i) (M.2 17 i) (f_of M (nI i) 8) := by
      unfold f_nd f_pi
      rw [if_pos b0, if_neg b4, cL, cw]
    have hio : it_ok M (-1 - nI i) := ⟨fun q => absurd q (nI_neg_lt hi), fun _ => by rw [nI_neg1 hi]; exact hvi⟩
    obtain ⟨x1, L', wt', c', y1, y2, y3, y4⟩ := li_putItem (i := -1 - nI i) (w := M.2 17 i) (s := f_of M (nI i) 8) (show L < 3700 by omega) l hio
    refine c_putItem hD (show L < 3700 by omega) l hio _ ⟨rfl, ?_⟩
    exact on _ (fun q => b4 q.2.1) e.symm (x1.sub (by decide) (by decide)) ⟨L', wt', c', y1, by omega, by omega⟩
  · -- a float at once
    have e : f_nd M i M = f_putFloat_M M c i := by
      unfold f_nd
      rw [if_neg b0, if_pos b7, cc]
    refine c_putFloat hD hi (by omega) l5 _ ⟨rfl, ?_⟩
    exact on _ (fun q => b0 q.1) e.symm ((f_putFloat_X M c i).sub (by decide) (by decide)) ⟨L, wt, c + 1, li_pf l (by omega), by omega, by omega⟩
  · -- a float that waits
    refine ⟨by rw [l4]; exact vp_nI (by omega) (by decide), ?_⟩
    rintro _ rfl _ rfl
    have e : f_nd M i M = f_wait M i := by
      unfold f_nd
      rw [if_neg b0, if_neg b7]
    exact on _ (fun q => b0 q.1) e.symm ((md_X.rf.up2 (by decide) _ _).up1 (by decide) _) ⟨L, wt + 1, c, li_wait hi l (by omega), by omega, by omega⟩
theorem f_nd_in {M : md_S} {i : Nat} (h : nd_in M i) (D : md_S) : f_nd M i D = D := by
  unfold f_nd
  rw [if_pos h.1, if_pos h.2.1, if_pos h.2.2.1, if_pos h.2.2.2.1, if_pos h.2.2.2.2]
theorem f_nd_out {M : md_S} {i : Nat} (h : ¬ nd_in M i) (D D' : md_S) : f_nd M i D = f_nd M i D' := by
  unfold f_nd
  by_cases h1 : f_isBox M (nI i) = 0
  · rw [if_pos h1, if_pos h1]
    by_cases h2 : ¬ M.2 12 i = 4
    · rw [if_pos h2, if_pos h2]
      by_cases h3 : ¬ M.2 12 i = 5
      · rw [if_pos h3, if_pos h3]
        by_cases h4 : ¬ M.2 12 i = 6
        · rw [if_pos h4, if_pos h4]
          by_cases h5 : ¬ M.2 12 i = 0
          · exact absurd ⟨h1, h2, h3, h4, h5⟩ h
          · rw [if_neg h5, if_neg h5]
        · rw [if_neg h4, if_neg h4]
      · rw [if_neg h3, if_neg h3]
    · rw [if_neg h2, if_neg h2]
  · rw [if_neg h1, if_neg h1]
def nd_its (M : md_S) (t : bt) : Nat := ((bt_pre t).map (nd_it M)).sum
theorem nd_its_br (M : md_S) (i : Nat) (k s : bt) : nd_its M (.branch i k s) = nd_it M i + nd_its M k + nd_its M s := by
  simp [nd_its, bt_pre, List.sum_append]
  omega
theorem nd_its_same {M M' : md_S} (h : md_X X_I X_B M M') (t : bt) : nd_its M' t = nd_its M t := by
  unfold nd_its
  congr 1
  apply List.map_congr_left
  intro i _
  exact nd_it_same h i
theorem c_ln {xs : List Int32} {mo : Nat} {ad : Nat → Nat} (hD : md_D mo ad) {h0 : am_H} {d : Nat} {Q : Option Value → md_S → Prop} {tp : Int32} : ∀ (t : bt) (M : md_S) (p b : Int32) (o3 : Option Value) (z y : Nat), bt_R (M.2 4) (M.2 5) (M.2 7) p t → bh (M.2 4) (M.2 7) tp p b → (∀ x ∈ bt_pre t, nd_ok M x ∧ ¬ nI x = tp) → li_b M (nd_its M t + z) ((bt_pre t).length + y) →
    (∀ o3, md_X X_I X_B M (f_ln t M) → li_b (f_ln t M) z y → md_wp xs mo ad h0 (d + 9) Q I136 2 [some (.ref mo), some (.int tp), some (.int b), o3] [] (f_ln t M)) → md_wp xs mo ad h0 (d + 9) Q I136 2 [some (.ref mo), some (.int tp), some (.int (bt_hd b t)), o3] [] M := by
  intro t
  induction t with
  | leaf u =>
    intro M p b o3 z y _ _ _ hl hk
    exact hk o3 md_X.rf (li_b_le hl (by omega) (by omega))
  | branch i k s ihk ihs =>
    intro M p b o3 z y hR hb ho hl hk
    have hs := bh_sib hR (ho i (by simp [bt_pre])).2 hb
    rw [nd_its_br] at hl
    have hlen : (bt_pre (.branch i k s)).length = 1 + (bt_pre k).length + (bt_pre s).length := by
      simp [bt_pre]
      omega
    rw [hlen] at hl
    -- the siblings behind
    have sib : ∀ M2, M2 = f_nd M i (f_ln k M) → md_X X_I X_B M M2 → li_b M2 (nd_its M s + z) ((bt_pre s).length + y) → ∀ o3, md_wp xs mo ad h0 (d + 9) Q I136 2 [some (.ref mo), some (.int tp), some (.int (bt_hd b s)), o3] [] M2 := by
      intro M2 e2 hx hl2 o3
      refine ihs M2 p b o3 z y (by rw [hx.2 4 (by decide), hx.2 5 (by decide), hx.2 7 (by decide)]; exact hR.2.2.2.2.2) (by rw [hx.2 4 (by decide), hx.2 7 (by decide)]; exact hb) (fun x hx' => ⟨nd_ok_same hx (ho x (by simp [bt_pre, hx'])).1, (ho x (by simp [bt_pre, hx'])).2⟩) (by rw [nd_its_same hx]; exact hl2) (fun o3 hx3 hl3 => ?_)
      subst e2
      exact hk o3 (hx.tr hx3) hl3
    refine c_nd (z := nd_its M k + nd_its M s + z) (y := (bt_pre k).length + (bt_pre s).length + y) hD hR hs (li_b_le hl (by omega) (by omega)) (ho i (by simp [bt_pre])).1 (fun hin o3 => ?_) (fun hout D hx hl2 o3 => ?_)
    · refine ihk M (nI i) _ o3 (nd_its M s + z) ((bt_pre s).length + y) hR.2.2.2.2.1 hs (fun x hx' => ho x (by simp [bt_pre, hx'])) (li_b_le hl (by omega) (by omega)) (fun o3 hx hl2 => ?_)
      exact sib _ (f_nd_in hin _).symm hx hl2 o3
    · have e := f_nd_out hout D (f_ln k M)
      rw [e] at hx hl2 ⊢
      exact sib _ rfl hx (li_b_le hl2 (by omega) (by omega)) o3
def f_thing (M : md_S) (i : Nat) (k : bt) : md_S := f_nd M i (f_ln k M)
theorem c_lineThing {xs : List Int32} {mo : Nat} {ad : Nat → Nat} {d : Nat} {M : md_S} {i z y : Nat} {p : Int32} {k s : bt} (hD : md_D mo ad) (hR : bt_R (M.2 4) (M.2 5) (M.2 7) p (.branch i k s)) (hn : i ∉ bt_pre k) (ho : ∀ x ∈ i :: bt_pre k, nd_ok M x) (hl : li_b M (nd_it M i + nd_its M k + z) (1 + (bt_pre k).length + y)) : ∀ Q', (md_X X_I X_B M (f_thing M i k) → li_b (f_thing M i k) z y → Q' none (f_thing M i k)) → md_C xs mo ad (d + 10) 136 [.int (nI i)] M Q' := by
  intro Q' hQ
  have hi : i < 60 := hR.1
  refine md_intro (ms136 xs) (Nat.le_of_ble_eq_true rfl) (fun h0 => vc136_0 hD ?_)
  have fin : ∀ M2 o3, M2 = f_thing M i k → md_X X_I X_B M M2 → li_b M2 z y → md_wp xs mo ad h0 (d + 9) Q' I136 2 [some (.ref mo), some (.int (nI i)), some (.int (-1)), o3] [] M2 := by
    intro M2 o3 e hx hl2
    subst e
    exact vc136_2 hD ⟨fun _ => hQ hx hl2, fun q => absurd rfl q⟩
  refine c_nd (z := nd_its M k + z) (y := (bt_pre k).length + y) (bv := -1) hD hR bh_top (li_b_le hl (by omega) (by omega)) (ho i (by simp)) (fun hin o3 => ?_) (fun hout D hx hl2 o3 => ?_)
  · refine c_ln hD k M (nI i) (-1) o3 z y hR.2.2.2.2.1 bh_top (fun x hx => ⟨ho x (by simp [hx]), fun e => ?_⟩) (li_b_le hl (by omega) (by omega)) (fun o3 hx hl2 => fin _ o3 (f_nd_in hin _).symm hx hl2)
    have hx6 := bt_R_mem hR.2.2.2.2.1 x hx
    rw [nI_eq (by omega) (by omega)] at e
    exact hn (e ▸ hx)
  · have e := f_nd_out hout D (f_ln k M)
    rw [e] at hx hl2 ⊢
    exact fin _ o3 rfl hx (li_b_le hl2 (by omega) (by omega))
