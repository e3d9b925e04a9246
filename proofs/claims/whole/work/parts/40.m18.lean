/-! the reference: lineText (by hand: wip/whole/gen/m18.py) -/
theorem f_pl_X (M : md_S) (y a b e : Int32) : md_X [37, 38, 39, 40] [] M (f_pl M y a b e) := by
  refine ⟨fun f h => ?_, fun f _ => rfl⟩
  simp only [List.mem_cons, List.not_mem_nil, or_false, not_or] at h
  show (if f = 37 then y else if f = 38 then a else if f = 39 then b else if f = 40 then e else M.1 f) = M.1 f
  rw [if_neg h.1, if_neg h.2.1, if_neg h.2.2.1, if_neg h.2.2.2]
theorem f_add_X (M : md_S) (L : Nat) (i a w : Int32) : md_X [40, 41, 42] [44, 45] M (f_add_M M L i a w) := by
  unfold f_add_M
  exact ((((md_X.rf.up2 (by decide) _ _).up2 (by decide) _ _).up1 (by decide) _).up1 (by decide) _).up1 (by decide) _
theorem f_add_41 (M : md_S) (L : Nat) (i a w : Int32) : (f_add_M M L i a w).1 41 = nI (L + 1) := by
  unfold f_add_M
  rw [md_up1_ne _ (by decide), md_up1_ne _ (by decide), md_up1_at]
theorem f_add_44 (M : md_S) (L : Nat) (i a w : Int32) (k : Nat) : (f_add_M M L i a w).2 44 k = if k = L then i else M.2 44 k := by
  unfold f_add_M
  rw [md_up1_2, md_up1_2, md_up1_2, md_up2_ne _ (by decide)]
  by_cases h : k = L
  · rw [if_pos h, h, md_up2_at]
  · rw [if_neg h, md_up2_off _ _ h]
/-- what putItem may change -/
def X_I : List Nat := [37, 38, 39, 40, 41, 42, 46, 53, 54]
def X_A : List Nat := [15, 16, 33, 34, 44, 45, 47, 48, 49, 50, 51]
theorem li_add {M N : md_S} {L wt c : Nat} {i a w : Int32} (hL : L < 3700) (hl : li_ok M L wt c) (ho : it_ok M i) (hx : md_X [37, 38, 39, 40] [] M N) : li_ok (md_up1 (f_add_M N L i a w) 54 0) (L + 1) wt c := by
  obtain ⟨l1, l2, l3, l4, l5, l6, l7⟩ := hl
  have hX : md_X X_I X_A M (md_up1 (f_add_M N L i a w) 54 0) := ((hx.sub (by decide) (by decide)).tr ((f_add_X N L i a w).sub (by decide) (by decide))).up1 (by decide) _
  have e1 : ∀ f, f ≠ 54 → (md_up1 (f_add_M N L i a w) 54 0).1 f = (f_add_M N L i a w).1 f := fun f h => md_up1_ne _ h _
  have h30 : (md_up1 (f_add_M N L i a w) 54 0).2 30 = M.2 30 := hX.2 30 (by decide)
  refine ⟨by omega, ?_, fun k hk => ?_, ?_, ?_, l6, fun k hk => ?_⟩
  · rw [e1 41 (by decide), f_add_41]
  · show it_ok _ ((f_add_M N L i a w).2 44 k)
    rw [f_add_44]
    by_cases h : k = L
    · rw [if_pos h]
      exact it_ok_same h30 ho
    · rw [if_neg h, hx.2 44 (by decide)]
      exact it_ok_same h30 (l3 k (by omega))
  · rw [e1 53 (by decide), (f_add_X N L i a w).1 53 (by decide), hx.1 53 (by decide)]
    exact l4
  · rw [e1 46 (by decide), (f_add_X N L i a w).1 46 (by decide), hx.1 46 (by decide)]
    exact l5
  · have : (md_up1 (f_add_M N L i a w) 54 0).2 52 = M.2 52 := hX.2 52 (by decide)
    rw [this]
    exact l7 k hk
theorem li_end {M : md_S} {L wt c : Nat} (hl : li_ok M L wt c) : li_ok (f_endLine_M M L wt) 0 0 (c + wt) ∧ md_X X_I X_A M (f_endLine_M M L wt) := by
  obtain ⟨l1, l2, l3, l4, l5, l6, l7⟩ := hl
  obtain ⟨x1, x2, x3, x4⟩ := f_endLine_X (M := M) (L := L) (wt := wt) (c := c) (by omega) l5
  exact ⟨⟨by omega, x3, fun k hk => absurd hk (by omega), x4, x2, by omega, fun k hk => absurd hk (by omega)⟩, x1.sub (by decide) (by decide)⟩
theorem li_putItem {M : md_S} {L wt c : Nat} {i w s : Int32} (hL : L < 3700) (hl : li_ok M L wt c) (ho : it_ok M i) : md_X X_I X_A M (f_putItem_M M L wt i w s) ∧ ∃ L' wt' c', li_ok (f_putItem_M M L wt i w s) L' wt' c' ∧ 0 < L' ∧ L' ≤ L + 1 ∧ c' + wt' = c + wt := by
  unfold f_putItem_M
  by_cases hz : L = 0
  · rw [if_pos hz]
    subst hz
    unfold f_place_M
    have hx := f_pl_X M (f_plAt M w) (f_plE M w).1 (f_plE M w).2 (f_plE M w).1
    refine ⟨((hx.sub (by decide) (by decide)).tr ((f_add_X _ 0 i _ w).sub (by decide) (by decide))).up1 (by decide) _, 1, wt, c, li_add hL hl ho hx, by omega, by omega, rfl⟩
  · rw [if_neg hz]
    by_cases h1 : M.1 40 + f_gap M s + w ≤ M.1 39
    · rw [if_pos h1]
      exact ⟨((f_add_X M L i _ w).sub (by decide) (by decide)).up1 (by decide) _, L + 1, wt, c, li_add hL hl ho md_X.rf, by omega, by omega, rfl⟩
    · rw [if_neg h1]
      obtain ⟨hl2, hx2⟩ := li_end hl
      have ho2 : it_ok (f_endLine_M M L wt) i := it_ok_same (hx2.2 30 (by decide)) ho
      unfold f_place_M
      have hx := f_pl_X (f_endLine_M M L wt) (f_plAt (f_endLine_M M L wt) w) (f_plE (f_endLine_M M L wt) w).1 (f_plE (f_endLine_M M L wt) w).2 (f_plE (f_endLine_M M L wt) w).1
      refine ⟨((hx2.tr (hx.sub (by decide) (by decide))).tr ((f_add_X _ 0 i _ w).sub (by decide) (by decide))).up1 (by decide) _, 1, 0, c + wt, li_add (by decide) hl2 ho2 hx, by omega, by omega, by omega⟩
/-- putItem, its counts from the state -/
def f_pi (M : md_S) (i w s : Int32) : md_S := f_putItem_M M (M.1 41).toNatClampNeg (M.1 53).toNatClampNeg i w s
/-- the bytes of a text, on the line: w: the next word; q: within a word -/
def f_lt (s : Int32) : List Int32 → Bool → Nat → md_S → md_S
  | [], _, _, M => M
  | b :: l, q, w, M => if f_blank b = 0 then (if q = true then f_lt s l true w M else f_lt s l true (w + 1) (f_pi M (nI w) (M.2 35 w) s)) else f_lt s l false w (md_up1 M 54 1)
theorem ws_skip (s : Int32) : ∀ (l : List Int32) (j a : Nat) (w0 : Int32), a ≤ j → ∃ e w', j ≤ e ∧ e ≤ j + l.length ∧ ws_A s l j (some (a, w0)) = (a, e - a, w') :: ws_A s (l.drop (e - j)) e none ∧ ∀ w M, f_lt s l true w M = f_lt s (l.drop (e - j)) false w M := by
  intro l
  induction l with
  | nil =>
    intro j a w0 ha
    exact ⟨j, w0, Nat.le_refl _, by simp, by simp [ws_A], fun w M => by simp [f_lt]⟩
  | cons b l ih =>
    intro j a w0 ha
    by_cases hb : f_blank b = 0
    · obtain ⟨e, w', h1, h2, h3, h4⟩ := ih (j + 1) a (w0 + f_glyph b * s) (by omega)
      have ed : (b :: l).drop (e - j) = l.drop (e - (j + 1)) := by
        rw [show e - j = (e - (j + 1)) + 1 by omega, List.drop_succ_cons]
      refine ⟨e, w', by omega, by simp only [List.length_cons]; omega, ?_, fun w M => ?_⟩
      · rw [ed, ← h3, ws_A, if_pos hb]
      · rw [ed, ← h4, f_lt, if_pos hb, if_pos rfl]
    · refine ⟨j, w0, Nat.le_refl _, by omega, ?_, fun w M => ?_⟩
      · rw [Nat.sub_self, List.drop_zero, ws_A, if_neg hb, ws_A, if_neg hb]
      · rw [Nat.sub_self, List.drop_zero, f_lt, if_neg hb, f_lt, if_neg hb]
/-- the words of these bytes stand from w on -/
def wd_on (M : md_S) (n w : Nat) (l : List (Nat × Nat × Int32)) : Prop := ∀ q r, l[q]? = some r → M.2 30 (w + q) = nI n ∧ M.2 31 (w + q) = nI r.1 ∧ M.2 32 (w + q) = nI r.2.1
theorem wd_on_same {M M' : md_S} {n w : Nat} {l : List (Nat × Nat × Int32)} (h : md_X X_I X_A M M') (ho : wd_on M n w l) : wd_on M' n w l := by
  intro q r hq
  rw [h.2 30 (by decide), h.2 31 (by decide), h.2 32 (by decide)]
  exact ho q r hq
theorem c_lineText_loop {xs : List Int32} {mo : Nat} {ad : Nat → Nat} (hD : md_D mo ad) {h0 : am_H} {d : Nat} {Q : Option Value → md_S → Prop} {n cc z y : Nat} {s : Int32} {B : List Int32} (hn : n < 60) (hc : cc ≤ 120) :
    ∀ (g j w L wt c : Nat) (M : md_S), cc < j + g → j ≤ cc → M.2 11 n = nI cc → by_of M n = B → wd_on M n w (ws_A s (B.drop j) j none) → w + (ws_A s (B.drop j) j none).length ≤ 3700 → li_ok M L wt c → L + (ws_A s (B.drop j) j none).length + z ≤ 3700 → c + wt = y →
      (∀ L' wt' c', li_ok (f_lt s (B.drop j) false w M) L' wt' c' → L' + z ≤ 3700 → c' + wt' = y → md_X X_I X_A M (f_lt s (B.drop j) false w M) → Q none (f_lt s (B.drop j) false w M)) → md_wp xs mo ad h0 (d + 8) Q I144 18 [some (.ref mo), some (.int (nI n)), some (.int (nI w)), some (.int s), some (.int (nI j))] [] M := by
  have hcn : (nI n).toNatClampNeg = n := nI_clamp (by omega)
  have hvn : vp_in (nI n) 60 := vp_nI hn (by decide)
  intro g
  induction g with
  | zero => intro j w L wt c M h1 h2; omega
  | succ g ih =>
    intro j w L wt c M h1 h2 he hB hw hw6 hl hL hy hk
    have hlen : B.length = cc := by rw [← hB]; exact by_len he hc
    rcases Nat.lt_or_ge j cc with hj | hj
    · have hle : ¬ M.2 11 (nI n).toNatClampNeg ≤ nI j := by rw [hcn, he]; exact nI_ge hj (by omega)
      refine vc144_18 hD ⟨hvn, fun q => absurd q hle, fun _ => ?_⟩
      rw [nI_120, nI_clamp (show 120 * n + j < 2 ^ 31 by omega)]
      have hbd : B.drop j = M.2 10 (120 * n + j) :: B.drop (j + 1) := by rw [← hB]; exact by_drop he hc hj
      refine ⟨vp_nI (by omega) (by decide), fun hb => ?_, fun hb => ?_⟩
      · -- a word
        obtain ⟨e, w', s1, s2, s3, s4⟩ := ws_skip s (B.drop (j + 1)) (j + 1) j (0 + f_glyph (M.2 10 (120 * n + j)) * s) (by omega)
        have ews : ws_A s (B.drop j) j none = (j, e - j, w') :: ws_A s (B.drop e) e none := by
          rw [hbd, ws_A, if_pos hb, s3, List.drop_drop]
          rw [show j + 1 + (e - (j + 1)) = e by omega]
        rw [List.length_drop, hlen] at s2
        rw [ews] at hw hw6 hL
        simp only [List.length_cons] at hw6 hL
        obtain ⟨w30, w31, w32⟩ := hw 0 (j, e - j, w') (by simp)
        rw [Nat.add_zero] at w30 w31 w32
        have hvw : vp_in (nI w) 3700 := vp_nI (by omega) (by decide)
        have hcw : (nI w).toNatClampNeg = w := nI_clamp (by omega)
        have ho : it_ok M (nI w) := ⟨fun _ => ⟨hvw, by rw [hcw, w30]; exact hvn⟩, fun q => absurd (nI_pos' (by omega)) q⟩
        obtain ⟨x1, L', wt', c', y1, y2, y3, y4⟩ := li_putItem (i := nI w) (w := M.2 35 w) (s := s) (show L < 3700 by omega) hl ho
        have elt : f_lt s (B.drop j) false w M = f_lt s (B.drop e) false (w + 1) (f_putItem_M M L wt (nI w) (M.2 35 w) s) := by
          rw [hbd, f_lt, if_pos hb, if_neg (by decide), s4, List.drop_drop, show j + 1 + (e - (j + 1)) = e by omega]
          unfold f_pi
          rw [hl.2.1, hl.2.2.2.1, nI_clamp (show L < 2 ^ 31 by have := hl.1; omega), nI_clamp (show wt < 2 ^ 31 by have := hl.2.2.2.2.2.1; omega)]
        rw [hcw]
        refine ⟨hvw, c_putItem hD (by omega) hl ho _ ⟨rfl, hvw, ?_⟩⟩
        rw [x1.2 31 (by decide), x1.2 32 (by decide), w31, w32, nI_add, nI_1]
        rw [show j + (j, e - j, w').2.1 = e by show j + (e - j) = e; omega]
        refine ih e (w + 1) L' wt' c' _ (by omega) (by omega) (by rw [x1.2 11 (by decide)]; exact he) (by rw [by_same (x1.2 10 (by decide)) (x1.2 11 (by decide))]; exact hB) ?_ (by omega) y1 (by omega) (by omega) ?_
        · intro q r hq
          have := wd_on_same x1 hw (q + 1) r (by simpa using hq)
          rw [show w + 1 + q = w + (q + 1) by omega]
          exact this
        · rw [elt] at hk
          intro L2 wt2 c2 z1 z2 z3 z4
          exact hk L2 wt2 c2 z1 z2 z3 (x1.tr z4)
      · -- a blank
        rintro _ rfl
        have ews : ws_A s (B.drop j) j none = ws_A s (B.drop (j + 1)) (j + 1) none := by rw [hbd, ws_A, if_neg hb]
        rw [ews] at hw hw6 hL
        have elt : f_lt s (B.drop j) false w M = f_lt s (B.drop (j + 1)) false w (md_up1 M 54 1) := by rw [hbd, f_lt, if_neg hb]
        rw [elt] at hk
        have x1 : md_X X_I X_A M (md_up1 M 54 1) := md_X.rf.up1 (by decide) _
        rw [nI_1]
        refine ih (j + 1) w L wt c _ (by omega) (by omega) he hB (wd_on_same x1 hw) hw6 ?_ hL hy (fun L2 wt2 c2 z1 z2 z3 z4 => hk L2 wt2 c2 z1 z2 z3 (x1.tr z4))
        obtain ⟨l1, l2, l3, l4, l5, l6, l7⟩ := hl
        exact ⟨l1, by rw [md_up1_ne _ (by decide)]; exact l2, l3, by rw [md_up1_ne _ (by decide)]; exact l4, by rw [md_up1_ne _ (by decide)]; exact l5, l6, l7⟩
    · obtain rfl : j = cc := by omega
      have hd : B.drop j = [] := List.drop_eq_nil_of_le (by omega)
      rw [hd] at hk hL
      refine vc144_18 hD ⟨hvn, fun _ => ?_, fun q => absurd (by rw [hcn, he]; exact nI_le (Nat.le_refl _) (by omega)) q⟩
      exact hk L wt c hl (by simp [ws_A] at hL; omega) hy md_X.rf
def f_lineText_M (M : md_S) (n w : Nat) : md_S := f_lt (f_of M (nI n) 8) (by_of M n) false w M
theorem c_lineText {xs : List Int32} {mo : Nat} {ad : Nat → Nat} {d : Nat} {M : md_S} {n w L wt c z : Nat} (hD : md_D mo ad) (hn : n < 60) (hy : by_ok M n) (hf : M.2 28 n = nI w) (hw : wd_on M n w (ws_of M n)) (hw6 : w + (ws_of M n).length ≤ 3700) (hl : li_ok M L wt c) (hL : L + (ws_of M n).length + z ≤ 3700) : ∀ Q', (∀ L' wt' c', li_ok (f_lineText_M M n w) L' wt' c' → L' + z ≤ 3700 → c' + wt' = c + wt → md_X X_I X_A M (f_lineText_M M n w) → Q' none (f_lineText_M M n w)) → md_C xs mo ad (d + 9) 144 [.int (nI n)] M Q' := by
  intro Q' hQ
  obtain ⟨cc, hc, he⟩ := hy
  refine md_intro (ms144 xs) (Nat.le_of_ble_eq_true rfl) (fun h0 => vc144_0 hD ⟨vp_nI hn (by decide), ?_⟩)
  rw [nI_clamp (by omega), hf]
  exact c_lineText_loop hD hn hc (cc + 1) 0 w L wt c M (by omega) (by omega) he rfl hw hw6 hl hL rfl hQ
