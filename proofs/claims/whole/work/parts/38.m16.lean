/-! the reference: endLine (by hand: wip/whole/gen/m16.py) -/
theorem f_putFloat_X (M : md_S) (c n : Nat) : md_X [38, 39, 46] [15, 16, 47, 48, 49, 50, 51] M (f_putFloat_M M c n) := by
  unfold f_putFloat_M f_edgesAt_M
  exact (((((((((md_X.rf.up1 (by decide) _).up1 (by decide) _).up2 (by decide) _ _).up2 (by decide) _ _).up2 (by decide) _ _).up2 (by decide) _ _).up2 (by decide) _ _).up1 (by decide) _).up2 (by decide) _ _).up2 (by decide) _ _
theorem f_putFloat_46 (M : md_S) (c n : Nat) : (f_putFloat_M M c n).1 46 = nI (c + 1) := by
  unfold f_putFloat_M
  rw [md_up2_1, md_up2_1, md_up1_at]
/-- what may stand on a line: a word, or a piece n as -1 - n -/
def it_ok (M : md_S) (a : Int32) : Prop := (0 ≤ a → vp_in a 3700 ∧ vp_in (M.2 30 a.toNatClampNeg) 60) ∧ (¬ 0 ≤ a → vp_in (-1 - a) 60)
def f_elBy (M : md_S) : Int32 := if ¬ M.1 43 = 0 then (if ¬ M.1 43 = 1 then f_more 0 (M.1 39 - M.1 40) else f_more 0 (M.1 39 - M.1 40) / 2) else 0
/-- item k comes to its place -/
def f_el1 (b : Int32) (M : md_S) (k : Nat) : md_S := if 0 ≤ M.2 44 k then md_up2 (md_up2 M 33 (M.2 44 k).toNatClampNeg (M.2 45 k + b)) 34 (M.2 44 k).toNatClampNeg (M.1 37 + M.1 42 - f_itemHigh M (M.2 44 k)) else md_up2 (md_up2 M 15 (-1 - M.2 44 k).toNatClampNeg (M.2 45 k + b)) 16 (-1 - M.2 44 k).toNatClampNeg (M.1 37 + M.1 42 - f_itemHigh M (M.2 44 k))
def f_elI (M : md_S) (L : Nat) : md_S := (List.range L).foldl (f_el1 (f_elBy M)) M
def f_el2 (M : md_S) : md_S := md_up1 (md_up1 (md_up1 (md_up1 M 37 (M.1 37 + M.1 42)) 41 0) 42 0) 54 0
def f_elW (M : md_S) (wt : Nat) : md_S := (List.range wt).foldl (fun N k => f_putFloat_M N (N.1 46).toNatClampNeg (N.2 52 k).toNatClampNeg) M
def f_endLine_M (M : md_S) (L wt : Nat) : md_S := md_up1 (f_elW (f_el2 (f_elI M L)) wt) 53 0
theorem f_el1_X (b : Int32) (M : md_S) (k : Nat) : md_X [] [15, 16, 33, 34] M (f_el1 b M k) := by
  unfold f_el1
  split
  · exact (md_X.rf.up2 (by decide) _ _).up2 (by decide) _ _
  · exact (md_X.rf.up2 (by decide) _ _).up2 (by decide) _ _
theorem f_elI_X (b : Int32) : ∀ (l : List Nat) (M : md_S), md_X [] [15, 16, 33, 34] M (l.foldl (f_el1 b) M) := by
  intro l
  induction l with
  | nil => intro M; exact md_X.rf
  | cons k l ih => intro M; exact (f_el1_X b M k).tr (ih _)
theorem f_elW_X : ∀ (l : List Nat) (M : md_S) (c : Nat), c + l.length < 2 ^ 31 → M.1 46 = nI c → md_X [38, 39, 46] [15, 16, 47, 48, 49, 50, 51] M (l.foldl (fun N k => f_putFloat_M N (N.1 46).toNatClampNeg (N.2 52 k).toNatClampNeg) M) ∧ (l.foldl (fun N k => f_putFloat_M N (N.1 46).toNatClampNeg (N.2 52 k).toNatClampNeg) M).1 46 = nI (c + l.length) := by
  intro l
  induction l with
  | nil => intro M c _ h; exact ⟨md_X.rf, h⟩
  | cons k l ih =>
    intro M c hc h
    simp only [List.length_cons] at hc
    rw [List.foldl_cons, h, nI_clamp (by omega)]
    have := ih (f_putFloat_M M c (M.2 52 k).toNatClampNeg) (c + 1) (by omega) (f_putFloat_46 _ _ _)
    refine ⟨(f_putFloat_X _ _ _).tr this.1, ?_⟩
    rw [this.2, List.length_cons]
    congr 1
    omega
theorem f_el2_X (M : md_S) : md_X [37, 41, 42, 54] [] M (f_el2 M) := by
  unfold f_el2
  exact ((((md_X.rf.up1 (by decide) _).up1 (by decide) _).up1 (by decide) _).up1 (by decide) _)
/-- all that endLine changes -/
theorem f_endLine_X {M : md_S} {L wt c : Nat} (hc : c + wt < 2 ^ 31) (h : M.1 46 = nI c) : md_X [37, 38, 39, 41, 42, 46, 53, 54] [15, 16, 33, 34, 47, 48, 49, 50, 51] M (f_endLine_M M L wt) ∧ (f_endLine_M M L wt).1 46 = nI (c + wt) ∧ (f_endLine_M M L wt).1 41 = 0 ∧ (f_endLine_M M L wt).1 53 = 0 := by
  have x1 := f_elI_X (f_elBy M) (List.range L) M
  have x2 := f_el2_X (f_elI M L)
  have e46 : (f_el2 (f_elI M L)).1 46 = nI c := by
    rw [x2.1 46 (by decide)]
    exact (x1.1 46 (by decide)).trans h
  have x3 := f_elW_X (List.range wt) (f_el2 (f_elI M L)) c (by simpa using hc) e46
  have x3a : md_X [38, 39, 46] [15, 16, 47, 48, 49, 50, 51] (f_el2 (f_elI M L)) (f_elW (f_el2 (f_elI M L)) wt) := x3.1
  have x3b : (f_elW (f_el2 (f_elI M L)) wt).1 46 = nI (c + (List.range wt).length) := x3.2
  refine ⟨?_, ?_, ?_, ?_⟩
  · unfold f_endLine_M
    exact (((x1.sub (by decide) (by decide)).tr (x2.sub (by decide) (by decide))).tr (x3a.sub (by decide) (by decide))).up1 (by decide) _
  · unfold f_endLine_M
    rw [md_up1_ne _ (by decide), x3b, List.length_range]
  · unfold f_endLine_M
    rw [md_up1_ne _ (by decide), x3a.1 41 (by decide)]
    unfold f_el2
    rw [md_up1_ne _ (by decide), md_up1_ne _ (by decide), md_up1_at]
  · unfold f_endLine_M
    rw [md_up1_at]
theorem it_ok_same {M M' : md_S} (h : M'.2 30 = M.2 30) {a : Int32} (ho : it_ok M a) : it_ok M' a := by
  unfold it_ok
  rw [h]
  exact ho
theorem ls_rd {j c : Nat} (h : j < c) : (List.range c).drop j = j :: (List.range c).drop (j + 1) := by
  rw [List.drop_eq_getElem_cons (by simpa using h)]
  simp
theorem c_elW {xs : List Int32} {mo : Nat} {ad : Nat → Nat} (hD : md_D mo ad) {h0 : am_H} {d : Nat} {Q : Option Value → md_S → Prop} {x1 x2 : Int32} {wt : Nat} {o4 o5 : Option Value} (hw : wt ≤ 60) :
    ∀ (r j c : Nat) (M : md_S), j + r = wt → M.1 53 = nI wt → M.1 46 = nI c → c + r ≤ 60 → (∀ k, k < wt → ∃ n, n < 60 ∧ M.2 52 k = nI n) → Q none (md_up1 (((List.range wt).drop j).foldl (fun N k => f_putFloat_M N (N.1 46).toNatClampNeg (N.2 52 k).toNatClampNeg) M) 53 0) → md_wp xs mo ad h0 (d + 6) Q I143 173 [some (.ref mo), some (.int x1), some (.int x2), some (.int (nI j)), o4, o5] [] M := by
  intro r
  induction r with
  | zero =>
    intro j c M hj h53 h46 hc hn hQ
    obtain rfl : j = wt := by omega
    rw [List.drop_eq_nil_of_le (by simp)] at hQ
    refine vc143_173 hD ⟨fun _ => ?_, fun q => absurd (by rw [h53]; exact nI_le (Nat.le_refl _) (by omega)) q⟩
    rintro _ rfl
    exact hQ
  | succ r ih =>
    intro j c M hj h53 h46 hc hn hQ
    obtain ⟨n, hn6, hnn⟩ := hn j (by omega)
    rw [ls_rd (show j < wt by omega), List.foldl_cons, h46, hnn, nI_clamp (show c < 2 ^ 31 by omega), nI_clamp (show n < 2 ^ 31 by omega)] at hQ
    refine vc143_173 hD ⟨fun q => absurd q (by rw [h53]; exact nI_ge (by omega) (by omega)), fun _ => ⟨vp_nI (by omega) (by decide), ?_⟩⟩
    rw [nI_clamp (by omega), hnn]
    refine c_putFloat hD hn6 (by omega) h46 _ ⟨rfl, ?_⟩
    rw [nI_1]
    have hx := f_putFloat_X M c n
    exact ih (j + 1) (c + 1) _ (by omega) ((hx.1 53 (by decide)).trans h53) (f_putFloat_46 _ _ _) (by omega) (fun k hk => by rw [hx.2 52 (by decide)]; exact hn k hk) hQ
theorem c_elI {xs : List Int32} {mo : Nat} {ad : Nat → Nat} (hD : md_D mo ad) {h0 : am_H} {d : Nat} {Q : Option Value → md_S → Prop} {x1 b : Int32} {L : Nat} (hL : L ≤ 3700) :
    ∀ (r j : Nat) (M : md_S) (o4 o5 : Option Value), j + r = L → M.1 41 = nI L → (∀ k, k < L → it_ok M (M.2 44 k)) → (∀ o4 o5, md_wp xs mo ad h0 (d + 6) Q I143 173 [some (.ref mo), some (.int x1), some (.int b), some (.int 0), o4, o5] [] (f_el2 (((List.range L).drop j).foldl (f_el1 b) M))) → md_wp xs mo ad h0 (d + 6) Q I143 43 [some (.ref mo), some (.int x1), some (.int b), some (.int (nI j)), o4, o5] [] M := by
  intro r
  induction r with
  | zero =>
    intro j M o4 o5 hj h41 _ hk
    obtain rfl : j = L := by omega
    rw [List.drop_eq_nil_of_le (by simp)] at hk
    refine vc143_43 hD ⟨fun _ => ?_, fun q => absurd (by rw [h41]; exact nI_le (Nat.le_refl _) (by omega)) q⟩
    rintro _ rfl _ rfl _ rfl _ rfl
    exact hk o4 o5
  | succ r ih =>
    intro j M o4 o5 hj h41 hi hk
    rw [ls_rd (show j < L by omega), List.foldl_cons] at hk
    have ho := hi j (by omega)
    refine vc143_43 hD ⟨fun q => absurd q (by rw [h41]; exact nI_ge (by omega) (by omega)), fun _ => ?_⟩
    rw [nI_clamp (by omega), nI_1]
    refine ⟨vp_nI (by omega) (by decide), ho.2, fun q => (ho.1 q).1, fun q => (ho.1 q).2, ⟨fun q => ⟨(ho.1 q).1, trivial⟩, fun q => ⟨ho.2 q, trivial⟩⟩, ?_⟩
    intro M1 e1
    have e1 : M1 = f_el1 b M j := e1
    have hx := f_el1_X b M j
    rw [← e1] at hx hk
    refine ih (j + 1) M1 _ _ (by omega) ((hx.1 41 (by decide)).trans h41) (fun k hk => ?_) hk
    rw [hx.2 44 (by decide)]
    exact it_ok_same (hx.2 30 (by decide)) (hi k hk)
theorem c_endLine {xs : List Int32} {mo : Nat} {ad : Nat → Nat} {d : Nat} {M : md_S} {L wt c : Nat} (hD : md_D mo ad) (hL : L ≤ 3700) (h41 : M.1 41 = nI L) (hi : ∀ k, k < L → it_ok M (M.2 44 k)) (h53 : M.1 53 = nI wt) (h46 : M.1 46 = nI c) (hcw : c + wt ≤ 60) (hw : ∀ k, k < wt → ∃ n, n < 60 ∧ M.2 52 k = nI n) : ∀ Q', Q' none (f_endLine_M M L wt) → md_C xs mo ad (d + 7) 143 [] M Q' := by
  intro Q' hQ
  refine md_intro (ms143 xs) (Nat.le_of_ble_eq_true rfl) (fun h0 => vc143_0 hD ?_)
  intro s1 e1
  have e1 : s1 = f_elBy M := e1
  subst e1
  have x1 := f_elI_X (f_elBy M) (List.range L) M
  have x2 := f_el2_X (f_elI M L)
  refine c_elI hD hL L 0 M none none (by omega) h41 hi (fun o4 o5 => ?_)
  rw [List.drop_zero]
  have e2 : ∀ f, f ∉ [37, 41, 42, 54] → (f_el2 (f_elI M L)).1 f = M.1 f := fun f hf => (x2.1 f hf).trans (x1.1 f (by simp))
  refine c_elW hD (show wt ≤ 60 by omega) wt 0 c _ (by omega) ((e2 53 (by decide)).trans h53) ((e2 46 (by decide)).trans h46) (by omega) (fun k hk => ?_) ?_
  · have e3 : (f_el2 (f_elI M L)).2 52 = M.2 52 := (x2.2 52 (by decide)).trans (x1.2 52 (by decide))
    have := hw k hk
    rw [← e3] at this
    exact this
  · rw [List.drop_zero]
    exact hQ
