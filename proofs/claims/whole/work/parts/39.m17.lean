/-! the reference: putItem (by hand: wip/whole/gen/m17.py) -/
def f_pl (M : md_S) (y a b e : Int32) : md_S := (fun g => if g = 37 then y else if g = 38 then a else if g = 39 then b else if g = 40 then e else M.1 g, M.2)
theorem f_pl_eta (M : md_S) : f_pl M (M.1 37) (M.1 38) (M.1 39) (M.1 40) = M := by
  unfold f_pl
  refine Prod.ext (funext fun g => ?_) rfl
  show (if g = 37 then M.1 37 else if g = 38 then M.1 38 else if g = 39 then M.1 39 else if g = 40 then M.1 40 else M.1 g) = M.1 g
  by_cases h1 : g = 37
  · rw [if_pos h1, h1]
  by_cases h2 : g = 38
  · rw [if_neg h1, if_pos h2, h2]
  by_cases h3 : g = 39
  · rw [if_neg h1, if_neg h2, if_pos h3, h3]
  by_cases h4 : g = 40
  · rw [if_neg h1, if_neg h2, if_neg h3, if_pos h4, h4]
  · rw [if_neg h1, if_neg h2, if_neg h3, if_neg h4]
theorem f_pl_37 (M : md_S) (y a b e v : Int32) : md_up1 (f_pl M y a b e) 37 v = f_pl M v a b e := by
  unfold f_pl md_up1
  refine Prod.ext (funext fun g => ?_) rfl
  by_cases h1 : g = 37 <;> simp [h1]
theorem f_pl_40 (M : md_S) (y a b e v : Int32) : md_up1 (f_pl M y a b e) 40 v = f_pl M y a b v := by
  unfold f_pl md_up1
  refine Prod.ext (funext fun g => ?_) rfl
  by_cases h4 : g = 40
  · subst h4
    simp
  · by_cases h1 : g = 37 <;> by_cases h2 : g = 38 <;> by_cases h3 : g = 39 <;> simp [h1, h2, h3, h4]
theorem f_pl_ed (M : md_S) (y a b e v : Int32) : f_edgesAt_M (f_pl M y a b e) v = f_pl M y (sp_edges (M.1 55) v (md_flts M (M.1 46).toNatClampNeg)).1 (sp_edges (M.1 55) v (md_flts M (M.1 46).toNatClampNeg)).2 e := by
  have e1 : (f_pl M y a b e).1 55 = M.1 55 := rfl
  have e2 : (f_pl M y a b e).1 46 = M.1 46 := rfl
  have e3 : ∀ n, md_flts (f_pl M y a b e) n = md_flts M n := fun _ => rfl
  unfold f_edgesAt_M
  rw [e1, e2, e3]
  generalize (sp_edges (M.1 55) v (md_flts M (M.1 46).toNatClampNeg)).1 = p
  generalize (sp_edges (M.1 55) v (md_flts M (M.1 46).toNatClampNeg)).2 = q
  unfold f_pl md_up1
  refine Prod.ext (funext fun g => ?_) rfl
  by_cases h1 : g = 37
  · subst h1
    simp
  · by_cases h2 : g = 38
    · subst h2
      simp
    · by_cases h3 : g = 39
      · subst h3
        simp
      · simp [h1, h2, h3]
def f_add_M (M : md_S) (L : Nat) (i at_ w : Int32) : md_S := md_up1 (md_up1 (md_up1 (md_up2 (md_up2 M 44 L i) 45 L at_) 41 (nI (L + 1))) 40 (at_ + w)) 42 (f_more (M.1 42) (f_itemHigh M i))
theorem f_itemHigh_same {M M' : md_S} (h30 : M'.2 30 = M.2 30) (h9 : M'.2 9 = M.2 9) (h18 : M'.2 18 = M.2 18) (a : Int32) : f_itemHigh M' a = f_itemHigh M a := by
  unfold f_itemHigh f_of
  rw [h30, h9, h18]
/-- the fitting item, and the end of putItem -/
theorem c_add {xs : List Int32} {mo : Nat} {ad : Nat → Nat} (hD : md_D mo ad) {h0 : am_H} {d : Nat} {Q : Option Value → md_S → Prop} {N : md_S} {L : Nat} {i w s a s3 : Int32} (hL : L < 3700) (h41 : N.1 41 = nI L) (ho : it_ok N i) (hQ : Q none (md_up1 (f_add_M N L i a w) 54 0)) :
    (vp_in (N.1 41) 3700) ∧ (∀ M2 : md_S, M2 = md_up2 N 44 (N.1 41).toNatClampNeg i → ((vp_in (M2.1 41) 3700) ∧ (∀ M3 : md_S, M3 = md_up2 M2 45 (M2.1 41).toNatClampNeg a → (∀ M4 : md_S, M4 = md_up1 M3 41 ((M3.1 41) + 1) → (∀ M5 : md_S, M5 = md_up1 M4 40 (a + w) → ((¬ (0 ≤ i) → vp_in ((-1) - i) 60) ∧ (((0 ≤ i) → vp_in i 3700) ∧ (((0 ≤ i) → vp_in (M5.2 30 i.toNatClampNeg) 60) ∧ (∀ M6 : md_S, M6 = md_up1 M5 42 (f_more (M5.1 42) (f_itemHigh M5 i)) → (md_wp xs mo ad h0 (d + 7) Q I141 3 [some (.ref mo), some (.int i), some (.int w), some (.int s), some (.int 1), some (.int a), some (.int s3)] [] M6)))))))))) := by
  have hv : vp_in (N.1 41) 3700 := by rw [h41]; exact vp_nI hL (by decide)
  have hcl : (N.1 41).toNatClampNeg = L := by rw [h41, nI_clamp (by omega)]
  refine ⟨hv, fun M2 e2 => ⟨by rw [e2]; exact hv, fun M3 e3 M4 e4 M5 e5 => ?_⟩⟩
  have q30 : M5.2 30 = N.2 30 ∧ M5.2 9 = N.2 9 ∧ M5.2 18 = N.2 18 := by
    rw [e5, e4, e3, e2]
    refine ⟨?_, ?_, ?_⟩
    · rw [md_up1_2, md_up1_2, md_up2_ne _ (by decide), md_up2_ne _ (by decide)]
    · rw [md_up1_2, md_up1_2, md_up2_ne _ (by decide), md_up2_ne _ (by decide)]
    · rw [md_up1_2, md_up1_2, md_up2_ne _ (by decide), md_up2_ne _ (by decide)]
  refine ⟨ho.2, fun q => (ho.1 q).1, fun q => by rw [q30.1]; exact (ho.1 q).2, fun M6 e6 => ?_⟩
  have e : M6 = f_add_M N L i a w := by
    rw [e6, f_itemHigh_same q30.1 q30.2.1 q30.2.2]
    have q42 : M5.1 42 = N.1 42 := by rw [e5, e4, e3, e2, md_up1_ne _ (by decide), md_up1_ne _ (by decide)]; rfl
    rw [q42, e5, e4, e3, e2, md_up2_1, md_up2_1, hcl, md_up2_1, h41, nI_1]
    rfl
  rw [e]
  refine vc141_3 hD ⟨fun _ => ?_, fun q => absurd (by decide) q⟩
  rintro _ rfl
  exact hQ
def f_plAt (M : md_S) (w : Int32) : Int32 := sp_room (M.1 55) w (md_flts M (M.1 46).toNatClampNeg) (M.1 37)
def f_plE (M : md_S) (w : Int32) : Int32 × Int32 := sp_edges (M.1 55) (f_plAt M w) (md_flts M (M.1 46).toNatClampNeg)
def f_place_M (M : md_S) (i w : Int32) : md_S := f_add_M (f_pl M (f_plAt M w) (f_plE M w).1 (f_plE M w).2 (f_plE M w).1) 0 i (f_plE M w).1 w
theorem c_place {xs : List Int32} {mo : Nat} {ad : Nat → Nat} (hD : md_D mo ad) {h0 : am_H} {d : Nat} {Q : Option Value → md_S → Prop} {M : md_S} {c : Nat} {i w s : Int32} (hc : c ≤ 60) (h46 : M.1 46 = nI c) (h41 : M.1 41 = 0) (ho : it_ok M i) (hQ : Q none (md_up1 (f_place_M M i w) 54 0)) :
    ∀ (n : Nat) (y a b e : Int32) (o5 o6 : Option Value), sp_cnt y (md_flts M c) < n → sp_rm (M.1 55) w (md_flts M c) n y = f_plAt M w → md_wp xs mo ad h0 (d + 7) Q I141 3 [some (.ref mo), some (.int i), some (.int w), some (.int s), some (.int 0), o5, o6] [] (f_pl M y a b e) := by
  have hcl : (M.1 46).toNatClampNeg = c := by rw [h46, nI_clamp (by omega)]
  have hv : vp_in (M.1 46) 61 := by rw [h46]; exact vp_nI (by omega) (by decide)
  intro n
  induction n with
  | zero => intro y a b e o5 o6 h; omega
  | succ n ih =>
    intro y a b e o5 o6 hcnt hrm
    have h41' : ∀ y a b e, (f_pl M y a b e).1 41 = 0 := fun _ _ _ _ => h41
    have h00 : (0 : Int32) ≤ 0 := by decide
    refine vc141_3 hD ⟨fun q => absurd rfl q, fun _ => ⟨⟨fun _ => trivial, fun _ => ⟨hv, trivial⟩⟩, ?_⟩⟩
    intro M1 e1
    have e1 : M1 = f_pl M y (sp_edges (M.1 55) y (md_flts M c)).1 (sp_edges (M.1 55) y (md_flts M c)).2 (sp_edges (M.1 55) y (md_flts M c)).1 := by
      rw [e1, if_neg (fun q => q (h41' y a b e))]
      show md_up1 (f_edgesAt_M (f_pl M y a b e) y) 40 ((f_edgesAt_M (f_pl M y a b e) y).1 38) = _
      rw [f_pl_ed, f_pl_40, hcl]
      rfl
    have g41 : M1.1 41 = 0 := by rw [e1]; exact h41
    have g40 : M1.1 40 = (sp_edges (M.1 55) y (md_flts M c)).1 := by rw [e1]; rfl
    have g39 : M1.1 39 = (sp_edges (M.1 55) y (md_flts M c)).2 := by rw [e1]; rfl
    have g37 : M1.1 37 = y := by rw [e1]; rfl
    have g46 : M1.1 46 = M.1 46 := by rw [e1]; rfl
    have gl : f_leastEnd M1 y = sp_least y (md_flts M c) := by
      unfold f_leastEnd
      rw [g46, hcl, e1]
      rfl
    have go : it_ok M1 i := it_ok_same (by rw [e1]; rfl) ho
    intro s2 e2
    rw [g41, if_pos h00] at e2
    subst e2
    refine ⟨⟨fun _ => ⟨by rw [g46]; exact hv, trivial⟩, fun _ => trivial⟩, ?_⟩
    intro s3 e3
    rw [g41, if_pos h00, g37, gl] at e3
    rw [g40, g39, Int32.add_zero]
    unfold sp_rm at hrm
    have fin : y = f_plAt M w → Q none (md_up1 (f_add_M M1 0 i (sp_edges (M.1 55) y (md_flts M c)).1 w) 54 0) := by
      intro hy
      unfold f_place_M f_plE at hQ
      rw [hcl, ← hy] at hQ
      rw [e1]
      exact hQ
    refine ⟨fun h1 => ?_, fun h1 => ⟨fun q => absurd g41 q, fun _ => ⟨fun h2 => ⟨fun _ => ?_, fun q => absurd (by rw [g41]; exact h00) q⟩, fun h2 => ?_⟩⟩⟩
    · rw [if_pos h1] at hrm
      exact c_add hD (by decide) g41 go (fin hrm)
    · rw [if_neg h1, if_neg (by rw [← e3]; exact h2)] at hrm
      rintro _ rfl
      rw [e1, f_pl_37, e3]
      exact ih _ _ _ _ _ _ (by have := sp_cnt_least (y := y) (fs := md_flts M c) (by rw [← e3]; exact h2); omega) hrm
    · rw [if_neg h1, if_pos (by rw [← e3]; exact Classical.not_not.mp h2)] at hrm
      exact c_add hD (by decide) g41 go (fin hrm)
theorem c_place0 {xs : List Int32} {mo : Nat} {ad : Nat → Nat} (hD : md_D mo ad) {h0 : am_H} {d : Nat} {Q : Option Value → md_S → Prop} {M : md_S} {c : Nat} {i w s : Int32} (hc : c ≤ 60) (h46 : M.1 46 = nI c) (h41 : M.1 41 = 0) (ho : it_ok M i) (hQ : Q none (md_up1 (f_place_M M i w) 54 0)) (o5 o6 : Option Value) : md_wp xs mo ad h0 (d + 7) Q I141 3 [some (.ref mo), some (.int i), some (.int w), some (.int s), some (.int 0), o5, o6] [] M := by
  have hcl : (M.1 46).toNatClampNeg = c := by rw [h46, nI_clamp (by omega)]
  have hcnt : sp_cnt (M.1 37) (md_flts M c) < 61 := by
    have := sp_cnt_le (M.1 37) (md_flts M c)
    have hl : (md_flts M c).length = c := by simp [md_flts]
    omega
  have := c_place (xs := xs) (mo := mo) (ad := ad) (h0 := h0) (d := d) (s := s) hD hc h46 h41 ho hQ 61 (M.1 37) (M.1 38) (M.1 39) (M.1 40) o5 o6 hcnt (by unfold f_plAt; rw [hcl]; rfl)
  rw [f_pl_eta] at this
  exact this
def f_gap (M : md_S) (s : Int32) : Int32 := if M.1 54 = 0 then 0 else 3 * s
def f_putItem_M (M : md_S) (L wt : Nat) (i w s : Int32) : md_S := md_up1 (if L = 0 then f_place_M M i w else if M.1 40 + f_gap M s + w ≤ M.1 39 then f_add_M M L i (M.1 40 + f_gap M s) w else f_place_M (f_endLine_M M L wt) i w) 54 0
/-- the line and what waits are in order -/
def li_ok (M : md_S) (L wt c : Nat) : Prop := L ≤ 3700 ∧ M.1 41 = nI L ∧ (∀ k, k < L → it_ok M (M.2 44 k)) ∧ M.1 53 = nI wt ∧ M.1 46 = nI c ∧ c + wt ≤ 60 ∧ ∀ k, k < wt → ∃ n, n < 60 ∧ M.2 52 k = nI n
theorem c_putItem {xs : List Int32} {mo : Nat} {ad : Nat → Nat} {d : Nat} {M : md_S} {L wt c : Nat} {i w s : Int32} (hD : md_D mo ad) (hL : L < 3700) (hl : li_ok M L wt c) (ho : it_ok M i) : ∀ Q', Q' none (f_putItem_M M L wt i w s) → md_C xs mo ad (d + 8) 141 [.int i, .int w, .int s] M Q' := by
  intro Q' hQ
  obtain ⟨l1, l2, l3, l4, l5, l6, l7⟩ := hl
  refine md_intro (ms141 xs) (Nat.le_of_ble_eq_true rfl) (fun h0 => vc141_0 hD ?_)
  unfold f_putItem_M at hQ
  by_cases hz : L = 0
  · rw [if_pos hz] at hQ
    subst hz
    exact c_place0 hD (show c ≤ 60 by omega) l5 l2 ho hQ none none
  · rw [if_neg hz] at hQ
    have n41 : ¬ M.1 41 = 0 := by rw [l2]; exact nI_ne0 (by omega) (by omega)
    have n41' : ¬ M.1 41 ≤ 0 := by rw [l2]; exact nI_nle (by omega) (by omega)
    refine vc141_3 hD ⟨fun q => absurd rfl q, fun _ => ⟨⟨fun _ => trivial, fun q => absurd n41 q⟩, ?_⟩⟩
    intro M1 e1
    rw [if_pos n41] at e1
    subst e1
    intro s2 e2
    rw [if_neg n41'] at e2
    have e2 : s2 = f_gap M1 s := e2
    subst e2
    refine ⟨⟨fun q => absurd q n41', fun _ => trivial⟩, ?_⟩
    intro s3 e3
    refine ⟨fun h1 => ?_, fun h1 => ⟨fun _ => ⟨fun q => absurd q n41', fun _ => ?_⟩, fun q => absurd n41 q⟩⟩
    · rw [if_pos h1] at hQ
      exact c_add hD hL l2 ho hQ
    · rw [if_neg h1] at hQ
      refine c_endLine hD l1 l2 l3 l4 l5 l6 l7 _ ⟨rfl, ?_⟩
      obtain ⟨x1, x2, x3, _⟩ := f_endLine_X (M := M1) (L := L) (wt := wt) (c := c) (by omega) l5
      exact c_place0 hD l6 x2 x3 (it_ok_same (x1.2 30 (by decide)) ho) hQ _ _
