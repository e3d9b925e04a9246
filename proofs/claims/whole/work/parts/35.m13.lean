/-! the reference: split (by hand: wip/whole/gen/m13.py) -/
/-- the words of bytes from place j on: place, count, width; o: the word that is being read -/
def ws_A (s : Int32) : List Int32 → Nat → Option (Nat × Int32) → List (Nat × Nat × Int32)
  | [], _, none => []
  | [], j, some o => [(o.1, j - o.1, o.2)]
  | b :: l, j, none => if f_blank b = 0 then ws_A s l (j + 1) (some (j, 0 + f_glyph b * s)) else ws_A s l (j + 1) none
  | b :: l, j, some o => if f_blank b = 0 then ws_A s l (j + 1) (some (o.1, o.2 + f_glyph b * s)) else (o.1, j - o.1, o.2) :: ws_A s l (j + 1) none
theorem ws_A_len (s : Int32) : ∀ (l : List Int32) (j : Nat), (∀ o, 2 * (ws_A s l j (some o)).length ≤ l.length + 2) ∧ 2 * (ws_A s l j none).length ≤ l.length + 1 := by
  intro l
  induction l with
  | nil => intro j; exact ⟨fun o => by simp [ws_A], by simp [ws_A]⟩
  | cons b l ih =>
    intro j
    have h1 := (ih (j + 1)).1
    have h2 := (ih (j + 1)).2
    refine ⟨fun o => ?_, ?_⟩
    · unfold ws_A
      split
      · have := h1 (o.1, o.2 + f_glyph b * s)
        simp only [List.length_cons]
        omega
      · simp only [List.length_cons]
        omega
    · unfold ws_A
      split
      · have := h1 (j, 0 + f_glyph b * s)
        simp only [List.length_cons]
        omega
      · simp only [List.length_cons]
        omega
def wd_at (M : md_S) (n : Nat) (s : Int32) (i : Nat) (r : Nat × Nat × Int32) : Prop := M.2 30 i = nI n ∧ M.2 31 i = nI r.1 ∧ M.2 32 i = nI r.2.1 ∧ M.2 35 i = r.2.2 ∧ M.2 36 i = 7 * s
def wd_sm (M M' : md_S) (j : Nat) : Prop := M'.2 30 j = M.2 30 j ∧ M'.2 31 j = M.2 31 j ∧ M'.2 32 j = M.2 32 j ∧ M'.2 35 j = M.2 35 j ∧ M'.2 36 j = M.2 36 j
theorem wd_sm.tr {M M1 M2 : md_S} {j : Nat} (a : wd_sm M M1 j) (b : wd_sm M1 M2 j) : wd_sm M M2 j := ⟨b.1.trans a.1, b.2.1.trans a.2.1, b.2.2.1.trans a.2.2.1, b.2.2.2.1.trans a.2.2.2.1, b.2.2.2.2.trans a.2.2.2.2⟩
def wd_P (M M' : md_S) (n : Nat) (s : Int32) (W : Nat) (l : List (Nat × Nat × Int32)) : Prop := md_X [29] [30, 31, 32, 35, 36] M M' ∧ M'.1 29 = nI (W + l.length) ∧ (∀ j, j < W → wd_sm M M' j) ∧ ∀ j r, l[j]? = some r → wd_at M' n s (W + j) r
/-- a word is done -/
theorem wd_done {M M1 M2 M3 : md_S} {n W a j : Nat} {s w : Int32} (hW : M.1 29 = nI W) (h6 : W < 3700) (ha : a ≤ j) (hj : j ≤ 120) (h30 : M.2 30 W = nI n) (h31 : M.2 31 W = nI a) (h36 : M.2 36 W = 7 * s)
    (e1 : M1 = md_up2 M 32 (M.1 29).toNatClampNeg (nI j - M.2 31 (M.1 29).toNatClampNeg)) (e2 : M2 = md_up2 M1 35 (M1.1 29).toNatClampNeg w) (e3 : M3 = md_up1 M2 29 (M2.1 29 + 1)) : md_X [29] [30, 31, 32, 35, 36] M M3 ∧ M3.1 29 = nI (W + 1) ∧ (∀ i, i < W → wd_sm M M3 i) ∧ wd_at M3 n s W (a, j - a, w) := by
  have hc : (M.1 29).toNatClampNeg = W := by rw [hW, nI_clamp (by omega)]
  rw [hc, h31] at e1
  have e2 : M2 = md_up2 M1 35 W w := by rw [e2, e1, md_up2_1, hc]
  have es : nI j - nI a = nI (j - a) := by
    have := nI_add (j - a) a
    rw [Nat.sub_add_cancel ha] at this
    rw [← this, Int32.add_sub_cancel]
  rw [es] at e1
  have e3 : M3 = md_up1 M2 29 (nI (W + 1)) := by rw [e3, e2, e1, md_up2_1, md_up2_1, hW, nI_1]
  refine ⟨?_, ?_, ?_, ?_⟩
  · rw [e3, e2, e1]
    exact ((md_X.rf.up2 (by decide) _ _).up2 (by decide) _ _).up1 (by decide) _
  · rw [e3, md_up1_at]
  · intro i hi
    have hne : ¬ i = W := by omega
    rw [e3, e2, e1]
    refine ⟨?_, ?_, ?_, ?_, ?_⟩ <;> simp [md_up1, md_up2, hne]
  · rw [e3, e2, e1]
    refine ⟨?_, ?_, ?_, ?_, ?_⟩ <;> simp [md_up1, md_up2, h30, h31, h36]
theorem wd_cons {M M1 M2 : md_S} {n W : Nat} {s : Int32} {r : Nat × Nat × Int32} {l : List (Nat × Nat × Int32)} (h1 : md_X [29] [30, 31, 32, 35, 36] M M1) (h2 : ∀ i, i < W → wd_sm M M1 i) (h3 : wd_at M1 n s W r) (hP : wd_P M1 M2 n s (W + 1) l) : wd_P M M2 n s W (r :: l) := by
  obtain ⟨p1, p2, p3, p4⟩ := hP
  refine ⟨h1.tr p1, ?_, fun j hj => (h2 j hj).tr (p3 j (by omega)), fun j q hq => ?_⟩
  · rw [p2, List.length_cons]
    congr 1
    omega
  · cases j with
    | zero =>
      simp only [List.getElem?_cons_zero, Option.some.injEq] at hq
      subst hq
      obtain ⟨a1, a2, a3, a4, a5⟩ := p3 W (by omega)
      exact ⟨a1.trans h3.1, a2.trans h3.2.1, a3.trans h3.2.2.1, a4.trans h3.2.2.2.1, a5.trans h3.2.2.2.2⟩
    | succ j =>
      have := p4 j q (by simpa using hq)
      rw [show W + (j + 1) = W + 1 + j by omega]
      exact this
theorem by_drop {M : md_S} {i c j : Nat} (he : M.2 11 i = nI c) (hc : c ≤ 120) (hj : j < c) : (by_of M i).drop j = M.2 10 (120 * i + j) :: (by_of M i).drop (j + 1) := by
  have hlen : (by_of M i).length = c := by simp [by_of, he, nI_clamp (show c < 2 ^ 31 by omega)]
  rw [List.drop_eq_getElem_cons (by omega)]
  congr 1
  simp [by_of]
theorem by_len {M : md_S} {i c : Nat} (he : M.2 11 i = nI c) (hc : c ≤ 120) : (by_of M i).length = c := by simp [by_of, he, nI_clamp (show c < 2 ^ 31 by omega)]
theorem by_same {M M' : md_S} (h10 : M'.2 10 = M.2 10) (h11 : M'.2 11 = M.2 11) (i : Nat) : by_of M' i = by_of M i := by
  unfold by_of
  rw [h10, h11]
theorem c_split_loop {xs : List Int32} {mo : Nat} {ad : Nat → Nat} (hD : md_D mo ad) {h0 : am_H} {d : Nat} {Q : Option Value → md_S → Prop} {n c : Nat} {s : Int32} {B : List Int32} (hn : n < 60) (hc : c ≤ 120) :
    ∀ r : Nat, (∀ (M : md_S) (W j : Nat) (o4 : Option Value), j + r = c → M.2 11 n = nI c → by_of M n = B → M.1 29 = nI W → W + (ws_A s (B.drop j) j none).length ≤ 3700 → (∀ M', wd_P M M' n s W (ws_A s (B.drop j) j none) → Q none M') → md_wp xs mo ad h0 (d + 3) Q I134 10 [some (.ref mo), some (.int (nI n)), some (.int s), some (.int (nI j)), o4] [] M) ∧
      ∀ (M : md_S) (W j a : Nat) (w : Int32), j + r = c → a ≤ j → M.2 11 n = nI c → by_of M n = B → M.1 29 = nI W → W + (ws_A s (B.drop j) j (some (a, w))).length ≤ 3700 → M.2 30 W = nI n → M.2 31 W = nI a → M.2 36 W = 7 * s → (∀ M', wd_P M M' n s W (ws_A s (B.drop j) j (some (a, w))) → Q none M') → md_wp xs mo ad h0 (d + 3) Q I134 79 [some (.ref mo), some (.int (nI n)), some (.int s), some (.int (nI j)), some (.int w)] [] M := by
  have hcn : (nI n).toNatClampNeg = n := nI_clamp (by omega)
  have hvn : vp_in (nI n) 60 := vp_nI hn (by decide)
  intro r
  induction r with
  | zero =>
    have A : ∀ (M : md_S) (W j : Nat) (o4 : Option Value), j + 0 = c → M.2 11 n = nI c → by_of M n = B → M.1 29 = nI W → W + (ws_A s (B.drop j) j none).length ≤ 3700 → (∀ M', wd_P M M' n s W (ws_A s (B.drop j) j none) → Q none M') → md_wp xs mo ad h0 (d + 3) Q I134 10 [some (.ref mo), some (.int (nI n)), some (.int s), some (.int (nI j)), o4] [] M := by
      intro M W j o4 hj he hB hW hl hk
      have hle : M.2 11 (nI n).toNatClampNeg ≤ nI j := by rw [hcn, he]; exact nI_le (by omega) (by omega)
      refine vc134_10 hD ⟨hvn, fun _ => ?_, fun q => absurd hle q⟩
      have hd : B.drop j = [] := List.drop_eq_nil_of_le (by rw [← hB, by_len he hc]; omega)
      refine hk M ?_
      rw [hd]
      exact ⟨md_X.rf, hW, fun _ _ => ⟨rfl, rfl, rfl, rfl, rfl⟩, fun j r hr => by simp [ws_A] at hr⟩
    refine ⟨A, ?_⟩
    intro M W j a w hj ha he hB hW hl h30 h31 h36 hk
    have hle : M.2 11 (nI n).toNatClampNeg ≤ nI j := by rw [hcn, he]; exact nI_le (by omega) (by omega)
    have hd : B.drop j = [] := List.drop_eq_nil_of_le (by rw [← hB, by_len he hc]; omega)
    rw [hd] at hl hk
    have hW6 : W < 3700 := by
      simp [ws_A] at hl
      omega
    have hvW : vp_in (M.1 29) 3700 := by rw [hW]; exact vp_nI hW6 (by decide)
    refine vc134_79 hD ⟨hvn, fun _ => ⟨hvW, fun M1 e1 => ⟨by rw [e1]; exact hvW, fun M2 e2 M3 e3 => ?_⟩⟩, fun q => absurd hle q⟩
    obtain ⟨x1, x2, x3, x4⟩ := wd_done (n := n) (s := s) hW hW6 ha (by omega) h30 h31 h36 e1 e2 e3
    refine A M3 (W + 1) j _ hj (by rw [x1.2 11 (by decide)]; exact he) (by rw [by_same (x1.2 10 (by decide)) (x1.2 11 (by decide))]; exact hB) x2 (by rw [hd]; simp [ws_A]; omega) (fun M' hP => ?_)
    rw [hd] at hP
    exact hk M' (wd_cons x1 x3 x4 hP)
  | succ r ih =>
    obtain ⟨ihA, ihB⟩ := ih
    have A1 : ∀ (M : md_S) (W j : Nat) (o4 : Option Value), j + (r + 1) = c → M.2 11 n = nI c → by_of M n = B → ¬ f_blank (M.2 10 (120 * n + j)) = 0 → M.1 29 = nI W → W + (ws_A s (B.drop j) j none).length ≤ 3700 → (∀ M', wd_P M M' n s W (ws_A s (B.drop j) j none) → Q none M') → md_wp xs mo ad h0 (d + 3) Q I134 10 [some (.ref mo), some (.int (nI n)), some (.int s), some (.int (nI j)), o4] [] M := by
      intro M W j o4 hj he hB hb hW hl hk
      have hle : ¬ M.2 11 (nI n).toNatClampNeg ≤ nI j := by rw [hcn, he]; exact nI_ge (by omega) (by omega)
      refine vc134_10 hD ⟨hvn, fun q => absurd q hle, fun _ => ?_⟩
      rw [nI_120, nI_clamp (show 120 * n + j < 2 ^ 31 by omega), nI_1]
      refine ⟨vp_nI (by omega) (by decide), fun q => absurd q hb, fun _ => ?_⟩
      have ed : ws_A s (B.drop j) j none = ws_A s (B.drop (j + 1)) (j + 1) none := by
        rw [← hB, by_drop he hc (by omega), ws_A, if_neg hb]
      rw [ed] at hl hk
      exact ihA M W (j + 1) o4 (by omega) he hB hW hl hk
    have B0 : ∀ (M : md_S) (W j a : Nat) (w : Int32), j + (r + 1) = c → a ≤ j → M.2 11 n = nI c → by_of M n = B → f_blank (M.2 10 (120 * n + j)) = 0 → M.1 29 = nI W → W + (ws_A s (B.drop j) j (some (a, w))).length ≤ 3700 → M.2 30 W = nI n → M.2 31 W = nI a → M.2 36 W = 7 * s → (∀ M', wd_P M M' n s W (ws_A s (B.drop j) j (some (a, w))) → Q none M') → md_wp xs mo ad h0 (d + 3) Q I134 79 [some (.ref mo), some (.int (nI n)), some (.int s), some (.int (nI j)), some (.int w)] [] M := by
      intro M W j a w hj ha he hB hb hW hl h30 h31 h36 hk
      have hle : ¬ M.2 11 (nI n).toNatClampNeg ≤ nI j := by rw [hcn, he]; exact nI_ge (by omega) (by omega)
      refine vc134_79 hD ⟨hvn, fun q => absurd q hle, fun _ => ?_⟩
      rw [nI_120, nI_clamp (show 120 * n + j < 2 ^ 31 by omega), nI_1]
      refine ⟨vp_nI (by omega) (by decide), fun q => absurd hb q, fun _ => ?_⟩
      have ed : ws_A s (B.drop j) j (some (a, w)) = ws_A s (B.drop (j + 1)) (j + 1) (some (a, w + f_glyph (M.2 10 (120 * n + j)) * s)) := by
        rw [← hB, by_drop he hc (by omega), ws_A, if_pos hb]
      rw [ed] at hl hk
      exact ihB M W (j + 1) a _ (by omega) (by omega) he hB hW hl h30 h31 h36 hk
    refine ⟨fun M W j o4 hj he hB hW hl hk => ?_, fun M W j a w hj ha he hB hW hl h30 h31 h36 hk => ?_⟩
    · by_cases hb : f_blank (M.2 10 (120 * n + j)) = 0
      · have hle : ¬ M.2 11 (nI n).toNatClampNeg ≤ nI j := by rw [hcn, he]; exact nI_ge (by omega) (by omega)
        have ed : ws_A s (B.drop j) j none = ws_A s (B.drop j) j (some (j, 0)) := by
          rw [← hB, by_drop he hc (by omega), ws_A, if_pos hb, ws_A, if_pos hb]
        rw [ed] at hl hk
        have hW6 : W < 3700 := by
          have hp : 0 < (ws_A s (B.drop j) j (some (j, 0))).length := by
            generalize B.drop j = l
            generalize hjj : (some (j, (0 : Int32))) = o
            obtain ⟨x, hx⟩ : ∃ x, o = some x := ⟨_, hjj.symm⟩
            clear hjj
            subst hx
            generalize j = jj
            induction l generalizing jj x with
            | nil => simp [ws_A]
            | cons b l ih2 =>
              unfold ws_A
              split
              · exact ih2 _ _
              · simp
          omega
        have hvW : vp_in (M.1 29) 3700 := by rw [hW]; exact vp_nI hW6 (by decide)
        have hcW : (M.1 29).toNatClampNeg = W := by rw [hW, nI_clamp (by omega)]
        refine vc134_10 hD ⟨hvn, fun q => absurd q hle, fun _ => ?_⟩
        rw [nI_120, nI_clamp (show 120 * n + j < 2 ^ 31 by omega), hcW]
        refine ⟨vp_nI (by omega) (by decide), fun _ => ⟨hvW, fun M1 e1 => ⟨by rw [e1]; exact hvW, fun M2 e2 => ⟨by rw [e2, e1]; exact hvW, fun M3 e3 => ?_⟩⟩⟩, fun q => absurd hb q⟩
        have e2 : M2 = md_up2 M1 31 W (nI j) := by rw [e2, e1, md_up2_1, hcW]
        have e3 : M3 = md_up2 M2 36 W (7 * s) := by rw [e3, e2, e1, md_up2_1, md_up2_1, hcW]
        have x1 : md_X [29] [30, 31, 32, 35, 36] M M3 := by
          rw [e3, e2, e1]
          exact ((md_X.rf.up2 (by decide) _ _).up2 (by decide) _ _).up2 (by decide) _ _
        have x3 : ∀ i, i < W → wd_sm M M3 i := by
          intro i hi
          have hne : ¬ i = W := by omega
          rw [e3, e2, e1]
          refine ⟨?_, ?_, ?_, ?_, ?_⟩ <;> simp [md_up2, hne]
        have hb3 : f_blank (M3.2 10 (120 * n + j)) = 0 := by rw [x1.2 10 (by decide)]; exact hb
        refine B0 M3 W j j 0 hj (Nat.le_refl _) (by rw [x1.2 11 (by decide)]; exact he) (by rw [by_same (x1.2 10 (by decide)) (x1.2 11 (by decide))]; exact hB) hb3 (by rw [e3, e2, e1]; exact hW) hl ?_ ?_ ?_ (fun M' hP => hk M' ⟨x1.tr hP.1, hP.2.1, fun i hi => (x3 i hi).tr (hP.2.2.1 i hi), hP.2.2.2⟩)
        · rw [e3, e2, e1]; simp [md_up2]
        · rw [e3, e2, e1]; simp [md_up2]
        · rw [e3, e2, e1]; simp [md_up2]
      · exact A1 M W j o4 hj he hB hb hW hl hk
    · by_cases hb : f_blank (M.2 10 (120 * n + j)) = 0
      · exact B0 M W j a w hj ha he hB hb hW hl h30 h31 h36 hk
      · have hle : ¬ M.2 11 (nI n).toNatClampNeg ≤ nI j := by rw [hcn, he]; exact nI_ge (by omega) (by omega)
        have ed : ws_A s (B.drop j) j (some (a, w)) = (a, j - a, w) :: ws_A s (B.drop j) j none := by
          rw [← hB, by_drop he hc (by omega), ws_A, if_neg hb, ws_A, if_neg hb]
        rw [ed] at hl hk
        simp only [List.length_cons] at hl
        have hvW : vp_in (M.1 29) 3700 := by rw [hW]; exact vp_nI (by omega) (by decide)
        refine vc134_79 hD ⟨hvn, fun q => absurd q hle, fun _ => ?_⟩
        rw [nI_120, nI_clamp (show 120 * n + j < 2 ^ 31 by omega)]
        refine ⟨vp_nI (by omega) (by decide), fun _ => ⟨hvW, fun M1 e1 => ⟨by rw [e1]; exact hvW, fun M2 e2 M3 e3 => ?_⟩⟩, fun q => absurd hb q⟩
        obtain ⟨x1, x2, x3, x4⟩ := wd_done (n := n) (s := s) hW (by omega) ha (by omega) h30 h31 h36 e1 e2 e3
        refine A1 M3 (W + 1) j _ hj (by rw [x1.2 11 (by decide)]; exact he) (by rw [by_same (x1.2 10 (by decide)) (x1.2 11 (by decide))]; exact hB) (by rw [x1.2 10 (by decide)]; exact hb) x2 (by omega) (fun M' hP => hk M' (wd_cons x1 x3 x4 hP))
/-- the words of text n -/
def ws_of (M : md_S) (n : Nat) : List (Nat × Nat × Int32) := ws_A (f_of M (nI n) 8) (by_of M n) 0 none
theorem c_split {xs : List Int32} {mo : Nat} {ad : Nat → Nat} {d : Nat} {M : md_S} {n W : Nat} (hD : md_D mo ad) (hn : n < 60) (hy : by_ok M n) (hW : M.1 29 = nI W) (hl : W + (ws_of M n).length ≤ 3700) : ∀ Q', (∀ M', wd_P M M' n (f_of M (nI n) 8) W (ws_of M n) → Q' none M') → md_C xs mo ad (d + 4) 134 [.int (nI n)] M Q' := by
  intro Q' hQ
  obtain ⟨c, hc, he⟩ := hy
  refine md_intro (ms134 xs) (Nat.le_of_ble_eq_true rfl) (fun h0 => vc134_0 hD ⟨vp_nI hn (by decide), ?_⟩)
  exact (c_split_loop hD hn hc c).1 M W 0 none (by omega) he rfl hW hl hQ
