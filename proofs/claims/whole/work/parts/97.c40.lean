/-! the reference: what holds of all nodes when laid, 2 (by hand: wip/whole/gen/c40.py) -/
/-- a node at its place in the tree -/
def loc (P : md_S) (nn : Nat) (wd : Int32) (Wt : Nat) (i : Nat) (k : bt) : Prop := i < nn ∧ bt_R (P.2 4) (P.2 5) (P.2 7) (nI i) k ∧ P.2 5 i = bt_hd (-1) k ∧ (∀ x ∈ bt_pre k, x < nn) ∧ (bt_pre k).Nodup ∧ i ∉ bt_pre k ∧ (bt_pre k).length ≤ 59 ∧ ∃ W0, l1_N wd P i k W0 ∧ l1_F wd P k (W0 + l1_w P i) ∧ W0 + l1_w P i + l1_ws P k ≤ Wt
theorem loc_all {P : md_S} {nn Wt : Nat} {wd : Int32} (hnn : nn ≤ 60) : ∀ (t : bt) (p : Int32) (W0 : Nat), bt_R (P.2 4) (P.2 5) (P.2 7) p t → (∀ x ∈ bt_pre t, x < nn) → (bt_pre t).Nodup → l1_F wd P t W0 → W0 + l1_ws P t ≤ Wt → bt_all (loc P nn wd Wt) t := by
  intro t
  induction t with
  | leaf u => intro _ _ _ _ _ _ _; trivial
  | branch i k s ihk ihs =>
    intro p W0 hR hx hn hF hW
    obtain ⟨r1, r2, r3, r4, r5, r6⟩ := hR
    obtain ⟨f1, f2, f3⟩ := hF
    rw [l1_ws_br] at hW
    simp only [bt_pre, List.nodup_cons, List.mem_append, not_or] at hn
    obtain ⟨⟨nk, ns⟩, hn2⟩ := hn
    obtain ⟨hk1, hs1, hks⟩ := List.nodup_append.mp hn2
    have kx : ∀ x ∈ bt_pre k, x < nn := fun x h => hx x (by simp [bt_pre, h])
    have ix : i < nn := hx i (by simp [bt_pre])
    have hlen := nodup_le nn (i :: bt_pre k) (List.nodup_cons.mpr ⟨nk, hk1⟩) (fun x h => by
      rcases List.mem_cons.mp h with e | e
      · rw [e]; exact ix
      · exact kx x e)
    rw [List.length_cons] at hlen
    exact ⟨⟨ix, r5, r3, kx, hk1, nk, by omega, W0, f1, f2, by omega⟩, ihk _ _ r5 kx hk1 f2 (by omega), ihs _ _ r6 (fun x h => hx x (by simp [bt_pre, h])) hs1 f3 (by omega)⟩
theorem l1_word {M : md_S} {w : Int32} : ∀ (t : bt) (W : Nat), l1_F w M t W → ∀ q, W ≤ q → q < W + l1_ws M t → ∃ i ∈ bt_pre t, M.2 12 i = 6 ∧ ∃ w0 j r, q = w0 + j ∧ w0 + l1_w M i ≤ W + l1_ws M t ∧ M.2 28 i = nI w0 ∧ (ws_of M i)[j]? = some r ∧ wd_at M i (f_of M (nI i) 8) q r := by
  intro t
  induction t with
  | leaf u => intro W _ q h1 h2; simp [l1_ws, bt_pre] at h2; omega
  | branch i k s ihk ihs =>
    intro W hF q h1 h2
    rw [l1_ws_br] at h2 ⊢
    obtain ⟨f1, f2, f3⟩ := hF
    rcases Nat.lt_or_ge q (W + l1_w M i) with h | h
    · by_cases h6 : M.2 12 i = 6
      · have hlt : q - W < (ws_of M i).length := by
          unfold l1_w at h
          rw [if_pos h6] at h
          omega
        have := f1.2.2.2 h6 (q - W) _ (List.getElem?_eq_getElem hlt)
        rw [show W + (q - W) = q by omega] at this
        exact ⟨i, by simp [bt_pre], h6, W, q - W, _, by omega, by omega, f1.1, List.getElem?_eq_getElem hlt, this⟩
      · unfold l1_w at h
        rw [if_neg h6] at h
        omega
    · rcases Nat.lt_or_ge q (W + l1_w M i + l1_ws M k) with h' | h'
      · obtain ⟨y, hy, e6, w0, j, r, e1, e2, e3⟩ := ihk _ f2 q h h'
        exact ⟨y, by simp [bt_pre, hy], e6, w0, j, r, e1, by omega, e3⟩
      · obtain ⟨y, hy, e6, w0, j, r, e1, e2, e3⟩ := ihs _ f3 q h' (by omega)
        exact ⟨y, by simp [bt_pre, hy], e6, w0, j, r, e1, by omega, e3⟩
theorem ws_nz (s : Int32) (hs : 1 ≤ s.toInt ∧ s.toInt ≤ 4) : ∀ (l : List Int32) (j n : Nat), n + l.length ≤ 120 → (∀ o, nz (20 * n) o.2 → ∀ r ∈ ws_A s l j (some o), nz 2400 r.2.2) ∧ ∀ r ∈ ws_A s l j none, nz 2400 r.2.2 := by
  have gl : ∀ b, nz 20 (f_glyph b * s) := by
    intro b
    obtain ⟨g, g1, g2, g3⟩ := f_glyph_le b
    have h1 : (g : Int) * s.toInt ≤ 5 * 4 := Int.mul_le_mul (by omega) (by omega) (by omega) (by omega)
    have h2 : 0 ≤ (g : Int) * s.toInt := Int.mul_nonneg (by omega) (by omega)
    have e : (f_glyph b * s).toInt = g * s.toInt := by
      rw [g3, Int32.toInt_mul, nI_toInt (by omega)]
      exact bmod_small (by omega) (by omega)
    exact ⟨by rw [e]; omega, by rw [e]; omega⟩
  intro l
  induction l with
  | nil =>
    intro j n hn
    refine ⟨fun o ho r hr => ?_, fun r hr => by cases hr⟩
    unfold ws_A at hr
    rw [List.mem_singleton] at hr
    rw [hr]
    exact nz_mono ho (by simp at hn; omega)
  | cons b l ih =>
    intro j n hn
    rw [List.length_cons] at hn
    refine ⟨fun o ho r hr => ?_, fun r hr => ?_⟩
    · unfold ws_A at hr
      by_cases c : f_blank b = 0
      · rw [if_pos c] at hr
        exact (ih (j + 1) (n + 1) (by omega)).1 (o.1, o.2 + f_glyph b * s) (nz_add ho (gl b) (by omega) (by omega) (by omega)) r hr
      · rw [if_neg c] at hr
        rcases List.mem_cons.mp hr with e | e
        · rw [e]
          exact nz_mono ho (by omega)
        · exact (ih (j + 1) 0 (by omega)).2 r e
    · unfold ws_A at hr
      by_cases c : f_blank b = 0
      · rw [if_pos c] at hr
        refine (ih (j + 1) (n + 1) (by omega)).1 (j, 0 + f_glyph b * s) ?_ r hr
        rw [Int32.zero_add]
        exact nz_mono (gl b) (by omega)
      · rw [if_neg c] at hr
        exact (ih (j + 1) n (by omega)).2 r hr
/-- all that is known when the tree is laid -/
def HS (P : md_S) (K : bt) (nn W : Nat) (wd : Int32) : Prop := NS P nn ∧ bt_R (P.2 4) (P.2 5) (P.2 7) (-1) (bt_root K) ∧ (bt_pre (bt_root K)).Nodup ∧ (∀ i, i < nn ↔ i ∈ bt_pre (bt_root K)) ∧ bt_all (fun i k => P.2 3 i = 0 → mg_eq P i k) (bt_root K) ∧ l1_F wd P (bt_root K) 0 ∧ W = l1_ws P (bt_root K) ∧ lay_ok wd
theorem lay_nz {w : Int32} (h : lay_ok w) : nz 250000 w := by
  obtain ⟨h1, h2⟩ := h
  rw [Int32.lt_iff_toInt_lt, show (20 : Int32).toInt = 20 by decide] at h1
  rw [Int32.le_iff_toInt_le, show (400 : Int32).toInt = 400 by decide] at h2
  exact ⟨by omega, by omega⟩
theorem HS.lc {P : md_S} {K : bt} {nn W : Nat} {wd : Int32} (h : HS P K nn W wd) : bt_all (loc P nn wd W) (bt_root K) := by
  obtain ⟨h1, h2, h3, h4, h5, h6, h7, h8⟩ := h
  exact loc_all h1.1 (bt_root K) (-1) 0 h2 (fun x hx => (h4 x).mpr hx) h3 h6 (by omega)
theorem HS.at {P : md_S} {K : bt} {nn W : Nat} {wd : Int32} (h : HS P K nn W wd) {i : Nat} (hi : i < nn) : ∃ k, loc P nn wd W i k := ⟨_, bt_all_kids h.lc ((h.2.2.2.1 i).mp hi)⟩
theorem HS.w17 {P : md_S} {K : bt} {nn W : Nat} {wd : Int32} (h : HS P K nn W wd) : ∀ (i : Nat), i < nn → f_boxy P i → nz 250000 (P.2 17 i) := by
  have h60 := h.1.1
  intro i
  induction i using Nat.strongRecOn with
  | ind i ih =>
    intro hi hb
    obtain ⟨k, l1, l2, l3, l4, l5, l6, l7, W0, l8, l9, l10⟩ := h.at hi
    by_cases h0 : i = 0
    · rw [l8.2.1 h0]
      exact lay_nz h.2.2.2.2.2.2.2
    · obtain ⟨b, b1, b2, b3⟩ := h.1.box i hi h0
      rw [(l8.2.2.1 h0 hb).1]
      refine wv_nz (h.1.2 i hi).1.2.2.2.2.2.2 (by omega) b2 (h.1.2 b (by omega)).1.2.2.2.2.2.2 (ih b b1 (by omega) (Or.inl ((isBox_m (by omega)).mpr b3))) (fun x hx => ?_) l7
      rcases List.mem_cons.mp hx with e | e
      · rw [e]; exact (h.1.2 i hi).1.2.2.2.2.2.1
      · exact (h.1.2 x (l4 x e)).1.2.2.2.2.2.1
theorem HS.spn {P : md_S} {K : bt} {nn W : Nat} {wd : Int32} (h : HS P K nn W wd) {i : Nat} (hi : i < nn) : SPn P i := by
  have h60 := h.1.1
  have hr := (h.1.2 i hi).1.2.2.2.2.2.2
  obtain ⟨r0, r1, r2, r3, r4, r5, r6, r7, r8⟩ := hr
  refine ⟨r4, r5, r6, r8, r2, r3, h.w17 i hi, fun c => ?_, r7⟩
  obtain ⟨k, l1, l2, l3, l4, l5, l6, l7, W0, l8, l9, l10⟩ := h.at hi
  have h0 : ¬ i = 0 := by
    rintro rfl
    rcases (mo_root h.1 hi).1 with q | q <;> rw [q] at c <;> exact absurd c (by decide)
  rw [(l8.2.2.1 h0 (Or.inr c)).2 c]
  unfold f_hv
  split
  · rename_i c3
    have : ¬ (f_of P (nI i) 3).toInt = -1 := fun q => c3 (Int32.toInt_inj.mp (q.trans (by decide)))
    exact ⟨by omega, by omega⟩
  · exact ⟨by decide, by decide⟩
theorem HS.ws {P : md_S} {K : bt} {nn W : Nat} {wd : Int32} (h : HS P K nn W wd) {i : Nat} (hi : i < nn) : (ws_of P i).length ≤ 60 := by
  obtain ⟨c, c1, c2⟩ := (h.1.2 i hi).1.2.2.2.2.2.1
  have h1 := (ws_A_len (f_of P (nI i) 8) (by_of P i) 0).2
  rw [by_len c2 c1] at h1
  unfold ws_of
  omega
theorem HS.W {P : md_S} {K : bt} {nn W : Nat} {wd : Int32} (h : HS P K nn W wd) : W ≤ 3600 := by
  have h60 := h.1.1
  have hx : ∀ x ∈ bt_pre (bt_root K), x < nn := fun x hx => (h.2.2.2.1 x).mpr hx
  have hl := nodup_le nn _ h.2.2.1 hx
  have hsum : ∀ l : List Nat, (∀ x ∈ l, x < nn) → (l.map (l1_w P)).sum ≤ 60 * l.length := by
    intro l
    induction l with
    | nil => intro _; exact Nat.le_refl _
    | cons a l ih =>
      intro hl
      have h1 := ih (fun x hx => hl x (by simp [hx]))
      have h2 : l1_w P a ≤ 60 := by
        unfold l1_w
        split
        · exact h.ws (hl a (by simp))
        · omega
      simp only [List.map_cons, List.sum_cons, List.length_cons]
      omega
  have := hsum _ hx
  rw [h.2.2.2.2.2.2.1]
  unfold l1_ws
  omega
theorem HS.word {P : md_S} {K : bt} {nn W : Nat} {wd : Int32} (h : HS P K nn W wd) {q : Nat} (hq : q < W) : ∃ i, i < nn ∧ P.2 12 i = 6 ∧ ∃ w0 j r, q = w0 + j ∧ w0 + (ws_of P i).length ≤ W ∧ P.2 28 i = nI w0 ∧ (ws_of P i)[j]? = some r ∧ wd_at P i (f_of P (nI i) 8) q r := by
  have hW := h.2.2.2.2.2.2.1
  obtain ⟨i, hi, h6, w0, j, r, e1, e2, e3⟩ := l1_word (bt_root K) 0 h.2.2.2.2.2.1 q (by omega) (by omega)
  refine ⟨i, (h.2.2.2.1 i).mpr hi, h6, w0, j, r, e1, ?_, e3⟩
  unfold l1_w at e2
  rw [if_pos h6] at e2
  omega
theorem HS.sp {P : md_S} {K : bt} {nn W : Nat} {wd : Int32} (h : HS P K nn W wd) : SP P nn W := by
  refine ⟨fun i hi => h.spn hi, fun w hw => ?_⟩
  obtain ⟨i, hi, h6, w0, j, r, e1, e2, e3, e4, e5⟩ := h.word hw
  obtain ⟨d1, d2, d3, d4, d5⟩ := e5
  have hs := (h.spn hi).2.2.2.1
  have hby := (h.1.2 i hi).1.2.2.2.2.2.1
  obtain ⟨c, c1, c2⟩ := hby
  have hr := (ws_nz (f_of P (nI i) 8) hs (by_of P i) 0 0 (by rw [by_len c2 c1]; omega)).2 r (List.mem_of_getElem? e4)
  refine ⟨by rw [d4]; exact nz_mono hr (by omega), ?_, by rw [d5, d1], i, hi, d1⟩
  rw [d5]
  have e : (7 * f_of P (nI i) 8).toInt = 7 * (f_of P (nI i) 8).toInt := by
    rw [Int32.toInt_mul, show (7 : Int32).toInt = 7 by decide]
    exact bmod_small (by omega) (by omega)
  exact ⟨by rw [e]; omega, by rw [e]; omega⟩
theorem nI_inj60 {a b : Nat} (ha : a < 60) (hb : b < 60) (h : nI a = nI b) : a = b := by
  have := congrArg Int32.toNatClampNeg h
  rw [nI_clamp (by omega), nI_clamp (by omega)] at this
  exact this
theorem HS.wo {P : md_S} {K : bt} {nn W : Nat} {wd : Int32} (h : HS P K nn W wd) : WO P W := by
  intro w n hw hn h30
  have h60 := h.1.1
  have hW := h.W
  obtain ⟨i, hi, h6, w0, j, r, e1, e2, e3, e4, e5⟩ := h.word hw
  have : n = i := nI_inj60 hn (by omega) (h30.symm.trans e5.1)
  subst this
  exact ⟨h6, w0, j, by omega, e3, (List.getElem?_eq_some_iff.mp e4).1, e1⟩
theorem HS.cp {P : md_S} {K : bt} {nn W : Nat} {wd : Int32} (h : HS P K nn W wd) : cl_P P nn := by
  intro x hx
  by_cases h0 : x = 0
  · subst h0
    exact Or.inl ⟨((h.1.2 0 hx).1.1 rfl).1, rfl⟩
  · obtain ⟨p, e, p1, p2, p3, _⟩ := (h.1.2 x hx).1.2.1 h0
    exact Or.inr ⟨h0, p, by omega, p3⟩
/-- the ends of a chain are nodes of it -/
theorem mg_ch_Z {M : md_S} : ∀ (t : bt) (e : Int32 × Int32) (Z : Int32 → Prop), (¬ e.1 = -1 → Z e.1 ∧ Z e.2) → (∀ q ∈ bt_rt t, q.1 < 60 ∧ Z (nI q.1)) → ¬ (mg_ch M t e).1 = -1 → Z (mg_ch M t e).1 ∧ Z (mg_ch M t e).2 := by
  intro t
  induction t with
  | leaf u => intro e Z h _; exact h
  | branch j k s _ ihs =>
    intro e Z h hq
    obtain ⟨hj, hz⟩ := hq (j, k) (by simp [bt_rt])
    refine ihs (mg_st M j e) Z ?_ (fun q h' => hq q (by simp [bt_rt, h']))
    unfold mg_st
    by_cases c : f_of M (nI j) 0 = 3
    · simp only [if_neg (not_not_intro c)]
      exact h
    · simp only [if_pos c]
      intro _
      refine ⟨?_, hz⟩
      split
      · rename_i c2
        exact (h c2).1
      · exact hz
theorem mg_nz {P : md_S} : ∀ (t : bt), (∀ x ∈ bt_pre t, x < 60 ∧ nz 50 (f_of P (nI x) 4)) → bt_all (fun i k => P.2 3 i = 0 → mg_eq P i k) t → bt_all (fun i _ => P.2 3 i = 0 → nz 50 (P.2 19 i) ∧ nz 50 (P.2 20 i)) t := by
  intro t
  induction t with
  | leaf u => intro _ _; trivial
  | branch i k s ihk ihs =>
    intro hx ha
    obtain ⟨a1, a2, a3⟩ := ha
    have hk := ihk (fun x h => hx x (by simp [bt_pre, h])) a2
    refine ⟨fun h3 => ?_, hk, ihs (fun x h => hx x (by simp [bt_pre, h])) a3⟩
    have h4 := (hx i (by simp [bt_pre])).2
    have key : ∀ q ∈ bt_rt k, q.1 < 60 ∧ (¬ f_isBlock P (nI q.1) = 0 → nz 50 (P.2 19 (nI q.1).toNatClampNeg) ∧ nz 50 (P.2 20 (nI q.1).toNatClampNeg)) := by
      intro q hq
      have hin : q.1 ∈ bt_pre k := bt_rt_pre q hq q.1 (by simp)
      have q60 := (hx q.1 (by simp [bt_pre, hin])).1
      refine ⟨q60, fun hb => ?_⟩
      rw [nI_clamp (by omega)]
      refine bt_all_rt hk q hq ?_
      unfold f_isBlock at hb
      rw [nI_clamp (by omega)] at hb
      by_cases c : P.2 3 q.1 = 0
      · exact c
      · rw [if_pos c] at hb
        exact absurd rfl hb
    have hch := mg_ch_Z (M := P) k (-1, -1) (fun z => ¬ f_isBlock P z = 0 → nz 50 (P.2 19 z.toNatClampNeg) ∧ nz 50 (P.2 20 z.toNatClampNeg)) (fun c => absurd rfl c) key
    have hmx : ∀ a b : Int32, nz 50 a → nz 50 b → nz 50 (f_more a b) := fun a b h1 h2 => ⟨by rw [more_toInt]; omega, by rw [more_toInt]; omega⟩
    obtain ⟨e1, e2⟩ := a1 h3
    refine ⟨?_, ?_⟩
    · rw [e1]
      unfold mg_top
      split
      · exact h4
      · split
        · exact h4
        · rename_i c2
          split
          · exact h4
          · rename_i c3
            exact hmx _ _ h4 ((hch c2).1 c3).1
    · rw [e2]
      unfold mg_bot
      split
      · exact h4
      · split
        · exact h4
        · rename_i c2
          split
          · exact h4
          · rename_i c3
            split
            · exact h4
            · exact hmx _ _ h4 ((hch c2).2 c3).2
theorem HS.mg {P : md_S} {K : bt} {nn W : Nat} {wd : Int32} (h : HS P K nn W wd) {i : Nat} (hi : i < nn) (h3 : P.2 3 i = 0) : nz 50 (P.2 19 i) ∧ nz 50 (P.2 20 i) := by
  have h60 := h.1.1
  have := mg_nz (P := P) (bt_root K) (fun x hx => ⟨by have := (h.2.2.2.1 x).mpr hx; omega, (h.spn ((h.2.2.2.1 x).mpr hx)).1⟩) h.2.2.2.2.1
  exact bt_all_kids this ((h.2.2.2.1 i).mp hi) h3
