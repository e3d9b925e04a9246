/-! the class lays every box as the reference (by hand: wip/whole/gen/c41.py) -/
abbrev k4 : List Int32 := [0, 1, 2, 3]
abbrev f3 : List Int32 := [0, 1, 2]
theorem mo_k : ∀ m ∈ mo7, ∀ k ∈ k4, ∀ d ∈ k4, ∀ f ∈ f3, (f_mo m k d f = 4 → k = 3) ∧ (f_mo m k d f = 5 → k = 2) ∧ (f_mo m k d f = 6 → k = 1) ∧ (f_mo m k d f = 3 → k = 0) ∧ (f_mo m k d f = 1 → k = 0) ∧ (f_mo m k d f = 2 → k = 0) := by decide
theorem mo_1 : ∀ k ∈ k4, ∀ d ∈ k4, ∀ f ∈ f3, (f_mo 1 k d f = 0 ↔ d = 3) ∧ (f_mo 1 k d f = 1 ∨ f_mo 1 k d f = 2 → f ≤ 0 → f = 0 ∧ (d = 0 ∨ d = 2)) ∧ (¬ f ≤ 0 → f = 1 ∨ f = 2) := by decide
theorem mo_2 : ∀ k ∈ k4, ∀ d ∈ k4, ∀ f ∈ f3, f_mo 2 k d f = 0 ∨ f_mo 2 k d f = 1 ∨ f_mo 2 k d f = 2 ∨ f_mo 2 k d f = 4 := by decide
theorem mo_3 : ∀ k ∈ k4, ∀ d ∈ k4, ∀ f ∈ f3, ¬ f_mo 3 k d f = 1 ∧ ¬ f_mo 3 k d f = 2 := by decide
theorem mo_0 (k d f : Int32) : f_mo 0 k d f = 0 := by
  unfold f_mo
  rw [if_pos rfl]
theorem NS.kid {P : md_S} {nn j p : Nat} (h : NS P nn) (hj : j < nn) (hp : p < nn) (h4 : P.2 4 j = nI p) : ¬ j = 0 ∧ p < j ∧ P.2 3 p = 0 ∧ P.2 12 j = f_mo (P.2 12 p) (P.2 3 j) (f_of P (nI j) 0) (f_of P (nI j) 1) ∧ P.2 13 j = (if f_isBox P (nI j) = 0 then 0 else if ¬ P.2 12 p = 1 then 0 else if f_of P (nI j) 1 ≤ 0 then 0 else 1) ∧ P.2 14 j = (if f_isBox P (nI p) = 0 then P.2 14 p else nI p) ∧ ∃ e, e < 12 ∧ P.2 8 p = nI e ∧ P.2 8 j = nI (e + 1) := by
  have h60 := h.1
  have h0 : ¬ j = 0 := by
    rintro rfl
    have := ((h.2 0 hj).1.1 rfl).1
    rw [this] at h4
    exact nI_ne_m1 (by omega) h4.symm
  obtain ⟨q, q1, q2, q3, q4, q5, q6⟩ := h.par hj h0
  obtain ⟨q', e, e1, e2, e3, e4, e5, e6⟩ := (h.2 j hj).1.2.1 h0
  have : q = p := nI_inj60 (by omega) (by omega) (q2.symm.trans h4)
  subst this
  have : q' = q := nI_inj60 (by omega) (by omega) (e3.symm.trans h4)
  subst this
  exact ⟨h0, q1, q3, q4, q5, q6, e, e2, e5, e6⟩
theorem leaf_of {P : md_S} {j : Nat} {k : bt} (hf : P.2 5 j = bt_hd (-1) k) (hR : bt_R (P.2 4) (P.2 5) (P.2 7) (nI j) k) (h5 : P.2 5 j = -1) : ∃ u, k = .leaf u := by
  cases k with
  | leaf u => exact ⟨u, rfl⟩
  | branch a b c =>
    rw [h5] at hf
    exact absurd hf.symm (nI_ne_m1 (by have := hR.1; omega))
/-- below p all is directly in i -/
def inB (P : md_S) (nn i p : Nat) : Prop := p < nn ∧ i < nn ∧ ((p = i ∧ (P.2 12 i = 1 ∨ P.2 12 i = 2)) ∨ (P.2 12 p = 3 ∧ P.2 14 p = nI i ∧ ¬ p = 0))
theorem inB.at {P : md_S} {nn i p j : Nat} (hb : inB P nn i p) (h : NS P nn) (hj : j < nn) (h4 : P.2 4 j = nI p) : P.2 14 j = nI i ∧ i < j ∧ (P.2 12 j = 3 → inB P nn i j) := by
  have h60 := h.1
  obtain ⟨b1, b2, b3⟩ := hb
  obtain ⟨k1, k2, k3, k4, k5, k6, _⟩ := h.kid hj b1 h4
  have h14 : P.2 14 j = nI i := by
    rcases b3 with ⟨e, m⟩ | ⟨m, e, _⟩
    · subst e
      rw [if_neg ((isBox_m (by omega)).mpr m)] at k6
      exact k6
    · have : f_isBox P (nI p) = 0 := by
        by_cases c : f_isBox P (nI p) = 0
        · exact c
        · rcases (isBox_m (by omega)).mp c with q | q <;> rw [m] at q <;> exact absurd q (by decide)
      rw [if_pos this] at k6
      exact k6.trans e
  refine ⟨h14, ?_, fun m => ⟨hj, b2, Or.inr ⟨m, h14, k1⟩⟩⟩
  obtain ⟨b, e1, e2, e3⟩ := h.box j hj k1
  have : b = i := nI_inj60 (by omega) (by omega) (e2.symm.trans h14)
  omega
theorem gone_all {P : md_S} {nn : Nat} (h : NS P nn) : ∀ (t : bt) (p : Nat), p < nn → P.2 12 p = 0 → bt_R (P.2 4) (P.2 5) (P.2 7) (nI p) t → (∀ x ∈ bt_pre t, x < nn) → ∀ x ∈ bt_pre t, x < 60 ∧ P.2 12 x = 0 := by
  have h60 := h.1
  intro t
  induction t with
  | leaf u => intro _ _ _ _ _ x hx; cases hx
  | branch j k s ihk ihs =>
    intro p hp h0 hR hx x hm
    obtain ⟨r1, r2, r3, r4, r5, r6⟩ := hR
    have hj := hx j (by simp [bt_pre])
    have m0 : P.2 12 j = 0 := by
      rw [(h.kid hj hp r2).2.2.2.1, h0, mo_0]
    simp only [bt_pre, List.mem_cons, List.mem_append] at hm
    rcases hm with e | e | e
    · rw [e]; exact ⟨r1, m0⟩
    · exact ihk j hj m0 r5 (fun y hy => hx y (by simp [bt_pre, hy])) x e
    · exact ihs p hp h0 r6 (fun y hy => hx y (by simp [bt_pre, hy])) x e
theorem mo7_or {m : Int32} (h : m ∈ mo7) : m = 0 ∨ m = 1 ∨ m = 2 ∨ m = 3 ∨ m = 4 ∨ m = 5 ∨ m = 6 := by simpa using h
section HSS
variable {P : md_S} {K : bt} {nn W : Nat} {wd : Int32}
theorem HS.kinds (h : HS P K nn W wd) {j p : Nat} (hj : j < nn) (hp : p < nn) (h4 : P.2 4 j = nI p) : (P.2 12 j = 4 → P.2 3 j = 3) ∧ (P.2 12 j = 5 → P.2 3 j = 2) ∧ (P.2 12 j = 6 → P.2 3 j = 1) ∧ (P.2 12 j = 3 → P.2 3 j = 0) ∧ (P.2 12 j = 1 → P.2 3 j = 0) ∧ (P.2 12 j = 2 → P.2 3 j = 0) := by
  rw [(h.1.kid hj hp h4).2.2.2.1]
  exact mo_k _ (h.1.m hp) _ (h.1.2 j hj).1.2.2.1 _ (h.1.2 j hj).1.2.2.2.2.2.2.1 _ (h.1.2 j hj).1.2.2.2.2.2.2.2.1
theorem HS.dr (h : HS P K nn W wd) {i : Nat} : ∀ (t : bt) (p : Nat), inB P nn i p → bt_R (P.2 4) (P.2 5) (P.2 7) (nI p) t → (∀ x ∈ bt_pre t, x < nn) → drF P i t := by
  have h60 := h.1.1
  intro t
  induction t with
  | leaf u => intro _ _ _ _; trivial
  | branch j k s ihk ihs =>
    intro p hb hR hx
    obtain ⟨r1, r2, r3, r4, r5, r6⟩ := hR
    have hj := hx j (by simp [bt_pre])
    have kx : ∀ y ∈ bt_pre k, y < nn := fun y hy => hx y (by simp [bt_pre, hy])
    obtain ⟨a1, a2, a3⟩ := hb.at h.1 hj r2
    have hkd := h.kinds hj hb.1 r2
    refine ⟨⟨r1, a1, mo7_or (h.1.m hj), fun c => gone_all h.1 k j hj c r5 kx, fun c => ?_⟩, fun c => ihk j (a3 c) r5 kx, ihs p hb r6 (fun y hy => hx y (by simp [bt_pre, hy]))⟩
    refine leaf_of r3 r5 ((h.1.2 j hj).1.2.2.2.1 ?_)
    rcases c with c | c | c
    · rw [hkd.1 c]; decide
    · rw [hkd.2.1 c]; decide
    · rw [hkd.2.2.1 c]; decide
theorem HS.chd (h : HS P K nn W wd) {i f j : Nat} {k : bt} (hb : inB P nn i i) (h8 : P.2 8 i = nI f) (hf : f < 13) (h4 : P.2 4 j = nI i) (hl : loc P nn wd W j k) (hbx : ¬ f_isBox P (nI j) = 0) : chd P nn i f j k := by
  have h60 := h.1.1
  obtain ⟨l1, l2, l3, l4, l5, l6, l7, W0, l8, l9, l10⟩ := hl
  obtain ⟨k1, k2, k3, k4, k5, k6, e, e1, e2, e3⟩ := h.1.kid l1 hb.2.1 h4
  have hk0 : P.2 3 j = 0 := by
    rcases (isBox_m (by omega)).mp hbx with c | c
    · exact (h.kinds l1 hb.2.1 h4).2.2.2.2.1 c
    · exact (h.kinds l1 hb.2.1 h4).2.2.2.2.2 c
  have hef : e = f := nI_inj60 (by omega) (by omega) (e2.symm.trans h8)
  refine ⟨l1, k1, l2, l3, l4, l6, by omega, (hb.at h.1 l1 h4).1, (h.1.2 j l1).1.2.2.2.2.1 (by rw [hk0]; decide), hbx, (l8.2.2.1 k1 (Or.inl hbx)).1, e + 1, e3, by omega, by omega⟩
theorem HS.txt (h : HS P K nn W wd) {j : Nat} {k : bt} (hl : loc P nn wd W j k) (h6 : P.2 12 j = 6) : ∃ w0, txt_ok P W j w0 := by
  obtain ⟨l1, l2, l3, l4, l5, l6, l7, W0, l8, l9, l10⟩ := hl
  have e : l1_w P j = (ws_of P j).length := by
    unfold l1_w
    rw [if_pos h6]
  refine ⟨W0, h6, l8.1, by omega, fun q r hq => ?_⟩
  have := l8.2.2.2 h6 q r hq
  exact ⟨this.1, this.2.1⟩
theorem HS.w4 (h : HS P K nn W wd) {i j p : Nat} {k : bt} (hb : inB P nn i p) (h4 : P.2 4 j = nI p) (hl : loc P nn wd W j k) (c : P.2 12 j = 4) : (P.2 17 j = if ¬ f_told P (nI j) (f_inner P (nI i)) = -1 then f_told P (nI j) (f_inner P (nI i)) else 8) ∧ P.2 18 j = f_hv P j := by
  obtain ⟨l1, l2, l3, l4, l5, l6, l7, W0, l8, l9, l10⟩ := hl
  obtain ⟨a1, a2, a3⟩ := hb.at h.1 l1 h4
  obtain ⟨w1, w2⟩ := l8.2.2.1 (by omega) (Or.inr c)
  refine ⟨?_, w2 c⟩
  rw [w1]
  unfold f_wv
  rw [if_neg (not_not_intro c), a1]
theorem HS.nds (h : HS P K nn W wd) {xs : List Int32} {Kp : Nat → Prop} {A : cl_A} {i f D j p : Nat} {T : List Nat} {k : bt} (hb : inB P nn i p) (h4 : P.2 4 j = nI p) (hl : loc P nn wd W j k) (hT : ∀ x ∈ sub (j, k), x ∈ T) (hfl : ¬ f_isBox P (nI j) = 0 → flt_ok xs Kp A P nn W i f D T (j, k)) : nds xs Kp A P nn W i f D T j k := by
  have h60 := h.1.1
  have hl' := hl
  obtain ⟨l1, l2, l3, l4, l5, l6, l7, W0, l8, l9, l10⟩ := hl'
  obtain ⟨a1, a2, a3⟩ := hb.at h.1 l1 h4
  obtain ⟨k1, k2, k3, k4, k5, k6, e, e1, e2, e3⟩ := h.1.kid l1 hb.1 h4
  have hkd := h.kinds l1 hb.1 h4
  exact ⟨l1, by omega, hT, hfl, fun c => by rw [k5, if_pos c], fun c => ⟨hkd.1 c, h.w4 hb h4 hl c⟩, hkd.2.1, fun c => ⟨hkd.2.2.1 c, h.txt hl c⟩, hkd.2.2.2.1, mo7_or (h.1.m l1), (h.1.2 j l1).1.2.2.2.1⟩
theorem HS.ndF (h : HS P K nn W wd) {xs : List Int32} {Kp : Nat → Prop} {A : cl_A} {i f D : Nat} {T : List Nat} : ∀ (t : bt) (p : Nat), inB P nn i p → P.2 12 p = 3 → bt_R (P.2 4) (P.2 5) (P.2 7) (nI p) t → bt_all (loc P nn wd W) t → (∀ x ∈ bt_pre t, x ∈ T) → ndF xs Kp A P nn W i f D T t := by
  have h60 := h.1.1
  intro t
  induction t with
  | leaf u => intro _ _ _ _ _ _; trivial
  | branch j k s ihk ihs =>
    intro p hb h3 hR ha hT
    obtain ⟨r1, r2, r3, r4, r5, r6⟩ := hR
    obtain ⟨a1, a2, a3⟩ := ha
    have hj := a1.1
    have nob : f_isBox P (nI j) = 0 := by
      by_cases c : f_isBox P (nI j) = 0
      · exact c
      · have hm := (h.1.kid hj hb.1 r2).2.2.2.1
        rw [h3] at hm
        have := mo_3 _ (h.1.2 j hj).1.2.2.1 _ (h.1.2 j hj).1.2.2.2.2.2.2.1 _ (h.1.2 j hj).1.2.2.2.2.2.2.2.1
        rw [← hm] at this
        rcases (isBox_m (by omega)).mp c with q | q
        · exact absurd q this.1
        · exact absurd q this.2
    refine ⟨h.nds hb r2 a1 (fun x hx => hT x ?_) (fun c => absurd nob c), fun c => ihk j ((hb.at h.1 hj r2).2.2 c) c r5 a2 (fun x hx => hT x (by simp [bt_pre, hx])), ihs p hb h3 r6 a3 (fun x hx => hT x (by simp [bt_pre, hx]))⟩
    unfold sub at hx
    rcases List.mem_cons.mp hx with e | e
    · simp [bt_pre, e]
    · simp [bt_pre, e]
theorem HS.cnF (h : HS P K nn W wd) {xs : List Int32} {Kp : Nat → Prop} {A : cl_A} {i f D : Nat} {T : List Nat} (hb : inB P nn i i) (h1 : P.2 12 i = 1) (h8 : P.2 8 i = nI f) (hf : f < 13) : ∀ (t : bt), bt_R (P.2 4) (P.2 5) (P.2 7) (nI i) t → bt_all (loc P nn wd W) t → bt_all (fun j k => P.2 12 j = 1 ∨ P.2 12 j = 2 → LE xs Kp A P nn W j k) t → bt_all (fun i k => P.2 3 i = 0 → mg_eq P i k) t → (∀ x ∈ bt_pre t, x ∈ T) → 21 + 12 * bt_ht t ≤ D → cnF xs Kp A P nn W i f D T t := by
  have h60 := h.1.1
  intro t
  induction t with
  | leaf u => intro _ _ _ _ _ _; trivial
  | branch j k s ihk ihs =>
    intro hR ha hle hmg hT hD
    obtain ⟨r1, r2, r3, r4, r5, r6⟩ := hR
    obtain ⟨a1, a2, a3⟩ := ha
    obtain ⟨e1, e2, e3⟩ := hle
    obtain ⟨g1, g2, g3⟩ := hmg
    have hj := a1.1
    have hd : bt_ht k + 1 ≤ bt_ht (.branch j k s) ∧ bt_ht s ≤ bt_ht (.branch j k s) := ⟨Nat.le_max_left _ _, Nat.le_max_right _ _⟩
    obtain ⟨b1, b2, b3⟩ := hb.at h.1 hj r2
    have hsT : ∀ x ∈ sub (j, k), x ∈ T := fun x hx => hT x (by
      unfold sub at hx
      rcases List.mem_cons.mp hx with e | e
      · simp [bt_pre, e]
      · simp [bt_pre, e])
    obtain ⟨q1, q2, q3, q4, q5, q6, _⟩ := h.1.kid hj hb.1 r2
    have hkd := h.kinds hj hb.1 r2
    have m1 := mo_1 _ (h.1.2 j hj).1.2.2.1 _ (h.1.2 j hj).1.2.2.2.2.2.2.1 _ (h.1.2 j hj).1.2.2.2.2.2.2.2.1
    rw [h1] at q4
    rw [← q4] at m1
    refine ⟨⟨hj, by omega, hsT, m1.1, fun cB => ?_, fun cB _ => ⟨?_, fun c => ?_⟩⟩, ihs r6 a3 e3 g3 (fun x hx => hT x (by simp [bt_pre, hx])) (by omega)⟩
    · have hbx := cB.1
      have hmm := (isBox_m (by omega)).mp hbx
      have hk0 : P.2 3 j = 0 := by
        rcases hmm with c | c
        · exact hkd.2.2.2.2.1 c
        · exact hkd.2.2.2.2.2 c
      have hfl : f_of P (nI j) 1 ≤ 0 := by
        have := cB.2
        rw [q5, if_neg hbx, if_neg (not_not_intro h1)] at this
        by_cases c : f_of P (nI j) 1 ≤ 0
        · exact c
        · rw [if_neg c] at this
          exact absurd this (by decide)
      obtain ⟨f0, d0⟩ := m1.2.1 hmm hfl
      refine ⟨⟨h.chd hb h8 hf r2 a1 hbx, cB.2, e1 hmm, by show 31 + 12 * bt_ht k ≤ D; omega, hT j (by simp [bt_pre]), hk0, h.mg hj hk0⟩, ⟨g1, g2, trivial⟩, ?_⟩
      unfold f_isBlock
      rw [nI_clamp (by omega), if_neg (not_not_intro hk0), if_neg (not_not_intro f0)]
      rcases d0 with c | c
      · rw [if_pos c]; decide
      · rw [c]; decide
    · refine h.nds hb r2 a1 hsT (fun hbx => ?_)
      have hmm := (isBox_m (by omega)).mp hbx
      have h13 : ¬ P.2 13 j = 0 := fun c => cB ⟨hbx, c⟩
      have hfl : ¬ f_of P (nI j) 1 ≤ 0 := by
        intro c
        rw [q5, if_neg hbx, if_neg (not_not_intro h1), if_pos c] at h13
        exact h13 rfl
      exact ⟨h.chd hb h8 hf r2 a1 hbx, h13, m1.2.2 hfl, e1 hmm, by show 31 + 12 * bt_ht k ≤ D; omega, hT j (by simp [bt_pre])⟩
    · exact h.ndF k j (b3 c) c r5 a2 (fun x hx => hT x (by simp [bt_pre, hx]))
theorem HS.rwF (h : HS P K nn W wd) {xs : List Int32} {Kp : Nat → Prop} {A : cl_A} {i f D : Nat} (hb : inB P nn i i) (h2 : P.2 12 i = 2) (h8 : P.2 8 i = nI f) (hf : f < 13) : ∀ (t : bt), bt_R (P.2 4) (P.2 5) (P.2 7) (nI i) t → bt_all (loc P nn wd W) t → bt_all (fun j k => P.2 12 j = 1 ∨ P.2 12 j = 2 → LE xs Kp A P nn W j k) t → 21 + 12 * bt_ht t ≤ D → rwF xs Kp A P nn W i f D t ∧ ∀ q ∈ bt_rt t, P.2 14 q.1 = nI i := by
  have h60 := h.1.1
  intro t
  induction t with
  | leaf u => intro _ _ _ _; exact ⟨trivial, fun q hq => by cases hq⟩
  | branch j k s ihk ihs =>
    intro hR ha hle hD
    obtain ⟨r1, r2, r3, r4, r5, r6⟩ := hR
    obtain ⟨a1, a2, a3⟩ := ha
    obtain ⟨e1, e2, e3⟩ := hle
    have hj := a1.1
    have hd : bt_ht k + 1 ≤ bt_ht (.branch j k s) ∧ bt_ht s ≤ bt_ht (.branch j k s) := ⟨Nat.le_max_left _ _, Nat.le_max_right _ _⟩
    obtain ⟨b1, b2, b3⟩ := hb.at h.1 hj r2
    obtain ⟨q1, q2, q3, q4, q5, q6, _⟩ := h.1.kid hj hb.1 r2
    have hkd := h.kinds hj hb.1 r2
    have m2 := mo_2 _ (h.1.2 j hj).1.2.2.1 _ (h.1.2 j hj).1.2.2.2.2.2.2.1 _ (h.1.2 j hj).1.2.2.2.2.2.2.2.1
    rw [h2] at q4
    rw [← q4] at m2
    obtain ⟨i1, i2⟩ := ihs r6 a3 e3 (by omega)
    refine ⟨⟨⟨hj, m2, fun c => gone_all h.1 k j hj c r5 a1.2.2.2.1, fun c => ⟨leaf_of r3 r5 ((h.1.2 j hj).1.2.2.2.1 (by rw [hkd.1 c]; decide)), hkd.1 c, h.w4 hb r2 a1 c⟩, fun hbx => ?_⟩, i1⟩, fun q hq => ?_⟩
    · have hmm := (isBox_m (by omega)).mp hbx
      have hk0 : P.2 3 j = 0 := by
        rcases hmm with c | c
        · exact hkd.2.2.2.2.1 c
        · exact hkd.2.2.2.2.2 c
      have h13 : P.2 13 j = 0 := by
        rw [q5, if_neg hbx, if_pos (by rw [h2]; decide)]
      exact ⟨h.chd hb h8 hf r2 a1 hbx, h13, hk0, e1 hmm, by omega⟩
    · rw [bt_rt] at hq
      rcases List.mem_cons.mp hq with e | e
      · rw [e]; exact b1
      · exact i2 q e
theorem HS.dep (h : HS P K nn W wd) {i e : Nat} (hi : i < nn) (h8 : P.2 8 i = nI e) (he : e < 2147483648) : e < 13 := by
  by_cases h0 : i = 0
  · subst h0
    have := ((h.1.2 0 hi).1.1 rfl).2.2
    have h2 : nI e = nI 0 := h8.symm.trans this
    have := congrArg Int32.toNatClampNeg h2
    rw [nI_clamp (by omega), nI_clamp (by omega)] at this
    omega
  · obtain ⟨p, e', p1, p2, p3, p4, p5, p6⟩ := (h.1.2 i hi).1.2.1 h0
    have := congrArg Int32.toNatClampNeg (h8.symm.trans p6)
    rw [nI_clamp (by omega), nI_clamp (by omega)] at this
    omega
end HSS
