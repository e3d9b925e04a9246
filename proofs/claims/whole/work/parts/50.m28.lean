/-! the reference: lay, its first loop (by hand: wip/whole/gen/m28.py) -/
def f_bx (M : md_S) (q : Nat) : Int32 := if f_isBox M (nI q) = 0 then M.2 14 q else nI q
theorem f_bx_same {M M' : md_S} (h : md_X [29] X_E M M') (q : Nat) : f_bx M' q = f_bx M q := by
  unfold f_bx f_isBox
  rw [h.2 12 (by decide), h.2 14 (by decide)]
theorem mo_eq_bx {M : md_S} {i q : Nat} (hi : ¬ i = 0) (hq : q < 60) (hp : M.2 4 i = nI q) (h : mo_eq M i) : M.2 14 i = f_bx M q := by
  have := h.1
  rw [if_neg hi, hp, nI_clamp (by omega)] at this
  exact this
theorem bx_in {M : md_S} : ∀ (t : bt) (q : Nat), bt_R (M.2 4) (M.2 5) (M.2 7) (nI q) t → q < 60 → (∀ x ∈ bt_pre t, mo_eq M x ∧ ¬ x = 0) → ∀ x ∈ bt_pre t, M.2 14 x = f_bx M q ∨ ∃ y ∈ bt_pre t, M.2 14 x = nI y := by
  intro t
  induction t with
  | leaf u => intro q _ _ _ x hx; cases hx
  | branch i k s ihk ihs =>
    intro q hR hq hm x hx
    have hi : i < 60 := hR.1
    have hbi := mo_eq_bx (hm i (by simp [bt_pre])).2 hq hR.2.1 (hm i (by simp [bt_pre])).1
    have hmk := fun y (hy : y ∈ bt_pre k) => hm y (by simp [bt_pre, hy])
    have hms := fun y (hy : y ∈ bt_pre s) => hm y (by simp [bt_pre, hy])
    simp only [bt_pre, List.mem_cons, List.mem_append] at hx ⊢
    rcases hx with rfl | hx | hx
    · exact Or.inl hbi
    · rcases ihk i hR.2.2.2.2.1 hi hmk x hx with e | ⟨y, hy, e⟩
      · unfold f_bx at e
        by_cases h0 : f_isBox M (nI i) = 0
        · rw [if_pos h0] at e
          exact Or.inl (e.trans hbi)
        · rw [if_neg h0] at e
          exact Or.inr ⟨i, Or.inl rfl, e⟩
      · exact Or.inr ⟨y, Or.inr (Or.inl hy), e⟩
    · rcases ihs q hR.2.2.2.2.2 hq hms x hx with e | ⟨y, hy, e⟩
      · exact Or.inl e
      · exact Or.inr ⟨y, Or.inr (Or.inr hy), e⟩
theorem l1_F_same {M M' : md_S} {w : Int32} (h : md_X [29] X_E M M') : ∀ (t : bt) (W : Nat), (∀ x ∈ bt_pre t, l1_at M M' x) → (∀ x ∈ bt_pre t, ¬ x = 0 → M'.2 17 (M.2 14 x).toNatClampNeg = M.2 17 (M.2 14 x).toNatClampNeg) → (∀ j, j < W + l1_ws M t → wd_sm M M' j) → l1_F w M t W → l1_F w M' t W := by
  intro t
  induction t with
  | leaf u => intro W _ _ _ _; trivial
  | branch i k s ihk ihs =>
    intro W h1 h2 h3 hF
    rw [l1_ws_br] at h3
    obtain ⟨f1, f2, f3⟩ := hF
    refine ⟨l1_N_same h (h1 i (by simp [bt_pre])) (h2 i (by simp [bt_pre])) (fun j hj => h3 j (by omega)) f1, ?_, ?_⟩
    · rw [l1_w_same h]
      exact ihk _ (fun x hx => h1 x (by simp [bt_pre, hx])) (fun x hx => h2 x (by simp [bt_pre, hx])) (fun j hj => h3 j (by omega)) f2
    · rw [l1_w_same h, l1_ws_same h]
      exact ihs _ (fun x hx => h1 x (by simp [bt_pre, hx])) (fun x hx => h2 x (by simp [bt_pre, hx])) (fun j hj => h3 j (by omega)) f3
def l1_P (w : Int32) (M M' : md_S) (t : bt) (W : Nat) : Prop := md_X [29] X_E M M' ∧ M'.1 29 = nI (W + l1_ws M t) ∧ (∀ j, j < W → wd_sm M M' j) ∧ (∀ j, j ∉ bt_pre t → l1_at M M' j) ∧ l1_F w M' t W
theorem mo_eq_E {M M' : md_S} (h : md_X [29] X_E M M') {i : Nat} (hi : i < 60) (he : mo_eq M i) : mo_eq M' i := by
  have hat : ∀ j, mo_at M M' j := fun j => ⟨by rw [h.2 12 (by decide)], by rw [h.2 13 (by decide)], by rw [h.2 14 (by decide)]⟩
  exact mo_eq_congr (h.2 3 (by decide)) (h.2 4 (by decide)) (h.2 9 (by decide)) hi (hat i) (fun _ => hat _) he
theorem l1_comp {M M1 M2 M3 : md_S} {w : Int32} {i W b : Nat} {k s : bt} (hb : ¬ i = 0 → M.2 14 i = nI b) (hb6 : b < 60) (hbk : ¬ i = 0 → b ∉ bt_pre k) (hbs : ¬ i = 0 → b ∉ bt_pre s) (hik : i ∉ bt_pre k) (his : i ∉ bt_pre s) (hks : ∀ x ∈ bt_pre k, x ∉ bt_pre s) (hkb : ∀ x ∈ bt_pre k, ¬ x = 0 → ∃ y, y < 60 ∧ y ∉ bt_pre s ∧ M.2 14 x = nI y)
    (h1 : l1_V w M M1 i k W) (h2 : l1_P w M1 M2 k (W + l1_w M i)) (h3 : l1_P w M2 M3 s (W + l1_w M i + l1_ws M k)) : l1_P w M M3 (.branch i k s) W := by
  obtain ⟨a1, a2, a3, a4, a5⟩ := h1
  obtain ⟨b1, b2, b3, b4, b5⟩ := h2
  obtain ⟨c1, c2, c3, c4, c5⟩ := h3
  have x12 := a1.tr b1
  have e1 := l1_ws_same a1
  have e2 := l1_ws_same x12
  refine ⟨x12.tr c1, ?_, fun j hj => ((a3 j hj).tr (b3 j (by omega))).tr (c3 j (by omega)), fun j hj => ?_, ?_, ?_, ?_⟩
  · rw [c2, l1_ws_br, e2]
    congr 1
    omega
  · simp only [bt_pre, List.mem_cons, List.mem_append, not_or] at hj
    exact ((a4 j hj.1).tr (b4 j hj.2.1)).tr (c4 j hj.2.2)
  · refine l1_N_same (b1.tr c1) ((b4 i hik).tr (c4 i his)) (fun h0 => ?_) (fun j hj => ?_) a5
    · rw [a1.2 14 (by decide), hb h0, nI_clamp (by omega)]
      exact ((b4 b (hbk h0)).tr (c4 b (hbs h0))).1
    · rw [l1_w_same a1] at hj
      exact (b3 j hj).tr (c3 j (by omega))
  · rw [l1_w_same (x12.tr c1)]
    refine l1_F_same c1 k _ (fun x hx => c4 x (hks x hx)) (fun x hx h0 => ?_) (fun j hj => ?_) b5
    · obtain ⟨y, hy6, hys, e⟩ := hkb x hx h0
      rw [x12.2 14 (by decide), e, nI_clamp (by omega)]
      exact (c4 y hys).1
    · rw [e2] at hj
      exact c3 j hj
  · rw [l1_w_same (x12.tr c1), l1_ws_same (x12.tr c1)]
    exact c5
theorem c_l1t {xs : List Int32} {mo : Nat} {ad : Nat → Nat} (hD : md_D mo ad) {h0 : am_H} {d : Nat} {Q : Option Value → md_S → Prop} {w : Int32} {nn : Nat} (h60 : nn ≤ 60) : ∀ (t : bt) (M : md_S) (q b ord W : Nat) (o3 : Option Value), bt_R (M.2 4) (M.2 5) (M.2 7) (nI q) t → q < 60 → f_bx M q = nI b → b < 60 → b ∉ bt_pre t → (bt_pre t).Nodup → (∀ x ∈ bt_pre t, mo_eq M x ∧ ¬ x = 0) → (∀ x ∈ bt_pre t, by_ok M x) → mo_ord M t ord → M.1 22 = nI nn → ord + (bt_pre t).length ≤ nn → M.1 29 = nI W → W + l1_ws M t ≤ 3700 →
    (∀ M' o3, l1_P w M M' t W → md_wp xs mo ad h0 (d + 11) Q I115 26 [some (.ref mo), some (.int w), some (.int (nI (ord + (bt_pre t).length))), o3] [] M') → md_wp xs mo ad h0 (d + 11) Q I115 26 [some (.ref mo), some (.int w), some (.int (nI ord)), o3] [] M := by
  intro t
  induction t with
  | leaf u =>
    intro M q b ord W o3 _ _ _ _ _ _ _ _ _ _ _ h29 _ hk
    refine hk M o3 ⟨md_X.rf, by simpa [l1_ws, bt_pre] using h29, fun _ _ => ⟨rfl, rfl, rfl, rfl, rfl⟩, fun _ _ => ⟨rfl, rfl, rfl⟩, trivial⟩
  | branch i k s ihk ihs =>
    intro M q b ord W o3 hR hq hbx hb6 hbn hn hm hy ho h22 hl h29 hW hk
    have hi : i < 60 := hR.1
    have hn' := hn
    have hbn' := hbn
    simp only [bt_pre, List.nodup_cons, List.mem_cons, List.mem_append, List.length_cons, List.length_append, not_or] at hn' hl hbn'
    have hks : ∀ x ∈ bt_pre k, x ∉ bt_pre s := fun x hx hs => (List.nodup_append.mp hn'.2).2.2 x hx x hs rfl
    obtain ⟨o1, o2, o3'⟩ := mo_ord_sub ho
    have hmi := hm i (by simp [bt_pre])
    have hbi : M.2 14 i = nI b := (mo_eq_bx hmi.2 hq hR.2.1 hmi.1).trans hbx
    have hmk := fun x (hx : x ∈ bt_pre k) => hm x (by simp [bt_pre, hx])
    have hms := fun x (hx : x ∈ bt_pre s) => hm x (by simp [bt_pre, hx])
    rw [l1_ws_br] at hW
    have hbk : ∃ b', b' < 60 ∧ f_bx M i = nI b' ∧ b' ∉ bt_pre k ∧ b' ∉ bt_pre s := by
      unfold f_bx
      by_cases h0 : f_isBox M (nI i) = 0
      · rw [if_pos h0]
        exact ⟨b, hb6, hbi, hbn'.2.1, hbn'.2.2⟩
      · rw [if_neg h0]
        exact ⟨i, hi, rfl, hn'.1.1, hn'.1.2⟩
    obtain ⟨b', hb'6, hb'e, hb'k, hb's⟩ := hbk
    have hk6 := bt_R_mem hR.2.2.2.2.1
    have hkb : ∀ x ∈ bt_pre k, ¬ x = 0 → ∃ y, y < 60 ∧ y ∉ bt_pre s ∧ M.2 14 x = nI y := by
      intro x hx _
      rcases bx_in k i hR.2.2.2.2.1 hi hmk x hx with e | ⟨y, hy', e⟩
      · exact ⟨b', hb'6, hb's, e.trans hb'e⟩
      · exact ⟨y, hk6 y hy', hks y hy', e⟩
    have hlen : ord + (bt_pre (.branch i k s)).length = ord + 1 + (bt_pre k).length + (bt_pre s).length := by
      simp only [bt_pre, List.length_cons, List.length_append]
      omega
    rw [hlen] at hk
    refine c_l1 hD hR (fun x hx => hy x ?_) hn'.1.1 (fun _ => ⟨b, hb6, hbn'.1, hbi⟩) (fun e => absurd e hmi.2) h22 h60 (by omega) o1 h29 (by omega) (fun M1 o3 hV => ?_)
    · simp only [bt_pre, List.mem_cons, List.mem_append] at hx ⊢
      rcases hx with h | h
      · exact Or.inl h
      · exact Or.inr (Or.inl h)
    have x1 := hV.1
    have l1 : M1.2 4 = M.2 4 ∧ M1.2 5 = M.2 5 ∧ M1.2 7 = M.2 7 ∧ M1.2 21 = M.2 21 := ⟨x1.2 4 (by decide), x1.2 5 (by decide), x1.2 7 (by decide), x1.2 21 (by decide)⟩
    have by1 : ∀ {N : md_S}, md_X [29] X_E M N → ∀ x, by_ok M x → by_ok N x := fun h x ⟨c, c1, c2⟩ => ⟨c, c1, by rw [h.2 11 (by decide)]; exact c2⟩
    refine ihk M1 i b' (ord + 1) (W + l1_w M i) o3 (by rw [l1.1, l1.2.1, l1.2.2.1]; exact hR.2.2.2.2.1) hi (by rw [f_bx_same x1]; exact hb'e) hb'6 hb'k (List.nodup_append.mp hn'.2).1 (fun x hx => ⟨mo_eq_E x1 (hk6 x hx) (hmk x hx).1, (hmk x hx).2⟩) (fun x hx => by1 x1 x (hy x (by simp [bt_pre, hx]))) (mo_ord_same l1.2.2.2 o2) ((x1.1 22 (by decide)).trans h22) (by omega) hV.2.1 (by rw [l1_ws_same x1]; omega) (fun M2 o3 hP => ?_)
    have x2 := x1.tr hP.1
    have l2 : M2.2 4 = M.2 4 ∧ M2.2 5 = M.2 5 ∧ M2.2 7 = M.2 7 ∧ M2.2 21 = M.2 21 := ⟨x2.2 4 (by decide), x2.2 5 (by decide), x2.2 7 (by decide), x2.2 21 (by decide)⟩
    have hs6 := bt_R_mem hR.2.2.2.2.2
    refine ihs M2 q b (ord + 1 + (bt_pre k).length) (W + l1_w M i + l1_ws M k) o3 (by rw [l2.1, l2.2.1, l2.2.2.1]; exact hR.2.2.2.2.2) hq (by rw [f_bx_same x2]; exact hbx) hb6 hbn'.2.2 (List.nodup_append.mp hn'.2).2.1 (fun x hx => ⟨mo_eq_E x2 (hs6 x hx) (hms x hx).1, (hms x hx).2⟩) (fun x hx => by1 x2 x (hy x (by simp [bt_pre, hx]))) (mo_ord_same l2.2.2.2 o3') ((x2.1 22 (by decide)).trans h22) (by omega) (by rw [hP.2.1, l1_ws_same x1]) (by rw [l1_ws_same x2]; omega) (fun M3 o3 hP3 => ?_)
    exact hk M3 o3 (l1_comp (fun _ => hbi) hb6 (fun _ => hbn'.2.1) (fun _ => hbn'.2.2) hn'.1.1 hn'.1.2 hks hkb hV hP hP3)
