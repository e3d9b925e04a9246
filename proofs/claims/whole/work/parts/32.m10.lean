/-! the reference: modes, its first loop (by hand: wip/whole/gen/m10.py) -/
/-- the same but for these ints and arrays -/
def md_X (I A : List Nat) (M M' : md_S) : Prop := (∀ f, f ∉ I → M'.1 f = M.1 f) ∧ ∀ f, f ∉ A → M'.2 f = M.2 f
theorem md_X.rf {I A : List Nat} {M : md_S} : md_X I A M M := ⟨fun _ _ => rfl, fun _ _ => rfl⟩
theorem md_X.tr {I A : List Nat} {M M1 M2 : md_S} (a : md_X I A M M1) (b : md_X I A M1 M2) : md_X I A M M2 := ⟨fun f h => (b.1 f h).trans (a.1 f h), fun f h => (b.2 f h).trans (a.2 f h)⟩
theorem md_X.sub {I A I' A' : List Nat} {M M' : md_S} (a : md_X I A M M') (hI : ∀ f ∈ I, f ∈ I') (hA : ∀ f ∈ A, f ∈ A') : md_X I' A' M M' := ⟨fun f h => a.1 f (fun q => h (hI f q)), fun f h => a.2 f (fun q => h (hA f q))⟩
theorem md_X.up1 {I A : List Nat} {M M' : md_S} (a : md_X I A M M') {f : Nat} (hf : f ∈ I) (v : Int32) : md_X I A M (md_up1 M' f v) := ⟨fun g h => (md_up1_ne _ (fun e => h (by rw [e]; exact hf)) _).trans (a.1 g h), a.2⟩
theorem md_X.up2 {I A : List Nat} {M M' : md_S} (a : md_X I A M M') {f : Nat} (hf : f ∈ A) (i : Nat) (v : Int32) : md_X I A M (md_up2 M' f i v) := ⟨a.1, fun g h => (md_up2_ne _ (fun e => h (by rw [e]; exact hf)) _ _).trans (a.2 g h)⟩
/-- what modes makes of node i -/
def mo_eq (M : md_S) (i : Nat) : Prop :=
  M.2 14 i = (if i = 0 then -1 else if f_isBox M (M.2 4 i) = 0 then M.2 14 (M.2 4 i).toNatClampNeg else M.2 4 i) ∧
  M.2 12 i = (if i = 0 then if ¬ f_of M 0 0 = 2 then 1 else 2 else f_modeOf M (nI i)) ∧
  M.2 13 i = (if i = 0 then 0 else if f_isBox M (nI i) = 0 then 0 else if ¬ M.2 12 (M.2 4 i).toNatClampNeg = 1 then 0 else if f_of M (nI i) 1 ≤ 0 then 0 else 1)
def mo_at (M M' : md_S) (i : Nat) : Prop := M'.2 12 i = M.2 12 i ∧ M'.2 13 i = M.2 13 i ∧ M'.2 14 i = M.2 14 i
theorem mo_eq_congr {M M' : md_S} {i : Nat} (h3 : M'.2 3 = M.2 3) (h4 : M'.2 4 = M.2 4) (h9 : M'.2 9 = M.2 9) (hi : i < 60) (h1 : mo_at M M' i) (h2 : ¬ i = 0 → mo_at M M' (M.2 4 i).toNatClampNeg) (h : mo_eq M i) : mo_eq M' i := by
  have hc : (nI i).toNatClampNeg = i := nI_clamp (by omega)
  obtain ⟨a1, a2, a3⟩ := h1
  unfold mo_eq at h ⊢
  by_cases h0 : i = 0
  · subst h0
    simp only [if_true, a1, a2, a3, f_of, h9] at h ⊢
    exact h
  · obtain ⟨b1, b2, b3⟩ := h2 h0
    simp only [if_neg h0, a1, a2, a3, f_of, f_isBox, f_modeOf, h9, h4, h3, hc, b1, b2, b3] at h ⊢
    exact h
def mo_V (M M' : md_S) (i ord : Nat) : Prop := md_X [22] [12, 13, 14, 21] M M' ∧ M'.1 22 = nI (ord + 1) ∧ (∀ j, ¬ j = ord → M'.2 21 j = M.2 21 j) ∧ M'.2 21 ord = nI i ∧ (∀ j, ¬ j = i → mo_at M M' j) ∧ mo_eq M' i
def mo_P (M M' : md_S) (t : bt) (ord : Nat) : Prop := md_X [22] [12, 13, 14, 21] M M' ∧ M'.1 22 = nI (ord + (bt_pre t).length) ∧ (∀ j, j < ord → M'.2 21 j = M.2 21 j) ∧ (∀ j x, (bt_pre t)[j]? = some x → M'.2 21 (ord + j) = nI x) ∧ (∀ j, j ∉ bt_pre t → mo_at M M' j) ∧ ∀ i ∈ bt_pre t, mo_eq M' i
theorem mo_at.tr {M M1 M2 : md_S} {i : Nat} (a : mo_at M M1 i) (b : mo_at M1 M2 i) : mo_at M M2 i := ⟨b.1.trans a.1, b.2.1.trans a.2.1, b.2.2.trans a.2.2⟩
theorem bt_par {pa fk nx : Nat → Int32} : ∀ {t : bt} {p : Int32}, bt_R pa fk nx p t → ∀ i ∈ bt_pre t, pa i = p ∨ ∃ q ∈ bt_pre t, pa i = nI q := by
  intro t
  induction t with
  | leaf u =>
    intro p _ i hi
    cases hi
  | branch j k s ihk ihs =>
    intro p h i hi
    obtain ⟨_, h2, _, _, h5, h6⟩ := h
    simp only [bt_pre, List.mem_cons, List.mem_append] at hi ⊢
    rcases hi with rfl | hi | hi
    · exact Or.inl h2
    · rcases ihk h5 i hi with e | ⟨q, hq, e⟩
      · exact Or.inr ⟨j, Or.inl rfl, e⟩
      · exact Or.inr ⟨q, Or.inr (Or.inl hq), e⟩
    · rcases ihs h6 i hi with e | ⟨q, hq, e⟩
      · exact Or.inl e
      · exact Or.inr ⟨q, Or.inr (Or.inr hq), e⟩
theorem md_and1 {x : Int32} (h : x = 0 ∨ x = 1) : x &&& 1 = x := by
  rcases h with rfl | rfl <;> decide
theorem c_visit {xs : List Int32} {mo : Nat} {ad : Nat → Nat} (hD : md_D mo ad) {h0 : am_H} {d : Nat} {Q : Option Value → md_S → Prop} {M : md_S} {i ord : Nat} {p c : Int32} {k s : bt}
    (hR : bt_R (M.2 4) (M.2 5) (M.2 7) p (.branch i k s)) (hb : bh (M.2 4) (M.2 7) 0 (nI i) c) (ho : M.1 22 = nI ord) (ho6 : ord < 60) (hp : ¬ i = 0 → ∃ q, q < 60 ∧ ¬ q = i ∧ M.2 4 i = nI q)
    (hk : ∀ M', mo_V M M' i ord → md_wp xs mo ad h0 (d + 5) Q I116 7 [some (.ref mo), some (.int (bt_hd c k))] [] M') : md_wp xs mo ad h0 (d + 5) Q I116 7 [some (.ref mo), some (.int (nI i))] [] M := by
  have hi : i < 60 := hR.1
  have hc : (nI i).toNatClampNeg = i := nI_clamp (by omega)
  have hvi : vp_in (nI i) 60 := vp_nI hi (by decide)
  have hz : nI i = 0 ↔ i = 0 := by rw [← nI_0, nI_eq (by omega) (by decide)]
  have hz2 : nI i ≤ 0 ↔ i = 0 := by
    rw [← nI_0, nI_leI (by omega) (by decide)]
    omega
  have hvp : ¬ nI i = 0 → vp_in (M.2 4 i) 60 := by
    intro q
    obtain ⟨q', h1, _, h3⟩ := hp (fun e => q (hz.mpr e))
    rw [h3]
    exact vp_nI h1 (by decide)
  refine vc116_7 hD ⟨fun q => absurd q (nI_ne_m1 (by omega)), fun _ => ⟨by rw [ho]; exact vp_nI ho6 (by decide), ?_⟩⟩
  rw [ho, nI_clamp (show ord < 2 ^ 31 by omega), hc]
  intro M1 e1 M2 e2
  have e2 : M2 = md_up1 M1 22 (nI (ord + 1)) := by rw [e2, e1, md_up2_1, ho, nI_1]
  have hX2 : md_X [22] [12, 13, 14, 21] M M2 := by
    rw [e2, e1]
    exact (md_X.rf.up2 (by decide) _ _).up1 (by decide) _
  have h24 : M2.2 4 = M.2 4 := hX2.2 4 (by decide)
  refine ⟨⟨fun q => ⟨hvi, by rw [h24]; exact hvp q, fun _ => trivial, fun _ => trivial⟩, fun _ => trivial⟩, ?_⟩
  intro s1 es1
  refine ⟨hvi, ?_⟩
  intro M3 e3
  have hX3 : md_X [22] [12, 13, 14, 21] M M3 := by rw [e3]; exact hX2.up2 (by decide) _ _
  have h34 : M3.2 4 = M.2 4 := hX3.2 4 (by decide)
  refine ⟨⟨fun q => ⟨by rw [h34]; exact hvp q, trivial⟩, fun _ => ⟨fun _ => trivial, fun _ => trivial⟩⟩, ?_⟩
  intro s2 es2 M4 e4
  have hX4 : md_X [22] [12, 13, 14, 21] M M4 := by rw [e4]; exact hX3.up2 (by decide) _ _
  have h44 : M4.2 4 = M.2 4 := hX4.2 4 (by decide)
  refine ⟨⟨fun _ => trivial, fun q => ⟨fun _ => trivial, fun _ => ⟨by rw [h44]; exact hvp (fun e => q (hz2.mpr (hz.mp e))), fun _ => trivial, fun _ => ⟨fun _ => trivial, fun _ => trivial⟩⟩⟩⟩, ?_⟩
  intro s3 es3 M5 e5
  have hX5 : md_X [22] [12, 13, 14, 21] M M5 := by rw [e5]; exact hX4.up2 (by decide) _ _
  have h54 : M5.2 4 = M.2 4 := hX5.2 4 (by decide)
  have h55 : M5.2 5 = M.2 5 := hX5.2 5 (by decide)
  have h57 : M5.2 7 = M.2 7 := hX5.2 7 (by decide)
  have hat : ∀ j, ¬ j = i → mo_at M M5 j := by
    intro j hj
    rw [e5, e4, e3, e2, e1]
    refine ⟨?_, ?_, ?_⟩ <;> simp [md_up1, md_up2, hj]
  have q12 : M5.2 12 i = s2 := by rw [e5, e4]; simp [md_up2]
  have q14 : M5.2 14 i = s1 := by rw [e5, e4, e3]; simp [md_up2]
  have q13 : M5.2 13 i = s3 := by
    rw [e5, md_up2_at]
    apply md_and1
    rw [es3]
    split
    · exact Or.inl rfl
    · split
      · exact Or.inl rfl
      · split
        · exact Or.inl rfl
        · split
          · exact Or.inl rfl
          · exact Or.inr rfl
  have hE : mo_eq M5 i := by
    unfold mo_eq
    rw [q12, q13, q14, h54, es1, es2, es3]
    by_cases hi0 : i = 0
    · have e9 : M3.2 9 = M5.2 9 := (hX3.2 9 (by decide)).trans (hX5.2 9 (by decide)).symm
      have hq : ¬ ¬ nI i = 0 := fun q => q (hz.mpr hi0)
      rw [if_neg hq, if_neg hq, if_pos (hz2.mpr hi0), if_pos hi0, if_pos hi0, if_pos hi0]
      have ef : f_of M3 0 0 = f_of M5 0 0 := by simp only [f_of, e9]
      rw [ef]
      exact ⟨rfl, rfl, rfl⟩
    · obtain ⟨q, hq, hqi, hpq⟩ := hp hi0
      have hqc : (nI q).toNatClampNeg = q := nI_clamp (by omega)
      have a2 : ∀ j, ¬ j = i → M2.2 12 j = M.2 12 j ∧ M2.2 14 j = M.2 14 j := by
        intro j hj
        rw [e2, e1]
        exact ⟨by simp [md_up1, md_up2], by simp [md_up1, md_up2]⟩
      have a3 : ∀ j, ¬ j = i → M3.2 12 j = M.2 12 j := by
        intro j hj
        rw [e3, e2, e1]
        simp [md_up1, md_up2]
      have a4 : ∀ j, ¬ j = i → M4.2 12 j = M.2 12 j := by
        intro j hj
        rw [e4, e3, e2, e1]
        simp [md_up1, md_up2, hj]
      have b4 : M4.2 12 i = s2 := by rw [e4]; simp [md_up2]
      have c9 : ∀ N, md_X [22] [12, 13, 14, 21] M N → N.2 9 = M.2 9 := fun N h => h.2 9 (by decide)
      have c3 : ∀ N, md_X [22] [12, 13, 14, 21] M N → N.2 3 = M.2 3 := fun N h => h.2 3 (by decide)
      simp only [hz, hz2, hi0, not_false_eq_true, if_true, if_false, h24, h34, h44, h54, hpq, hqc, f_isBox, f_of, f_modeOf, hc, c9 _ hX2, c9 _ hX3, c9 _ hX4, c9 _ hX5, c3 _ hX3, c3 _ hX5, (a2 q hqi).1, (a2 q hqi).2, a3 q hqi, a4 q hqi, (hat q hqi).1, (hat q hqi).2.2, b4, q12, es2]
      exact ⟨trivial, trivial, trivial⟩
  have hV : mo_V M M5 i ord := by
    refine ⟨hX5, ?_, ?_, ?_, hat, hE⟩
    · rw [e5, e4, e3, e2, md_up2_1, md_up2_1, md_up2_1, md_up1_at]
    · intro j hj
      rw [e5, e4, e3, e2, e1]
      simp [md_up1, md_up2, hj]
    · rw [e5, e4, e3, e2, e1]
      simp [md_up1, md_up2]
  refine c_after hD (p := p) (k := k) (s := s) (b := c) (by rw [h54, h55, h57]; exact hR) (by rw [h54, h57]; exact hb) _ ⟨_, rfl, hk M5 hV⟩
theorem mo_P_comp {M M1 M2 M3 : md_S} {i ord : Nat} {p : Int32} {k s : bt} (hR : bt_R (M.2 4) (M.2 5) (M.2 7) p (.branch i k s)) (hn : (bt_pre (.branch i k s)).Nodup) (hp : ¬ i = 0 → ∃ q, q < 60 ∧ q ∉ bt_pre (.branch i k s) ∧ p = nI q)
    (h1 : mo_V M M1 i ord) (h2 : mo_P M1 M2 k (ord + 1)) (h3 : mo_P M2 M3 s (ord + 1 + (bt_pre k).length)) : mo_P M M3 (.branch i k s) ord := by
  obtain ⟨a1, a2, a3, a4, a5, a6⟩ := h1
  obtain ⟨b1, b2, b3, b4, b5, b6⟩ := h2
  obtain ⟨c1, c2, c3, c4, c5, c6⟩ := h3
  have hR' := hR
  obtain ⟨r1, r2, r3, r4, r5, r6⟩ := hR
  simp only [bt_pre, List.nodup_cons, List.mem_append, not_or] at hn hp
  obtain ⟨⟨n1, n2⟩, n3⟩ := hn
  have n4 : ∀ x, x ∈ bt_pre k → x ∉ bt_pre s := fun x hk hs => (List.nodup_append.mp n3).2.2 x hk x hs rfl
  have m6 : ∀ x ∈ bt_pre (.branch i k s), x < 60 := bt_R_mem hR'
  have x12 : md_X [22] [12, 13, 14, 21] M M2 := a1.tr b1
  refine ⟨x12.tr c1, ?_, ?_, ?_, ?_, ?_⟩
  · rw [c2]
    simp only [bt_pre, List.length_cons, List.length_append]
    congr 1
    omega
  · intro j hj
    rw [c3 j (by omega), b3 j (by omega), a3 j (by omega)]
  · intro j x hx
    cases j with
    | zero =>
      simp only [bt_pre, List.getElem?_cons_zero, Option.some.injEq] at hx
      rw [Nat.add_zero, c3 _ (by omega), b3 _ (by omega), a4, hx]
    | succ j =>
      simp only [bt_pre, List.getElem?_cons_succ] at hx
      rw [List.getElem?_append] at hx
      split at hx
      · rw [c3 _ (by omega), show ord + (j + 1) = ord + 1 + j by omega]
        exact b4 j x hx
      · have e : ord + (j + 1) = ord + 1 + (bt_pre k).length + (j - (bt_pre k).length) := by omega
        rw [e]
        exact c4 _ _ hx
  · intro j hj
    simp only [bt_pre, List.mem_cons, List.mem_append, not_or] at hj
    exact ((a5 j hj.1).tr (b5 j hj.2.1)).tr (c5 j hj.2.2)
  · have h93 : ∀ {N N' : md_S}, md_X [22] [12, 13, 14, 21] N N' → N'.2 3 = N.2 3 ∧ N'.2 4 = N.2 4 ∧ N'.2 9 = N.2 9 := fun h => ⟨h.2 3 (by decide), h.2 4 (by decide), h.2 9 (by decide)⟩
    intro m hm
    have hm6 := m6 m hm
    simp only [bt_pre, List.mem_cons, List.mem_append] at hm
    rcases hm with rfl | hm | hm
    · have hx := b1.tr c1
      refine mo_eq_congr (h93 hx).1 (h93 hx).2.1 (h93 hx).2.2 hm6 ((b5 _ n1).tr (c5 _ n2)) (fun h0 => ?_) a6
      obtain ⟨q, hq, hqn, hqp⟩ := hp h0
      rw [(h93 a1).2.1, r2, hqp, nI_clamp (by omega)]
      simp only [List.mem_cons, List.mem_append, not_or] at hqn
      exact (b5 _ hqn.2.1).tr (c5 _ hqn.2.2)
    · refine mo_eq_congr (h93 c1).1 (h93 c1).2.1 (h93 c1).2.2 hm6 (c5 _ (n4 m hm)) (fun h0 => ?_) (b6 m hm)
      rw [(h93 x12).2.1]
      rcases bt_par r5 m hm with e | ⟨q, hq, e⟩
      · rw [e, nI_clamp (by omega)]
        exact c5 _ n2
      · rw [e, nI_clamp (by have := m6 q (by simp [bt_pre, hq]); omega)]
        exact c5 _ (n4 q hq)
    · exact c6 m hm
theorem c_modes1 {xs : List Int32} {mo : Nat} {ad : Nat → Nat} (hD : md_D mo ad) {h0 : am_H} {d : Nat} {Q : Option Value → md_S → Prop} : ∀ (t : bt) (M : md_S) (q ord : Nat) (b : Int32), bt_R (M.2 4) (M.2 5) (M.2 7) (nI q) t → bh (M.2 4) (M.2 7) 0 (nI q) b → (bt_pre t).Nodup → 0 ∉ bt_pre t → q < 60 → q ∉ bt_pre t → M.1 22 = nI ord → ord + (bt_pre t).length ≤ 60 →
    (∀ M', mo_P M M' t ord → md_wp xs mo ad h0 (d + 5) Q I116 7 [some (.ref mo), some (.int b)] [] M') → md_wp xs mo ad h0 (d + 5) Q I116 7 [some (.ref mo), some (.int (bt_hd b t))] [] M := by
  intro t
  induction t with
  | leaf u =>
    intro M q ord b _ _ _ _ _ _ ho _ hk
    refine hk M ⟨md_X.rf, by simpa [bt_pre] using ho, fun _ _ => rfl, ?_, fun _ _ => ⟨rfl, rfl, rfl⟩, ?_⟩
    · intro j x hx
      simp [bt_pre] at hx
    · intro i hi
      cases hi
  | branch i k s ihk ihs =>
    intro M q ord b hR hb hn hz hq hqn ho hl hk
    have hR' := hR
    have hn' := hn
    obtain ⟨r1, r2, r3, r4, r5, r6⟩ := hR'
    have hz' := hz
    have hqn' := hqn
    simp only [bt_pre, List.nodup_cons, List.mem_cons, List.mem_append, List.length_cons, List.length_append, not_or] at hn' hz' hl hqn'
    have hi0 : ¬ i = 0 := fun e => hz'.1 e.symm
    have hi0' : ¬ nI i = 0 := nI_ne0 (by omega) (by omega)
    have hbs := bh_sib hR hi0' hb
    refine c_visit hD hR hbs ho (by omega) (fun _ => ⟨q, hq, hqn'.1, r2⟩) (fun M1 hV => ?_)
    have l1 : M1.2 4 = M.2 4 ∧ M1.2 5 = M.2 5 ∧ M1.2 7 = M.2 7 := ⟨hV.1.2 4 (by decide), hV.1.2 5 (by decide), hV.1.2 7 (by decide)⟩
    refine ihk M1 i (ord + 1) _ (by rw [l1.1, l1.2.1, l1.2.2]; exact r5) (by rw [l1.1, l1.2.2]; exact hbs) (List.nodup_append.mp hn'.2).1 hz'.2.1 r1 hn'.1.1 hV.2.1 (by omega) (fun M2 hP => ?_)
    have l2 : M2.2 4 = M.2 4 ∧ M2.2 5 = M.2 5 ∧ M2.2 7 = M.2 7 := ⟨(hP.1.2 4 (by decide)).trans l1.1, (hP.1.2 5 (by decide)).trans l1.2.1, (hP.1.2 7 (by decide)).trans l1.2.2⟩
    refine ihs M2 q (ord + 1 + (bt_pre k).length) b (by rw [l2.1, l2.2.1, l2.2.2]; exact r6) (by rw [l2.1, l2.2.2]; exact hb) (List.nodup_append.mp hn'.2).2.1 hz'.2.2 hq hqn'.2.2 hP.2.1 (by omega) (fun M3 hP3 => ?_)
    exact hk M3 (mo_P_comp hR hn (fun _ => ⟨q, hq, hqn, rfl⟩) hV hP hP3)
