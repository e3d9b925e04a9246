/-! the reference: what holds before its boxes are laid; absolute places (by hand: wip/whole/gen/c43.py) -/
theorem nodup_sub : ∀ (l l' : List Nat), l.Nodup → (∀ x ∈ l, x ∈ l') → l.length ≤ l'.length := by
  intro l
  induction l with
  | nil => intro _ _ _; exact Nat.zero_le _
  | cons a l ih =>
    intro l' hd h
    obtain ⟨h1, h2⟩ := List.nodup_cons.mp hd
    have ha := h a (by simp)
    have h3 := ih (l'.erase a) h2 (fun x hx => (List.mem_erase_of_ne (fun e => h1 (by rw [← e]; exact hx))).mpr (h x (by simp [hx])))
    rw [List.length_erase_of_mem ha] at h3
    have : 0 < l'.length := List.length_pos_of_mem ha
    rw [List.length_cons]
    omega
theorem md_N_iff {M : md_S} {K : bt} {nn : Nat} (h : md_N M K nn) (i : Nat) : i < nn ↔ i ∈ bt_pre (bt_root K) := by
  obtain ⟨h1, ⟨h2, h3, h4, h5⟩, h6⟩ := h
  refine ⟨h6 i, fun hi => ?_⟩
  rcases Nat.lt_or_ge i nn with c | c
  · exact c
  · have := nodup_sub (i :: List.range nn) (bt_pre (bt_root K)) (List.nodup_cons.mpr ⟨fun q => by have := List.mem_range.mp q; omega, List.nodup_range⟩) (fun x hx => by
      rcases List.mem_cons.mp hx with e | e
      · rw [e]; exact hi
      · exact h6 x (List.mem_range.mp e))
    have h4' : (bt_pre (bt_root K)).length = nn := h4
    rw [List.length_cons, List.length_range, h4'] at this
    omega
theorem iv_of {M P : md_S} (h3 : P.2 3 = M.2 3) (h4 : P.2 4 = M.2 4) (h5 : P.2 5 = M.2 5) (h8 : P.2 8 = M.2 8) (h9 : P.2 9 = M.2 9) (h11 : P.2 11 = M.2 11) {i : Nat} (hv : iv M i) : iv P i := by
  unfold iv rng by_ok at *
  rw [h3, h4, h5, h8, h11, of_same h9, of_same h9, of_same h9, of_same h9, of_same h9, of_same h9, of_same h9, of_same h9, of_same h9]
  exact hv
/-- the reference's tree between calls -/
def IV (M : md_S) (K : bt) (nn : Nat) : Prop := md_N M K nn ∧ ∀ i, i < nn → iv M i
theorem HS_of {M M1 M2 : md_S} {K : bt} {nn W : Nat} {w : Int32} (h : IV M K nn) (h1 : mo_F M M1 K nn) (h2 : l1_P w (md_up1 M1 29 0) M2 (bt_root K) 0) (hW : W = l1_ws M2 (bt_root K)) (hw : lay_ok w) : HS M2 K nn W w := by
  have hiff := md_N_iff h.1
  obtain ⟨⟨n1, ⟨n2, n3, n4, n5⟩, n6⟩, hv⟩ := h
  obtain ⟨x1, _, _, m1, m2⟩ := h1
  obtain ⟨x2, _, _, _, hF⟩ := h2
  have e : ∀ a, a ∉ [12, 13, 14, 19, 20, 21, 17, 18, 28, 30, 31, 32, 35, 36] → M2.2 a = M.2 a := by
    intro a ha
    rw [x2.2 a (fun c => ha ((show ∀ a ∈ X_E, a ∈ [12, 13, 14, 19, 20, 21, 17, 18, 28, 30, 31, 32, 35, 36] by decide) a c))]
    exact x1.2 a (fun c => ha ((show ∀ a ∈ [12, 13, 14, 19, 20, 21], a ∈ [12, 13, 14, 19, 20, 21, 17, 18, 28, 30, 31, 32, 35, 36] by decide) a c))
  refine ⟨⟨n5, fun i hi => ⟨iv_of (e 3 (by decide)) (e 4 (by decide)) (e 5 (by decide)) (e 8 (by decide)) (e 9 (by decide)) (e 11 (by decide)) (hv i hi), ?_⟩⟩, ?_, n3, hiff, ?_, hF, hW, hw⟩
  · refine mo_eq_E x2 (by omega) ?_
    exact m1 i ((hiff i).mp hi)
  · rw [e 4 (by decide), e 5 (by decide), e 7 (by decide)]
    exact n2
  · refine bt_all_mono (fun i k hx he c => ?_) m2
    rw [x2.2 3 (by decide)] at c
    exact mg_eq_congr (M := M1) (M' := M2) ⟨x2.2 3 (by decide), x2.2 4 (by decide), x2.2 9 (by decide)⟩ (fun x hx' => ⟨by have := (hiff x).mpr (hx x hx'); omega, by rw [x2.2 19 (by decide)]; rfl, by rw [x2.2 20 (by decide)]; rfl⟩) (he c)
/-- the boxes of a forest whose box is b -/
def b14 (P : md_S) : Nat → bt → Prop
  | _, .leaf _ => True
  | b, .branch n k s => P.2 14 n = nI b ∧ b14 P (if f_isBox P (nI n) = 0 then b else n) k ∧ b14 P b s
theorem NS.b14 {P : md_S} {nn : Nat} (h : NS P nn) : ∀ (t : bt) (p b : Nat), p < nn → (f_isBox P (nI p) = 0 ∧ P.2 14 p = nI b ∨ ¬ f_isBox P (nI p) = 0 ∧ b = p) → bt_R (P.2 4) (P.2 5) (P.2 7) (nI p) t → (∀ x ∈ bt_pre t, x < nn) → b14 P b t := by
  intro t
  induction t with
  | leaf u => intro _ _ _ _ _ _; trivial
  | branch n k s ihk ihs =>
    intro p b hp hb hR hx
    obtain ⟨r1, r2, r3, r4, r5, r6⟩ := hR
    have hn := hx n (by simp [bt_pre])
    have e14 : P.2 14 n = nI b := by
      have := (h.kid hn hp r2).2.2.2.2.2.1
      rcases hb with ⟨c, e⟩ | ⟨c, e⟩
      · rw [if_pos c] at this
        exact this.trans e
      · rw [if_neg c, ← e] at this
        exact this
    refine ⟨e14, ihk n _ hn ?_ r5 (fun x hx' => hx x (by simp [bt_pre, hx'])), ihs p b hp hb r6 (fun x hx' => hx x (by simp [bt_pre, hx']))⟩
    by_cases c : f_isBox P (nI n) = 0
    · rw [if_pos c]
      exact Or.inl ⟨c, e14⟩
    · rw [if_neg c]
      exact Or.inr ⟨c, rfl⟩
/-- the absolute places of a forest -/
def ab_F (P N : md_S) : bt → Int32 → Int32 → Prop
  | .leaf _, _, _ => True
  | .branch n k s, ox, oy => (f_boxy P n → N.2 23 n = 1 ∧ N.2 24 n = P.2 15 n + ox ∧ N.2 25 n = P.2 16 n + oy ∧ N.2 26 n = P.2 17 n ∧ N.2 27 n = P.2 18 n) ∧ (¬ f_boxy P n → N.2 23 n = 0) ∧ (∀ b, b < 60 → P.2 14 n = nI b → ox = N.2 15 b + f_edges P (nI b) ∧ oy = N.2 16 b + f_edges P (nI b)) ∧ ab_F P N k (if f_isBox P (nI n) = 0 then ox else P.2 15 n + ox + f_edges P (nI n)) (if f_isBox P (nI n) = 0 then oy else P.2 16 n + oy + f_edges P (nI n)) ∧ ab_F P N s ox oy
theorem md_up2_off2 {M : md_S} {f g i j : Nat} {v : Int32} (h : ¬ j = i) : (md_up2 M f i v).2 g j = M.2 g j := by
  by_cases c : g = f
  · rw [c, md_up2_off _ _ h]
  · rw [md_up2_ne _ c]
theorem ba_off {n m : Nat} (M : md_S) (h : ¬ m = n) : ∀ a ∈ X_D, (f_ba M n).2 a m = M.2 a m := by
  intro a ha
  have e1 : ∀ M', (f_bk M' n).2 a m = M'.2 a m := fun M' => by
    unfold f_bk
    rw [md_up2_off2 h, md_up2_off2 h, md_up2_off2 h, md_up2_off2 h, md_up2_off2 h]
  have e2 : (f_bp M n).2 a m = M.2 a m := by
    unfold f_bp
    rw [md_up2_off2 h, md_up2_off2 h]
  unfold f_ba
  split
  · rw [e1]
    split
    · rfl
    · exact e2
  · rfl
theorem bas_off : ∀ (l : List Nat) (M : md_S) (m : Nat), m ∉ l → ∀ a ∈ X_D, (l.foldl f_ba M).2 a m = M.2 a m := by
  intro l
  induction l with
  | nil => intro M m _ a _; rfl
  | cons n l ih =>
    intro M m hm a ha
    rw [List.foldl_cons, ih _ m (fun q => hm (by simp [q])) a ha]
    exact ba_off M (fun q => hm (by simp [q])) a ha
theorem ab_F.mv {P N N' : md_S} : ∀ {t : bt} {ox oy : Int32}, (∀ x ∈ bt_pre t, ∀ a ∈ X_D, N'.2 a x = N.2 a x) → (∀ x ∈ bt_pre t, ∀ b, b < 60 → P.2 14 x = nI b → N'.2 15 b = N.2 15 b ∧ N'.2 16 b = N.2 16 b) → ab_F P N t ox oy → ab_F P N' t ox oy := by
  intro t
  induction t with
  | leaf u => intro _ _ _ _ _; trivial
  | branch n k s ihk ihs =>
    intro ox oy h hb ha
    obtain ⟨a1, a2, a3, a4, a5⟩ := ha
    have hn := h n (by simp [bt_pre])
    refine ⟨fun c => ?_, fun c => ?_, fun b hb' e => ?_, ihk (fun x hx => h x (by simp [bt_pre, hx])) (fun x hx => hb x (by simp [bt_pre, hx])) a4, ihs (fun x hx => h x (by simp [bt_pre, hx])) (fun x hx => hb x (by simp [bt_pre, hx])) a5⟩
    · rw [hn 23 (by decide), hn 24 (by decide), hn 25 (by decide), hn 26 (by decide), hn 27 (by decide)]
      exact a1 c
    · rw [hn 23 (by decide)]
      exact a2 c
    · rw [(hb n (by simp [bt_pre]) b hb' e).1, (hb n (by simp [bt_pre]) b hb' e).2]
      exact a3 b hb' e
theorem b14_in {P : md_S} : ∀ (t : bt) (b : Nat), b14 P b t → ∀ x ∈ bt_pre t, ∃ c, P.2 14 x = nI c ∧ (c = b ∨ c ∈ bt_pre t) := by
  intro t
  induction t with
  | leaf u => intro _ _ x hx; cases hx
  | branch n k s ihk ihs =>
    intro b h x hx
    obtain ⟨h1, h2, h3⟩ := h
    simp only [bt_pre, List.mem_cons, List.mem_append] at hx ⊢
    rcases hx with e | e | e
    · exact ⟨b, by rw [e]; exact h1, Or.inl rfl⟩
    · obtain ⟨c, c1, c2⟩ := ihk _ h2 x e
      refine ⟨c, c1, ?_⟩
      rcases c2 with c2 | c2
      · split at c2
        · exact Or.inl c2
        · exact Or.inr (Or.inl c2)
      · exact Or.inr (Or.inr (Or.inl c2))
    · obtain ⟨c, c1, c2⟩ := ihs _ h3 x e
      refine ⟨c, c1, ?_⟩
      rcases c2 with c2 | c2
      · exact Or.inl c2
      · exact Or.inr (Or.inr (Or.inr c2))
theorem boxy_same {M P : md_S} (h : P.2 12 = M.2 12) (n : Nat) : f_boxy P n ↔ f_boxy M n := by
  unfold f_boxy f_isBox
  rw [h]
theorem edges_same {M P : md_S} (h : P.2 9 = M.2 9) (a : Int32) : f_edges P a = f_edges M a := by
  unfold f_edges
  rw [of_same h, of_same h]
theorem ba_all {P : md_S} : ∀ (t : bt) (M : md_S) (b : Nat) (ox oy : Int32), (∀ a, a ∉ X_D → M.2 a = P.2 a) → (∀ x ∈ bt_pre t, x < 60 ∧ ¬ x = 0 ∧ M.2 15 x = P.2 15 x ∧ M.2 16 x = P.2 16 x ∧ M.2 23 x = 0) → (bt_pre t).Nodup → b < 60 → b ∉ bt_pre t → b14 P b t → ox = M.2 15 b + f_edges P (nI b) → oy = M.2 16 b + f_edges P (nI b) → ab_F P ((bt_pre t).foldl f_ba M) t ox oy := by
  intro t
  induction t with
  | leaf u => intro _ _ _ _ _ _ _ _ _ _ _ _; trivial
  | branch n k s ihk ihs =>
    intro M b ox oy hM hx hn hb hbt h14 eox eoy
    obtain ⟨g1, g2, g3⟩ := h14
    obtain ⟨x1, x2, x3, x4, x5⟩ := hx n (by simp [bt_pre])
    simp only [bt_pre, List.nodup_cons, List.mem_append, not_or] at hn
    obtain ⟨⟨nk, ns⟩, hn2⟩ := hn
    obtain ⟨hk1, hs1, hks⟩ := List.nodup_append.mp hn2
    simp only [bt_pre, List.mem_cons, List.mem_append, not_or] at hbt
    obtain ⟨b1, b2, b3⟩ := hbt
    have e12 := hM 12 (by decide)
    have cb : (nI b).toNatClampNeg = b := nI_clamp (by omega)
    have m14 : M.2 14 n = nI b := by rw [hM 14 (by decide)]; exact g1
    -- n itself
    have v15 : f_boxy P n → (f_ba M n).2 23 n = 1 ∧ (f_ba M n).2 24 n = P.2 15 n + ox ∧ (f_ba M n).2 25 n = P.2 16 n + oy ∧ (f_ba M n).2 26 n = P.2 17 n ∧ (f_ba M n).2 27 n = P.2 18 n ∧ (f_ba M n).2 15 n = P.2 15 n + ox ∧ (f_ba M n).2 16 n = P.2 16 n + oy := by
      intro c
      have p15 : (f_bp M n).2 15 n = P.2 15 n + ox := by
        unfold f_bp
        rw [md_up2_ne _ (by decide), md_up2_at, x3, m14, cb, eox, edges_same (hM 9 (by decide))]
      have p16 : (f_bp M n).2 16 n = P.2 16 n + oy := by
        unfold f_bp
        rw [md_up2_at, x4, m14, cb, eoy, edges_same (hM 9 (by decide))]
      have p17 : (f_bp M n).2 17 = P.2 17 := by
        unfold f_bp
        rw [md_up2_ne _ (by decide), md_up2_ne _ (by decide)]
        exact hM 17 (by decide)
      have p18 : (f_bp M n).2 18 = P.2 18 := by
        unfold f_bp
        rw [md_up2_ne _ (by decide), md_up2_ne _ (by decide)]
        exact hM 18 (by decide)
      unfold f_ba
      rw [if_pos ((boxy_same e12 n).mpr c), if_neg x2]
      generalize f_bp M n = N at p15 p16 p17 p18
      unfold f_bk
      refine ⟨?_, ?_, ?_, ?_, ?_, ?_, ?_⟩
      · rw [md_up2_ne _ (by decide), md_up2_ne _ (by decide), md_up2_ne _ (by decide), md_up2_ne _ (by decide), md_up2_at]
      · rw [md_up2_ne _ (by decide), md_up2_ne _ (by decide), md_up2_ne _ (by decide), md_up2_at]; exact p15
      · rw [md_up2_ne _ (by decide), md_up2_ne _ (by decide), md_up2_at]; exact p16
      · rw [md_up2_ne _ (by decide), md_up2_at, p17]
      · rw [md_up2_at, p18]
      · rw [md_up2_ne _ (by decide), md_up2_ne _ (by decide), md_up2_ne _ (by decide), md_up2_ne _ (by decide), md_up2_ne _ (by decide)]; exact p15
      · rw [md_up2_ne _ (by decide), md_up2_ne _ (by decide), md_up2_ne _ (by decide), md_up2_ne _ (by decide), md_up2_ne _ (by decide)]; exact p16
    have v23 : ¬ f_boxy P n → (f_ba M n).2 23 n = 0 := by
      intro c
      unfold f_ba
      rw [if_neg (fun q => c ((boxy_same e12 n).mp q))]
      exact x5
    have X1 := f_ba_X M n
    have of1 := fun m (h : ¬ m = n) => ba_off M h
    generalize hM1 : f_ba M n = M1 at v15 v23 X1 of1
    have hM1' : ∀ a, a ∉ X_D → M1.2 a = P.2 a := fun a ha => (X1.2 a ha).trans (hM a ha)
    have kx : ∀ x ∈ bt_pre k, x < 60 ∧ ¬ x = 0 ∧ M1.2 15 x = P.2 15 x ∧ M1.2 16 x = P.2 16 x ∧ M1.2 23 x = 0 := fun x hx' => by
      have hne : ¬ x = n := fun e => nk (by rw [← e]; exact hx')
      obtain ⟨y1, y2, y3, y4, y5⟩ := hx x (by simp [bt_pre, hx'])
      rw [of1 x hne 15 (by decide), of1 x hne 16 (by decide), of1 x hne 23 (by decide)]
      exact ⟨y1, y2, y3, y4, y5⟩
    have hK := ihk M1 (if f_isBox P (nI n) = 0 then b else n) (if f_isBox P (nI n) = 0 then ox else P.2 15 n + ox + f_edges P (nI n)) (if f_isBox P (nI n) = 0 then oy else P.2 16 n + oy + f_edges P (nI n)) hM1' kx hk1 (by split <;> omega) (by split <;> assumption) g2 (by
      by_cases c : f_isBox P (nI n) = 0
      · rw [if_pos c, if_pos c, of1 b b1 15 (by decide)]; exact eox
      · rw [if_neg c, if_neg c, (v15 (Or.inl c)).2.2.2.2.2.1]) (by
      by_cases c : f_isBox P (nI n) = 0
      · rw [if_pos c, if_pos c, of1 b b1 16 (by decide)]; exact eoy
      · rw [if_neg c, if_neg c, (v15 (Or.inl c)).2.2.2.2.2.2])
    have X2 := f_bas_X (bt_pre k) M1
    have of2 := bas_off (bt_pre k) M1
    generalize hM2 : (bt_pre k).foldl f_ba M1 = M2 at hK X2 of2
    have hM2' : ∀ a, a ∉ X_D → M2.2 a = P.2 a := fun a ha => (X2.2 a ha).trans (hM1' a ha)
    have sx : ∀ x ∈ bt_pre s, x < 60 ∧ ¬ x = 0 ∧ M2.2 15 x = P.2 15 x ∧ M2.2 16 x = P.2 16 x ∧ M2.2 23 x = 0 := fun x hx' => by
      have hne : ¬ x = n := fun e => ns (by rw [← e]; exact hx')
      have hnk : x ∉ bt_pre k := fun q => hks x q x hx' rfl
      obtain ⟨y1, y2, y3, y4, y5⟩ := hx x (by simp [bt_pre, hx'])
      rw [of2 x hnk 15 (by decide), of2 x hnk 16 (by decide), of2 x hnk 23 (by decide), of1 x hne 15 (by decide), of1 x hne 16 (by decide), of1 x hne 23 (by decide)]
      exact ⟨y1, y2, y3, y4, y5⟩
    have e15 : M2.2 15 b = M.2 15 b := (of2 b b2 15 (by decide)).trans (of1 b b1 15 (by decide))
    have e16 : M2.2 16 b = M.2 16 b := (of2 b b2 16 (by decide)).trans (of1 b b1 16 (by decide))
    have hS := ihs M2 b ox oy hM2' sx hs1 hb b3 g3 (by rw [e15]; exact eox) (by rw [e16]; exact eoy)
    have of3 := bas_off (bt_pre s) M2
    have hfold : (bt_pre (.branch n k s)).foldl f_ba M = (bt_pre s).foldl f_ba M2 := by
      rw [bt_pre, List.foldl_cons, List.foldl_append, hM1, hM2]
    rw [hfold]
    generalize (bt_pre s).foldl f_ba M2 = N at hS of3
    have ofn : ∀ a ∈ X_D, N.2 a n = M1.2 a n := fun a ha => (of3 n ns a ha).trans (of2 n nk a ha)
    refine ⟨fun c => ?_, fun c => ?_, fun b' hb' e => ?_, ?_, hS⟩
    · rw [ofn 23 (by decide), ofn 24 (by decide), ofn 25 (by decide), ofn 26 (by decide), ofn 27 (by decide)]
      obtain ⟨w1, w2, w3, w4, w5, _⟩ := v15 c
      exact ⟨w1, w2, w3, w4, w5⟩
    · rw [ofn 23 (by decide)]
      exact v23 c
    · have : b' = b := nI_inj60 hb' hb (e.symm.trans g1)
      subst this
      rw [of3 b' b3 15 (by decide), of3 b' b3 16 (by decide), e15, e16]
      exact ⟨eox, eoy⟩
    · refine ab_F.mv (fun x hx' a ha => of3 x (fun q => hks x hx' x q rfl) a ha) (fun x hx' c hc e => ?_) hK
      obtain ⟨c', c1, c2⟩ := b14_in k _ g2 x hx'
      have hcs : c ∉ bt_pre s := by
        have c60 : c' < 60 := by
          rcases c2 with c2 | c2
          · rw [c2]; split <;> omega
          · exact (kx c' c2).1
        have : c = c' := nI_inj60 hc c60 (e.symm.trans c1)
        subst this
        rcases c2 with c2 | c2
        · rw [c2]; split <;> assumption
        · exact fun q => hks c c2 c q rfl
      exact ⟨of3 c hcs 15 (by decide), of3 c hcs 16 (by decide)⟩
