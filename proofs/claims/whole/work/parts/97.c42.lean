/-! the class lays every box as the reference, 2 (by hand: wip/whole/gen/c42.py) -/
theorem l1_w_C {M P : md_S} (h : ∀ a, a ∉ X_C → P.2 a = M.2 a) (i : Nat) : l1_w P i = l1_w M i := by
  unfold l1_w
  rw [h 12 (by decide), ws_same (h 9 (by decide)) (h 10 (by decide)) (h 11 (by decide))]
theorem l1_ws_C {M P : md_S} (h : ∀ a, a ∉ X_C → P.2 a = M.2 a) (t : bt) : l1_ws P t = l1_ws M t := by
  unfold l1_ws
  rw [show l1_w P = l1_w M from funext (l1_w_C h)]
theorem l1_N_C {M P : md_S} {w : Int32} {i W : Nat} {k : bt} (h : ∀ a, a ∉ X_C → P.2 a = M.2 a) (h18 : M.2 12 i = 4 → P.2 18 i = M.2 18 i) (hN : l1_N w M i k W) : l1_N w P i k W := by
  obtain ⟨n1, n2, n3, n4⟩ := hN
  have h9 := h 9 (by decide)
  have h12 := h 12 (by decide)
  have hbx : f_boxy P i ↔ f_boxy M i := by
    unfold f_boxy f_isBox
    rw [h12]
  have he : ∀ a, f_edges P a = f_edges M a := fun a => by
    unfold f_edges
    rw [of_same h9, of_same h9]
  have hin : ∀ a, f_inner P a = f_inner M a := fun a => by
    unfold f_inner
    rw [h 17 (by decide), he]
  have ht : ∀ a b, f_told P a b = f_told M a b := fun a b => by
    unfold f_told
    rw [of_same h9]
  have hwv : f_wv P i k = f_wv M i k := by
    unfold f_wv f_wideOf
    rw [h12, h 13 (by decide), h 14 (by decide), hin, ht, he, of_same h9, ol_same h9 (h 10 (by decide)) (h 11 (by decide))]
  refine ⟨by rw [h 28 (by decide)]; exact n1, fun e => by rw [h 17 (by decide)]; exact n2 e, fun e q => ?_, fun h6 j r hr => ?_⟩
  · obtain ⟨m1, m2⟩ := n3 e (hbx.mp q)
    refine ⟨by rw [h 17 (by decide), hwv]; exact m1, fun c => ?_⟩
    rw [h12] at c
    have : f_hv P i = f_hv M i := by
      unfold f_hv
      rw [of_same h9]
    rw [this, h18 c]
    exact m2 c
  · rw [h12] at h6
    rw [ws_same h9 (h 10 (by decide)) (h 11 (by decide))] at hr
    rw [of_same h9]
    obtain ⟨b1, b2, b3, b4, b5⟩ := n4 h6 j r hr
    exact ⟨by rw [h 30 (by decide)]; exact b1, by rw [h 31 (by decide)]; exact b2, by rw [h 32 (by decide)]; exact b3, by rw [h 35 (by decide)]; exact b4, by rw [h 36 (by decide)]; exact b5⟩
theorem l1_F_C {M P : md_S} {w : Int32} (h : ∀ a, a ∉ X_C → P.2 a = M.2 a) : ∀ (t : bt) (W : Nat), (∀ x ∈ bt_pre t, M.2 12 x = 4 → P.2 18 x = M.2 18 x) → l1_F w M t W → l1_F w P t W := by
  intro t
  induction t with
  | leaf u => intro _ _ _; trivial
  | branch i k s ihk ihs =>
    intro W h18 hF
    obtain ⟨f1, f2, f3⟩ := hF
    refine ⟨l1_N_C h (h18 i (by simp [bt_pre])) f1, ?_, ?_⟩
    · rw [l1_w_C h]
      exact ihk _ (fun x hx => h18 x (by simp [bt_pre, hx])) f2
    · rw [l1_w_C h, l1_ws_C h]
      exact ihs _ (fun x hx => h18 x (by simp [bt_pre, hx])) f3
theorem iv_C {M P : md_S} (h : ∀ a, a ∉ X_C → P.2 a = M.2 a) {i : Nat} (hv : iv M i) : iv P i := by
  have h9 := h 9 (by decide)
  unfold iv rng by_ok at *
  rw [h 3 (by decide), h 4 (by decide), h 5 (by decide), h 8 (by decide), h 11 (by decide), of_same h9, of_same h9, of_same h9, of_same h9, of_same h9, of_same h9, of_same h9, of_same h9, of_same h9]
  exact hv
theorem mo_eq_C {M P : md_S} (h : ∀ a, a ∉ X_C → P.2 a = M.2 a) {i : Nat} (hi : i < 60) (he : mo_eq M i) : mo_eq P i := by
  have hat : ∀ j, mo_at M P j := fun j => ⟨by rw [h 12 (by decide)], by rw [h 13 (by decide)], by rw [h 14 (by decide)]⟩
  exact mo_eq_congr (h 3 (by decide)) (h 4 (by decide)) (h 9 (by decide)) hi (hat i) (fun _ => hat _) he
theorem HS.C {M P : md_S} {K : bt} {nn W : Nat} {wd : Int32} (hs : HS M K nn W wd) (h : ∀ a, a ∉ X_C → P.2 a = M.2 a) (h18 : ∀ x, M.2 12 x = 4 → P.2 18 x = M.2 18 x) : HS P K nn W wd := by
  obtain ⟨h1, h2, h3, h4, h5, h6, h7, h8⟩ := hs
  have h60 := h1.1
  refine ⟨⟨h60, fun i hi => ⟨iv_C h (h1.2 i hi).1, mo_eq_C h (by omega) (h1.2 i hi).2⟩⟩, by rw [h 4 (by decide), h 5 (by decide), h 7 (by decide)]; exact h2, h3, h4, ?_, l1_F_C h _ 0 (fun x _ => h18 x) h6, by rw [l1_ws_C h]; exact h7, h8⟩
  refine bt_all_mono (fun i k hx he c => ?_) h5
  rw [h 3 (by decide)] at c
  exact mg_eq_congr ⟨h 3 (by decide), h 4 (by decide), h 9 (by decide)⟩ (fun x hx' => ⟨by have := (h4 x).mpr (hx x hx'); omega, by rw [h 19 (by decide)], by rw [h 20 (by decide)]⟩) (he c)
section HS3
variable {P : md_S} {K : bt} {nn W : Nat} {wd : Int32}
theorem HS.dg (h : HS P K nn W wd) {i : Nat} : ∀ (t : bt) (p : Nat), inB P nn i p → bt_R (P.2 4) (P.2 5) (P.2 7) (nI p) t → bt_all (loc P nn wd W) t → dG P i t := by
  have h60 := h.1.1
  have hW := h.W
  intro t
  induction t with
  | leaf u => intro _ _ _ _; trivial
  | branch j k s ihk ihs =>
    intro p hb hR ha
    obtain ⟨r1, r2, r3, r4, r5, r6⟩ := hR
    obtain ⟨a1, a2, a3⟩ := ha
    have hj := a1.1
    obtain ⟨b1, b2, b3⟩ := hb.at h.1 hj r2
    refine ⟨⟨r1, b1, fun c => ?_⟩, fun c => ihk j (b3 ?_) r5 a2, ihs p hb r6 a3⟩
    · obtain ⟨l1, l2, l3, l4, l5, l6, l7, W0, l8, l9, l10⟩ := a1
      have e : l1_w P j = (ws_of P j).length := by
        unfold l1_w
        rw [if_pos c]
      refine ⟨W0, l8.1, fun q r hq => ?_, by omega⟩
      obtain ⟨d1, d2, d3, _⟩ := l8.2.2.2 c q r hq
      exact ⟨d1, d2, d3⟩
    · obtain ⟨c0, c4, c5, c6, c7⟩ := c
      rcases mo7_or (h.1.m hj) with m | m | m | m | m | m | m
      · exact absurd m c7
      · exact absurd c0 ((isBox_m r1).mpr (Or.inl m))
      · exact absurd c0 ((isBox_m r1).mpr (Or.inr m))
      · exact m
      · exact absurd m c4
      · exact absurd m c5
      · exact absurd m c6
theorem HS.dv (h : HS P K nn W wd) : ∀ (t : bt), bt_all (loc P nn wd W) t → bt_all (dV P) t := by
  intro t
  induction t with
  | leaf u => intro _; trivial
  | branch i k s ihk ihs =>
    intro ha
    obtain ⟨a1, a2, a3⟩ := ha
    refine ⟨⟨fun c => h.dg k i ⟨a1.1, a1.1, Or.inl ⟨rfl, Or.inl c⟩⟩ a1.2.1 a2, fun c => ?_⟩, ihk a2, ihs a3⟩
    have hb : inB P nn i i := ⟨a1.1, a1.1, Or.inl ⟨rfl, Or.inr c⟩⟩
    have key : ∀ t : bt, bt_R (P.2 4) (P.2 5) (P.2 7) (nI i) t → bt_all (loc P nn wd W) t → ∀ q ∈ bt_rt t, P.2 14 q.1 = nI i := by
      intro t
      induction t with
      | leaf u => intro _ _ q hq; cases hq
      | branch j k' s' _ ih =>
        intro hR hl q hq
        rw [bt_rt] at hq
        rcases List.mem_cons.mp hq with e | e
        · rw [e]
          exact (hb.at h.1 hl.1.1 hR.2.1).1
        · exact ih hR.2.2.2.2.2 hl.2.2 q e
    exact key k a1.2.1 a2
end HS3
theorem p2_18 : ∀ (t : bt) (M : md_S), (bt_pre t).Nodup → (∀ x ∈ bt_pre t, x < 60) → bt_all (dV M) t → ∀ n, ¬ M.2 12 n = 1 → ¬ M.2 12 n = 2 → (f_p2 t M).2 18 n = M.2 18 n := by
  intro t
  induction t with
  | leaf u => intro M _ _ _ n _ _; rfl
  | branch i k s ihk ihs =>
    intro M hn h60 hd n n1 n2
    obtain ⟨d1, d2, d3⟩ := hd
    have hn' := hn
    simp only [bt_pre, List.nodup_cons, List.mem_append, not_or] at hn'
    obtain ⟨⟨nk, ns⟩, hn2⟩ := hn'
    obtain ⟨hk1, hs1, hks⟩ := List.nodup_append.mp hn2
    have k60 : ∀ x ∈ bt_pre k, x < 60 := fun x hx => h60 x (by simp [bt_pre, hx])
    have s60 : ∀ x ∈ bt_pre s, x < 60 := fun x hx => h60 x (by simp [bt_pre, hx])
    obtain ⟨fs, ls⟩ := p2_laid s M hs1 s60 d3
    have dk : bt_all (dV (f_p2 s M)) k := bt_all_mono (fun _ _ _ => dV_same fs.1) d2
    obtain ⟨fk, lk⟩ := p2_laid k (f_p2 s M) hk1 k60 dk
    have e12 : (f_p2 k (f_p2 s M)).2 12 = M.2 12 := (fk.1 12 (by decide)).trans (fs.1 12 (by decide))
    have e1 := ihs M hs1 s60 d3 n n1 n2
    have e2 := ihk (f_p2 s M) hk1 k60 dk n (by rw [fs.1 12 (by decide)]; exact n1) (by rw [fs.1 12 (by decide)]; exact n2)
    have fi : FP (f_p2 k (f_p2 s M)) [i] (f_v2 (f_p2 k (f_p2 s M)) i k) := FP.v2 (dV_same fk.1 (dV_same fs.1 d1))
    show (f_v2 (f_p2 k (f_p2 s M)) i k).2 18 n = _
    by_cases c : n = i
    · subst c
      unfold f_v2
      rw [if_neg (by rw [e12]; exact n1), if_neg (by rw [e12]; exact n2), e2, e1]
    · rw [fi.2.1 n (by simpa using c), e2, e1]
theorem height_same {M P : md_S} (h9 : P.2 9 = M.2 9) (a b : Int32) : f_heightOf P a b = f_heightOf M a b := by
  unfold f_heightOf f_edges
  rw [of_same h9, of_same h9, of_same h9]
theorem laid_B {P : md_S} {i : Nat} {k : bt} (W : Nat) (hl : lB P i k) (h1 : P.2 12 i = 1) (hd : dG P i k) : ∃ G, laidB P G W i k := by
  obtain ⟨G, g1, g2, g3, g4, g5⟩ := hl (Or.inl h1)
  have ev : f_v2 G i k = f_layBlock_M G i k := by
    unfold f_v2
    rw [if_pos (by rw [g1 12 (by decide)]; exact h1)]
  rw [ev] at g3 g4 g5
  have er : ghB P G i k = lb_r G i k := by
    unfold ghB lb_r
    rw [lb_th_same (g1 12 (by decide))]
  have hFB : FB G i (lb_r G i k).2 := FB.lb k false (0, -1, 0, 1, 0) (lb_M0 G i) (dG_same g1 k hd) ⟨fun _ _ => rfl, fun _ _ => ⟨rfl, rfl⟩, fun _ _ => ⟨rfl, rfl⟩⟩
  refine ⟨G, g1, g2, ?_, fun n hn _ h14 => ?_, fun w n hw hn h30 h14 => ?_⟩
  · rw [g3, er]
    unfold f_layBlock_M
    rw [md_up2_at, height_same ((hFB.1 9 (by decide)).trans (g1 9 (by decide)))]
    rfl
  · rw [er]
    have := g4 n h14
    unfold f_layBlock_M at this
    rw [md_up2_ne _ (by decide), md_up2_ne _ (by decide)] at this
    exact this
  · rw [er]
    have := g5 w ⟨n, hn, h30, h14⟩
    unfold f_layBlock_M at this
    rw [md_up2_ne _ (by decide), md_up2_ne _ (by decide)] at this
    exact this
theorem laid_F {P : md_S} {i : Nat} {k : bt} (hl : lB P i k) (h2 : P.2 12 i = 2) : ∃ G, laidF P G i k := by
  obtain ⟨G, g1, g2, g3, g4, g5⟩ := hl (Or.inr h2)
  have ev : f_v2 G i k = f_layFlex_M G i k := by
    unfold f_v2
    rw [if_neg (by rw [g1 12 (by decide), h2]; decide), if_pos (by rw [g1 12 (by decide)]; exact h2)]
  rw [ev] at g3 g4 g5
  refine ⟨G, g1, g2, ?_, fun n hn _ h14 => ?_⟩
  · rw [g3]
    unfold f_layFlex_M
    rw [md_up2_at, height_same (((f_lf_X k 0 0 G).2 9 (by decide)).trans (g1 9 (by decide)))]
  · have := g4 n h14
    unfold f_layFlex_M at this
    rw [md_up2_ne _ (by decide), md_up2_ne _ (by decide)] at this
    exact this
theorem ht_pos {k : bt} : k = .leaf () ∨ 1 ≤ bt_ht k := by
  cases k with
  | leaf u => exact Or.inl rfl
  | branch j k s =>
    refine Or.inr ?_
    have : bt_ht k + 1 ≤ bt_ht (.branch j k s) := Nat.le_max_left _ _
    omega
theorem LE_all {xs : List Int32} {Kp : Nat → Prop} {A : cl_A} {P : md_S} {K : bt} {nn W : Nat} {wd : Int32} (h : HS P K nn W wd) : ∀ (t : bt), bt_all (loc P nn wd W) t → bt_all (lB P) t → bt_all (fun i k => P.2 3 i = 0 → mg_eq P i k) t → bt_all (fun j k => P.2 12 j = 1 ∨ P.2 12 j = 2 → LE xs Kp A P nn W j k) t := by
  have h60 := h.1.1
  have hW := h.W
  intro t
  induction t with
  | leaf u => intro _ _ _; trivial
  | branch i k s ihk ihs =>
    intro ha hb hm
    obtain ⟨a1, a2, a3⟩ := ha
    obtain ⟨b1, b2, b3⟩ := hb
    obtain ⟨m1, m2, m3⟩ := hm
    have hk := ihk a2 b2 m2
    refine ⟨fun c => ?_, hk, ihs a3 b3 m3⟩
    obtain ⟨l1, l2, l3, l4, l5, l6, l7, W0, l8, l9, l10⟩ := a1
    have hin : inB P nn i i := ⟨l1, l1, Or.inl ⟨rfl, c⟩⟩
    rcases c with c | c
    · obtain ⟨G, hG⟩ := laid_B W b1 c (h.dg k i hin l2 a2)
      exact LE_block h.sp h.cp h.wo (by omega) h60 l1 c l2 l3 l4 l5 l6 l7 l9 (by omega) (h.dr k i hin l2 l4) (fun e h8 he => h.cnF hin c h8 he k l2 a2 hk m2 (fun x hx => hx) (Nat.le_refl _)) hG
    · obtain ⟨G, hG⟩ := laid_F b1 c
      have hrw : ∀ e, P.2 8 i = nI e → e < 13 → rwF xs Kp A P nn W i e (21 + 12 * bt_ht k) k ∧ ∀ q ∈ bt_rt k, P.2 14 q.1 = nI i := fun e h8 he => h.rwF hin c h8 he k l2 a2 hk (Nat.le_refl _)
      have h14 : ∀ q ∈ bt_rt k, P.2 14 q.1 = nI i := (h.dv (.branch i k (.leaf ())) ⟨⟨l1, l2, l3, l4, l5, l6, l7, W0, l8, l9, l10⟩, a2, trivial⟩).1.2 c
      exact LE_flex h.sp h.wo h60 l1 c l2 l3 l4 l5 l6 l7 (by omega) h14 (fun e h8 he => (hrw e h8 he).1) ht_pos hG
/-- after f_p2 -/
theorem p2_HS {M : md_S} {K : bt} {nn W : Nat} {wd : Int32} (h : HS M K nn W wd) : HS (f_p2 (bt_root K) M) K nn W wd ∧ FP M (bt_pre (bt_root K)) (f_p2 (bt_root K) M) ∧ bt_all (lB (f_p2 (bt_root K) M)) (bt_root K) := by
  have h60 := h.1.1
  have hx : ∀ x ∈ bt_pre (bt_root K), x < 60 := fun x hx => by
    have := (h.2.2.2.1 x).mpr hx
    omega
  have hdv := h.dv (bt_root K) h.lc
  obtain ⟨p1, p2⟩ := p2_laid (bt_root K) M h.2.2.1 hx hdv
  refine ⟨h.C p1.1 (fun x c => p2_18 (bt_root K) M h.2.2.1 hx hdv x (by rw [c]; decide) (by rw [c]; decide)), p1, p2⟩
theorem LE_root {xs : List Int32} {Kp : Nat → Prop} {A : cl_A} {M : md_S} {K : bt} {nn W : Nat} {wd : Int32} (h : HS M K nn W wd) : LE xs Kp A (f_p2 (bt_root K) M) nn W 0 K := by
  obtain ⟨h1, h2, h3⟩ := p2_HS h
  have hn : 0 < nn := (h.2.2.2.1 0).mpr (by simp [bt_root, bt_pre])
  exact (LE_all h1 (bt_root K) h1.lc h3 h1.2.2.2.2.1).1 (mo_root h1.1 hn).1
