/-! the class: outer, following, a text in one line (by hand: wip/whole/gen/c8.py) -/
def bt_rt : bt → List (Nat × bt)
  | .leaf _ => []
  | .branch i k s => (i, k) :: bt_rt s
def bt_ht : bt → Nat
  | .leaf _ => 0
  | .branch _ k s => max (bt_ht k + 1) (bt_ht s)
theorem bt_all_rt {P : Nat → bt → Prop} : ∀ {t : bt}, bt_all P t → ∀ q ∈ bt_rt t, P q.1 q.2 := by
  intro t
  induction t with
  | leaf u => intro _ q hq; cases hq
  | branch i k s _ ihs =>
    intro h q hq
    rcases List.mem_cons.mp hq with rfl | hq
    · exact h.1
    · exact ihs h.2.2 q hq
theorem bt_rt_ht : ∀ {t : bt}, ∀ q ∈ bt_rt t, bt_ht q.2 + 1 ≤ bt_ht t := by
  intro t
  induction t with
  | leaf u => intro q hq; cases hq
  | branch i k s _ ihs =>
    intro q hq
    show _ ≤ max _ _
    rcases List.mem_cons.mp hq with rfl | hq
    · exact Nat.le_max_left _ _
    · exact Nat.le_trans (ihs q hq) (Nat.le_max_right _ _)
theorem bt_rt_R {pa fk nx : Nat → Int32} {p : Int32} : ∀ {t : bt}, bt_R pa fk nx p t → ∀ q ∈ bt_rt t, q.1 < 60 ∧ pa q.1 = p ∧ fk q.1 = bt_hd (-1) q.2 ∧ bt_R pa fk nx (nI q.1) q.2 := by
  intro t
  induction t with
  | leaf u => intro _ q hq; cases hq
  | branch i k s _ ihs =>
    intro h q hq
    rcases List.mem_cons.mp hq with rfl | hq
    · exact ⟨h.1, h.2.1, h.2.2.1, h.2.2.2.2.1⟩
    · exact ihs h.2.2.2.2.2 q hq
theorem bt_rt_pre : ∀ {t : bt}, ∀ q ∈ bt_rt t, ∀ x ∈ q.1 :: bt_pre q.2, x ∈ bt_pre t := by
  intro t
  induction t with
  | leaf u => intro q hq; cases hq
  | branch i k s _ ihs =>
    intro q hq x hx
    simp only [bt_pre, List.mem_cons, List.mem_append]
    rcases List.mem_cons.mp hq with rfl | hq
    · rcases List.mem_cons.mp hx with e | e
      · exact Or.inl e
      · exact Or.inr (Or.inl e)
    · exact Or.inr (Or.inr (ihs q hq x hx))
theorem mg_ch_rt {M : md_S} : ∀ (k : bt) (e : Int32 × Int32) (S : Nat → Prop), (∀ q ∈ bt_rt k, S q.1) → (e.1 = -1 ∧ e.2 = -1 ∨ ∃ a b, S a ∧ S b ∧ e = (nI a, nI b)) → (mg_ch M k e).1 = -1 ∧ (mg_ch M k e).2 = -1 ∨ ∃ a b, S a ∧ S b ∧ mg_ch M k e = (nI a, nI b) := by
  intro k
  induction k with
  | leaf u => intro e S _ h; exact h
  | branch j k s _ ihs =>
    intro e S hS h
    refine ihs _ S (fun q hq => hS q (List.mem_cons_of_mem _ hq)) ?_
    have hj : S j := hS (j, k) (List.mem_cons_self ..)
    by_cases c : f_of M (nI j) 0 = 3
    · have e1 : mg_st M j e = e := by simp [mg_st, c]
      rw [e1]
      exact h
    · rcases h with ⟨h1, h2⟩ | ⟨a, b, ha, hb, rfl⟩
      · exact Or.inr ⟨j, j, hj, hj, by simp [mg_st, c, h1]⟩
      · by_cases c2 : nI a = -1
        · exact Or.inr ⟨j, j, hj, hj, by simp [mg_st, c, c2]⟩
        · exact Or.inr ⟨a, j, ha, hj, by simp [mg_st, c, c2]⟩
/-- parents -/
def cl_P (M : md_S) (nn : Nat) : Prop := ∀ x, x < nn → (M.2 4 x = -1 ∧ x = 0 ∨ ¬ x = 0 ∧ ∃ p, p < nn ∧ M.2 4 x = nI p)
set_option maxHeartbeats 1000000 in
theorem vc95_0 {xs : List Int32} {K : Nat → Prop} {h0 : am_H} {d : Nat} {Q : Option Value → cl_A → cl_S → Prop} {A : cl_A} {S : cl_S} {x0 : Int32} {x1 : Int32}
    (k : cl_C xs K (d + 4) 90 [cl_rf A 5 x0, .int x1] A S (fun v A' N1 => A' = A ∧ N1.1 = S.1 ∧ ∃ y1, v = some (cl_rf A 5 y1) ∧ ((cl_n N1 x0) ∧ (((¬ y1 = -1) → cl_C xs K (d + 4) 95 [cl_rf A 5 y1, .int x1] A N1 (fun v A' N2 => A' = A ∧ N2.1 = N1.1 ∧ ∃ y2, v = some (.int y2) ∧ (Q (some (.int (f_more (N1.2.1 2200 (9 * x0.toNatClampNeg + 4)) y2))) A N2))) ∧ (¬ (¬ y1 = -1) → Q (some (.int (N1.2.1 2200 (9 * x0.toNatClampNeg + 4)))) A N1))))) :
    cl_wp xs K h0 (d + 4) Q I95 0 [some (cl_rf A 5 x0), some (.int x1), none, none] [] A S := by
  refine cl_aload_n (dd D95_ok 0 rfl) rfl ?_
  refine cl_iload_n (dd D95_ok 1 rfl) rfl ?_
  refine cl_calls (as := [cl_rf A 5 x0, .int x1]) (rest := []) (dd D95_ok 2 rfl) pl11_9 rfl (Nat.le_of_ble_eq_true rfl) ((k).mono ?_) rfl
  rintro v A N1 ⟨rfl, e1, y1, rfl, w1⟩
  refine cl_astore_n (dd D95_ok 3 rfl) (Nat.le_of_ble_eq_true rfl) ?_
  refine cl_aload_n (dd D95_ok 4 rfl) rfl ?_
  refine cl_getO (g := 22) (dd D95_ok 5 rfl) pl11_15 (by decide) (by decide) (by decide) rfl w1.1.l5 ?_
  refine cl_iconst (v := 4) (dd D95_ok 6 rfl) (by decide) ?_
  refine cl_hs (q := 4) (e := N1.2.1 2200 (9 * x0.toNatClampNeg + 4)) (dd D95_ok 7 rfl) w1.1.l22 (md_vl (by decide)) (by decide) rfl ?_
  refine cl_istore_n (dd D95_ok 8 rfl) (Nat.le_of_ble_eq_true rfl) ?_
  refine cl_aload_n (dd D95_ok 9 rfl) rfl ?_
  refine cl_ifnonnull (tgt := 21) (dd D95_ok 10 rfl) (by decide) (fun c1 => ?_) (fun c1 => ?_)
  · refine cl_iload_n (dd D95_ok 13 rfl) rfl ?_
    refine cl_aload_n (dd D95_ok 14 rfl) rfl ?_
    refine cl_iload_n (dd D95_ok 15 rfl) rfl ?_
    refine cl_calls (as := [cl_rf A 5 y1, .int x1]) (rest := [.int (N1.2.1 2200 (9 * x0.toNatClampNeg + 4))]) (dd D95_ok 16 rfl) pl11_21 rfl (Nat.le_of_ble_eq_true rfl) (((w1.2.1 c1)).mono ?_) rfl
    rintro v A N2 ⟨rfl, e2, y2, rfl, w2⟩
    refine cl_max (dd D95_ok 17 rfl) pl11_25 (Nat.le_of_ble_eq_true rfl) ?_
    rw [← f_more_lt]
    exact cl_iret (dd D95_ok 18 rfl) rfl w2
  · refine cl_iload_n (dd D95_ok 11 rfl) rfl ?_
    refine cl_goto (tgt := 30) (dd D95_ok 12 rfl) (by decide) ?_
    exact cl_iret (dd D95_ok 18 rfl) rfl (w1.2.2 c1)
theorem mg_outer {M : md_S} {i nn : Nat} {k : bt} {b : Int32} (hE : mg_eq M i k) (h60 : nn ≤ 60) (hk : ∀ q ∈ bt_rt k, q.1 < nn) : (if b = 0 then M.2 19 i else M.2 20 i) = if mg_jt M i k b = -1 then f_of M (nI i) 4 else f_more (f_of M (nI i) 4) (if b = 0 then M.2 19 (mg_jt M i k b).toNatClampNeg else M.2 20 (mg_jt M i k b).toNatClampNeg) := by
  have ok := mg_ch_rt (M := M) k (-1, -1) (fun x => x < nn) hk (Or.inl ⟨rfl, rfl⟩)
  rw [hE.1, hE.2]
  unfold mg_jt mg_top mg_bot
  have e12 : (mg_ch M k (-1, -1)).1 = -1 ↔ (mg_ch M k (-1, -1)).2 = -1 := by
    rcases ok with ⟨o1, o2⟩ | ⟨a, c, o1, o2, o3⟩
    · rw [o1, o2]
    · rw [o3]
      exact ⟨fun q => absurd q (nI_ne_m1 (by omega)), fun q => absurd q (nI_ne_m1 (by omega))⟩
  generalize (mg_ch M k (-1, -1)).1 = m1 at e12
  generalize (mg_ch M k (-1, -1)).2 = m2 at e12
  by_cases hb : b = 0
  · simp only [if_pos hb]
    by_cases c1 : f_joins M (nI i) = 0
    · simp only [if_pos c1, if_true]
    · simp only [if_neg c1]
      by_cases c2 : m1 = -1
      · simp only [if_pos c2, if_true]
      · simp only [if_neg c2]
        by_cases c3 : f_isBlock M m1 = 0
        · simp only [if_pos c3, if_true]
        · simp only [if_neg c3, if_neg c2]
  · simp only [if_neg hb]
    by_cases c1 : f_joins M (nI i) = 0
    · simp only [if_pos c1, if_true]
    · simp only [if_neg c1]
      by_cases c4 : f_of M (nI i) 3 = -1
      · simp only [c4, not_true, if_false]
        by_cases c2 : m2 = -1
        · rw [if_pos (e12.mpr c2)]
          simp only [if_pos c2, if_true]
        · rw [if_neg (fun q => c2 (e12.mp q))]
          simp only [if_neg c2]
          by_cases c3 : f_isBlock M m2 = 0
          · simp only [if_pos c3, if_true]
          · simp only [if_neg c3, if_neg c2]
      · simp only [c4, not_false_eq_true, if_true]
        split
        · rfl
        · split <;> rfl
/-- outer: a block's TOP or BOTTOM -/
def kk_outerP (xs : List Int32) (K : Nat → Prop) (A : cl_A) (S : cl_S) (M : md_S) (i : Nat) (k : bt) : Prop := M.2 3 i = 0 → ∀ (D : Nat) (b : Int32), 5 + bt_ht k ≤ D → ∀ Q', Q' (some (.int (if b = 0 then M.2 19 i else M.2 20 i))) A S → cl_C xs K D 95 [cl_rf A 5 (nI i), .int b] A S Q'
theorem kk_outer1 {xs : List Int32} {K : Nat → Prop} {A : cl_A} {S : cl_S} {M : md_S} {nn i : Nat} {k : bt} (hT : cl_T S M nn) (hP : cl_P M nn) (hi : i < nn) (hRk : bt_R (M.2 4) (M.2 5) (M.2 7) (nI i) k) (hfk : M.2 5 i = bt_hd (-1) k) (hk : ∀ x ∈ bt_pre k, x < nn) (hE : M.2 3 i = 0 → mg_eq M i k) (ihk : bt_all (kk_outerP xs K A S M) k) : kk_outerP xs K A S M i k := by
  intro h3 D b hD Q' hQ
  have h60 := hT.1
  have hkr : ∀ q ∈ bt_rt k, q.1 < nn := fun q hq => hk _ (bt_rt_pre q hq _ (List.mem_cons_self ..))
  rw [mg_outer (hE h3) h60 hkr] at hQ
  obtain ⟨e, rfl⟩ : ∃ e, D = (e + 4) + 1 := ⟨D - 5, by omega⟩
  refine cl_intro (ms95 xs) (Nat.le_of_ble_eq_true rfl) (fun h0 => vc95_0 ?_)
  refine kk_joined hT hi (hP i hi) hRk hfk hk _ ⟨rfl, rfl, _, rfl, hT.n hi, ?_⟩
  rw [hT.cl hi, hT.h4 hi]
  have hj : ¬ mg_jt M i k b = -1 → ∃ q ∈ bt_rt k, mg_jt M i k b = nI q.1 ∧ M.2 3 q.1 = 0 := by
    intro c
    have ok := mg_ch_rt (M := M) k (-1, -1) (fun x => ∃ q ∈ bt_rt k, x = q.1) (fun q hq => ⟨q, hq, rfl⟩) (Or.inl ⟨rfl, rfl⟩)
    unfold mg_jt at c ⊢
    have kd : ∀ a, a < 60 → ¬ f_isBlock M (nI a) = 0 → M.2 3 a = 0 := by
      intro a ha hb
      unfold f_isBlock at hb
      rw [nI_clamp (by omega)] at hb
      by_cases c0 : M.2 3 a = 0
      · exact c0
      · rw [if_pos c0] at hb
        exact absurd rfl hb
    by_cases c1 : f_joins M (nI i) = 0
    · rw [if_pos c1] at c; exact absurd rfl c
    · rw [if_neg c1] at c ⊢
      by_cases cb : b = 0
      · rw [if_pos cb] at c ⊢
        by_cases c2 : (mg_ch M k (-1, -1)).1 = -1
        · rw [if_pos c2] at c; exact absurd rfl c
        · rw [if_neg c2] at c ⊢
          by_cases c3 : f_isBlock M (mg_ch M k (-1, -1)).1 = 0
          · rw [if_pos c3] at c; exact absurd rfl c
          · rw [if_neg c3]
            rcases ok with ⟨o1, _⟩ | ⟨a, a2, ⟨q, hq, rfl⟩, _, o3⟩
            · exact absurd o1 c2
            · rw [o3] at c3 ⊢
              exact ⟨q, hq, rfl, kd _ (by have := hkr q hq; omega) c3⟩
      · rw [if_neg cb] at c ⊢
        by_cases c4 : f_of M (nI i) 3 = -1
        · rw [if_neg (fun q => q c4)] at c ⊢
          by_cases c2 : (mg_ch M k (-1, -1)).2 = -1
          · rw [if_pos c2] at c; exact absurd rfl c
          · rw [if_neg c2] at c ⊢
            by_cases c3 : f_isBlock M (mg_ch M k (-1, -1)).2 = 0
            · rw [if_pos c3] at c; exact absurd rfl c
            · rw [if_neg c3]
              rcases ok with ⟨_, o1⟩ | ⟨a, a2, _, ⟨q, hq, rfl⟩, o3⟩
              · exact absurd o1 c2
              · rw [o3] at c3 ⊢
                exact ⟨q, hq, rfl, kd _ (by have := hkr q hq; omega) c3⟩
        · rw [if_pos c4] at c
          exact absurd rfl c
  generalize mg_jt M i k b = m at hQ hj
  refine ⟨fun c => ?_, fun c => ?_⟩
  · rw [if_neg c] at hQ
    obtain ⟨q, hq, rfl, hq3⟩ := hj c
    have hq60 := hkr q hq
    rw [nI_clamp (by omega)] at hQ
    have hqh := bt_rt_ht q hq
    exact bt_all_rt ihk q hq hq3 (e + 4) b (by omega) _ ⟨rfl, rfl, _, rfl, hQ⟩
  · have c := Classical.not_not.mp c
    rw [if_pos c] at hQ
    exact hQ
theorem kk_outer {xs : List Int32} {K : Nat → Prop} {A : cl_A} {S : cl_S} {M : md_S} {nn : Nat} (hT : cl_T S M nn) (hP : cl_P M nn) : ∀ (t : bt) (p : Int32), bt_R (M.2 4) (M.2 5) (M.2 7) p t → (∀ x ∈ bt_pre t, x < nn) → bt_all (fun i k => M.2 3 i = 0 → mg_eq M i k) t → bt_all (kk_outerP xs K A S M) t := by
  intro t
  induction t with
  | leaf u => intro p _ _ _; trivial
  | branch i k s ihk ihs =>
    intro p hR hn hE
    have hi : i < nn := hn i (by simp [bt_pre])
    have hk : ∀ x ∈ bt_pre k, x < nn := fun x hx => hn x (by simp [bt_pre, hx])
    have ihk := ihk (nI i) hR.2.2.2.2.1 hk hE.2.1
    exact ⟨kk_outer1 hT hP hi hR.2.2.2.2.1 hR.2.2.1 hk hE.1 ihk, ihk, ihs p hR.2.2.2.2.2 (fun x hx => hn x (by simp [bt_pre, hx])) hE.2.2⟩
/-- what comes behind, among nodes below nn -/
def bhc (pa nx : Nat → Int32) (nn : Nat) (tp : Int32) (k r : Int32) : Prop :=
  ∀ P : Int32 → Int32 → Prop, P tp (-1) → (∀ i, i < nn → ¬ nI i = tp → ¬ nx i = -1 → P (nI i) (nx i)) → (∀ i r, i < nn → ¬ nI i = tp → nx i = -1 → P (pa i) r → P (nI i) r) → P k r
theorem bhc_top {pa nx : Nat → Int32} {nn : Nat} {tp : Int32} : bhc pa nx nn tp tp (-1) := fun _ h _ _ => h
theorem bhc_sib {pa fk nx : Nat → Int32} {nn : Nat} {tp b p : Int32} {i : Nat} {k s : bt} (hR : bt_R pa fk nx p (.branch i k s)) (hin : i < nn) (hi : ¬ nI i = tp) (hb : bhc pa nx nn tp p b) : bhc pa nx nn tp (nI i) (bt_hd b s) := by
  obtain ⟨h1, h2, _, h4, _, h6⟩ := hR
  rw [bt_hd_m1 h6]
  by_cases hs : bt_hd (-1) s = -1
  · rw [if_pos hs]
    exact fun P a b' c => c i b hin hi (h4.trans hs) (by rw [h2]; exact hb P a b' c)
  · rw [if_neg hs, ← h4]
    exact fun P a b' c => b' i hin hi (by rw [h4]; exact hs)
set_option maxHeartbeats 1000000 in
theorem vc96_0 {xs : List Int32} {K : Nat → Prop} {h0 : am_H} {d : Nat} {Q : Option Value → cl_A → cl_S → Prop} {A : cl_A} {S : cl_S} {x0 : Int32} {x1 : Int32}
    (k : (cl_n S x0) ∧ (((¬ (S.2.1 509 x0.toNatClampNeg) = 1) → cl_wp xs K h0 d Q I96 22 [some (cl_rf A 5 x0), some (cl_rf A 5 x1), some (cl_rf A 5 x0)] [] A S) ∧ (¬ (¬ (S.2.1 509 x0.toNatClampNeg) = 1) → (((S.2.1 505 x0.toNatClampNeg) = -1) → cl_wp xs K h0 d Q I96 22 [some (cl_rf A 5 x0), some (cl_rf A 5 x1), some (cl_rf A 5 x0)] [] A S) ∧ (¬ ((S.2.1 505 x0.toNatClampNeg) = -1) → Q (some (cl_rf A 5 (S.2.1 505 x0.toNatClampNeg))) A S)))) :
    cl_wp xs K h0 d Q I96 0 [some (cl_rf A 5 x0), some (cl_rf A 5 x1), none] [] A S := by
  refine cl_aload_n (dd D96_ok 0 rfl) rfl ?_
  refine cl_gI (g := 509) (e := S.2.1 509 x0.toNatClampNeg) (dd D96_ok 1 rfl) pl3_60 (by decide) (by decide) (by decide) rfl rfl k.1.l5 rfl ?_
  refine cl_iconst (v := 1) (dd D96_ok 2 rfl) (by decide) ?_
  refine cl_icmp_ne (tgt := 20) (dd D96_ok 3 rfl) (by decide) (fun c1 => ?_) (fun c1 => ?_)
  · refine cl_aload_n (dd D96_ok 10 rfl) rfl ?_
    refine cl_astore_n (dd D96_ok 11 rfl) (Nat.le_of_ble_eq_true rfl) ?_
    exact (k.2.1 c1)
  · refine cl_aload_n (dd D96_ok 4 rfl) rfl ?_
    refine cl_gR (g := 505) (f := 5) (e := S.2.1 505 x0.toNatClampNeg) (dd D96_ok 5 rfl) pl3_78 (by decide) (by decide) (by decide) rfl rfl k.1.l5 rfl ?_
    refine cl_ifnull (tgt := 20) (dd D96_ok 6 rfl) (by decide) (fun c2 => ?_) (fun c2 => ?_)
    · refine cl_aload_n (dd D96_ok 10 rfl) rfl ?_
      refine cl_astore_n (dd D96_ok 11 rfl) (Nat.le_of_ble_eq_true rfl) ?_
      exact ((k.2.2 c1).1 c2)
    · refine cl_aload_n (dd D96_ok 7 rfl) rfl ?_
      refine cl_gR (g := 505) (f := 5) (e := S.2.1 505 x0.toNatClampNeg) (dd D96_ok 8 rfl) pl3_78 (by decide) (by decide) (by decide) rfl rfl k.1.l5 rfl ?_
      exact cl_aret (dd D96_ok 9 rfl) ⟨_, rfl⟩ ((k.2.2 c1).2 c2)
set_option maxHeartbeats 1000000 in
theorem vc96_22 {xs : List Int32} {K : Nat → Prop} {h0 : am_H} {d : Nat} {Q : Option Value → cl_A → cl_S → Prop} {A : cl_A} {S : cl_S} {x0 : Int32} {x1 : Int32} {x2 : Int32}
    (k : ((x2 = -1) → Q (some (cl_rf A 5 (-1))) A S) ∧ (¬ (x2 = -1) → (x2 = -1 ∨ cl_n S x2) ∧ ((x1 = -1 ∨ cl_n S x1) ∧ (((x2 = x1) → Q (some (cl_rf A 5 (-1))) A S) ∧ (¬ (x2 = x1) → (cl_n S x2) ∧ ((((S.2.1 507 x2.toNatClampNeg) = -1) → cl_wp xs K h0 d Q I96 22 [some (cl_rf A 5 x0), some (cl_rf A 5 x1), some (cl_rf A 5 (S.2.1 502 x2.toNatClampNeg))] [] A S) ∧ (¬ ((S.2.1 507 x2.toNatClampNeg) = -1) → Q (some (cl_rf A 5 (S.2.1 507 x2.toNatClampNeg))) A S))))))) :
    cl_wp xs K h0 d Q I96 22 [some (cl_rf A 5 x0), some (cl_rf A 5 x1), some (cl_rf A 5 x2)] [] A S := by
  refine cl_aload_n (dd D96_ok 12 rfl) rfl ?_
  refine cl_ifnull (tgt := 51) (dd D96_ok 13 rfl) (by decide) (fun c1 => ?_) (fun c1 => ?_)
  · refine cl_null (g := 5) (dd D96_ok 27 rfl) ?_
    exact cl_aret (dd D96_ok 28 rfl) ⟨_, rfl⟩ (k.1 c1)
  · refine cl_aload_n (dd D96_ok 14 rfl) rfl ?_
    refine cl_aload_n (dd D96_ok 15 rfl) rfl ?_
    refine cl_acmp_eq (tgt := 51) (dd D96_ok 16 rfl) (by decide) (k.2 c1).1 (k.2 c1).2.1 (fun c2 => ?_) (fun c2 => ?_)
    · refine cl_null (g := 5) (dd D96_ok 27 rfl) ?_
      exact cl_aret (dd D96_ok 28 rfl) ⟨_, rfl⟩ ((k.2 c1).2.2.1 c2)
    · refine cl_aload_n (dd D96_ok 17 rfl) rfl ?_
      refine cl_gR (g := 507) (f := 5) (e := S.2.1 507 x2.toNatClampNeg) (dd D96_ok 18 rfl) pl3_89 (by decide) (by decide) (by decide) rfl rfl ((k.2 c1).2.2.2 c2).1.l5 rfl ?_
      refine cl_ifnull (tgt := 43) (dd D96_ok 19 rfl) (by decide) (fun c3 => ?_) (fun c3 => ?_)
      · refine cl_aload_n (dd D96_ok 23 rfl) rfl ?_
        refine cl_gR (g := 502) (f := 5) (e := S.2.1 502 x2.toNatClampNeg) (dd D96_ok 24 rfl) pl3_222 (by decide) (by decide) (by decide) rfl rfl ((k.2 c1).2.2.2 c2).1.l5 rfl ?_
        refine cl_astore_n (dd D96_ok 25 rfl) (Nat.le_of_ble_eq_true rfl) ?_
        refine cl_goto (tgt := 22) (dd D96_ok 26 rfl) (by decide) ?_
        exact (((k.2 c1).2.2.2 c2).2.1 c3)
      · refine cl_aload_n (dd D96_ok 20 rfl) rfl ?_
        refine cl_gR (g := 507) (f := 5) (e := S.2.1 507 x2.toNatClampNeg) (dd D96_ok 21 rfl) pl3_89 (by decide) (by decide) (by decide) rfl rfl ((k.2 c1).2.2.2 c2).1.l5 rfl ?_
        exact cl_aret (dd D96_ok 22 rfl) ⟨_, rfl⟩ (((k.2 c1).2.2.2 c2).2.2 c3)
theorem kk_follow {xs : List Int32} {K : Nat → Prop} {d : Nat} {A : cl_A} {S : cl_S} {M : md_S} {nn i q : Nat} {r b : Int32} (hT : cl_T S M nn) (hi : i < nn) (hq : q < nn) (hb : bhc (M.2 4) (M.2 7) nn (nI q) (nI i) b) (hr : r = if S.2.1 509 i = 1 then (if M.2 5 i = -1 then b else M.2 5 i) else b) : ∀ Q', Q' (some (cl_rf A 5 r)) A S → cl_C xs K (d + 1) 96 [cl_rf A 5 (nI i), cl_rf A 5 (nI q)] A S Q' := by
  intro Q' hQ
  have h60 := hT.1
  refine cl_intro (ms96 xs) (Nat.le_of_ble_eq_true rfl) (fun h0 => vc96_0 ⟨hT.n hi, ?_⟩)
  rw [hT.cl hi, hT.fk hi]
  have hgo : Q' (some (cl_rf A 5 b)) A S → cl_wp xs K h0 d Q' I96 22 [some (cl_rf A 5 (nI i)), some (cl_rf A 5 (nI q)), some (cl_rf A 5 (nI i))] [] A S := by
    refine hb (fun k r => Q' (some (cl_rf A 5 r)) A S → cl_wp xs K h0 d Q' I96 22 [some (cl_rf A 5 (nI i)), some (cl_rf A 5 (nI q)), some (cl_rf A 5 k)] [] A S) ?_ ?_ ?_
    · intro hQ
      exact vc96_22 ⟨fun _ => hQ, fun _ => ⟨Or.inr (hT.n hq), Or.inr (hT.n hq), fun _ => hQ, fun c => absurd rfl c⟩⟩
    · intro j hj ht hn hQ
      refine vc96_22 ⟨fun c => absurd c (nI_ne_m1 (by omega)), fun _ => ⟨Or.inr (hT.n hj), Or.inr (hT.n hq), fun c => absurd c ht, fun _ => ⟨hT.n hj, ?_⟩⟩⟩
      rw [hT.cl hj, hT.nx hj]
      exact ⟨fun c => absurd c hn, fun _ => hQ⟩
    · intro j r hj ht hn ih hQ
      refine vc96_22 ⟨fun c => absurd c (nI_ne_m1 (by omega)), fun _ => ⟨Or.inr (hT.n hj), Or.inr (hT.n hq), fun c => absurd c ht, fun _ => ⟨hT.n hj, ?_⟩⟩⟩
      rw [hT.cl hj, hT.nx hj, hT.par hj]
      exact ⟨fun _ => ih hQ, fun c => absurd hn c⟩
  refine ⟨fun c => ?_, fun c => ⟨fun c2 => ?_, fun c2 => ?_⟩⟩
  · rw [hr, if_neg c] at hQ
    exact hgo hQ
  · rw [hr, if_pos (Classical.not_not.mp c), if_pos c2] at hQ
    exact hgo hQ
  · rw [hr, if_pos (Classical.not_not.mp c), if_neg c2] at hQ
    exact hQ
