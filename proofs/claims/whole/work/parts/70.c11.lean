/-! the class: chains grow (by hand: wip/whole/gen/c11.py) -/
/-- the last of a chain, or null -/
def lst (l : List Nat) : Int32 := match l.getLast? with
  | none => -1
  | some n => nI n
theorem lst_nil : lst [] = -1 := rfl
theorem lst_app (l : List Nat) (n : Nat) : lst (l ++ [n]) = nI n := by
  unfold lst
  rw [List.getLast?_append]
  rfl
theorem lst_ne {l : List Nat} (h : ¬ l = []) (hb : ∀ n ∈ l, n < 2 ^ 31) : ∃ m, m ∈ l ∧ l.getLast? = some m ∧ lst l = nI m ∧ ¬ lst l = -1 := by
  have e := List.getLast?_eq_some_getLast h
  have hm := List.getLast_mem h
  refine ⟨l.getLast h, hm, e, ?_, ?_⟩
  · unfold lst
    rw [e]
  · unfold lst
    rw [e]
    exact nI_ne_m1 (hb _ hm)
theorem lst_m1 {l : List Nat} (hb : ∀ n ∈ l, n < 2 ^ 31) : lst l = -1 ↔ l = [] := by
  refine ⟨fun h => ?_, fun h => by rw [h]; rfl⟩
  by_cases c : l = []
  · exact c
  · obtain ⟨m, _, _, _, h2⟩ := lst_ne c hb
    exact absurd h h2
theorem chn_m1 {nx : Nat → Int32} {l : List Nat} {x : Int32} (hb : ∀ n ∈ l, n < 2 ^ 31) (h : chn nx l x) : x = -1 ↔ l = [] := by
  cases l with
  | nil => exact ⟨fun _ => rfl, fun _ => h⟩
  | cons n l =>
    refine ⟨fun q => ?_, fun q => by cases q⟩
    have := h.1
    rw [q] at this
    exact absurd this.symm (nI_ne_m1 (hb n (by simp)))
theorem chn_add {nx nx' : Nat → Int32} {n : Nat} : ∀ (l : List Nat) (x : Int32) (m : Nat), l.getLast? = some m → l.Nodup → chn nx l x → nx' n = -1 → (∀ q ∈ l, ¬ q = m → nx' q = nx q) → nx' m = nI n → chn nx' (l ++ [n]) x := by
  intro l
  induction l with
  | nil => intro x m h; cases h
  | cons a l ih =>
    intro x m hm hd hc h1 h2 h3
    cases l with
    | nil =>
      have : m = a := by
        have := hm
        simp at this
        exact this.symm
      subst this
      exact ⟨hc.1, h3, h1⟩
    | cons b l =>
      have hm' : (b :: l).getLast? = some m := by
        rw [List.getLast?_cons_cons] at hm
        exact hm
      have hml : m ∈ b :: l := List.mem_of_getLast? hm'
      have ham : ¬ a = m := fun e => (List.nodup_cons.mp hd).1 (by rw [e]; exact hml)
      refine ⟨hc.1, ?_⟩
      rw [h2 a (by simp) ham]
      exact ih _ m hm' (List.nodup_cons.mp hd).2 hc.2 h1 (fun q hq hqm => h2 q (List.mem_cons_of_mem _ hq) hqm) h3
theorem cl_up_ne1 (S : cl_S) {g g' : Nat} (i j : Nat) (v : Int32) (h : ¬ g' = g) : (cl_up S g i v).2.1 g' j = S.2.1 g' j := cl_up_off S v (fun e => h e.1)
theorem cl_up_ne2 (S : cl_S) (g g' : Nat) {i j : Nat} (v : Int32) (h : ¬ j = i) : (cl_up S g i v).2.1 g' j = S.2.1 g' j := cl_up_off S v (fun e => h e.2)
set_option maxHeartbeats 1000000 in
theorem vc76_0 {xs : List Int32} {K : Nat → Prop} {h0 : am_H} {d : Nat} {Q : Option Value → cl_A → cl_S → Prop} {A : cl_A} {S : cl_S} {x0 : Int32} {x1 : Int32}
    (k : (cl_n S x1) ∧ ((cl_f S x0) ∧ (((¬ (S.2.1 103 x0.toNatClampNeg) = -1) → (cl_n S (S.2.1 103 x0.toNatClampNeg)) ∧ (Q none A (cl_up (cl_up (cl_up (cl_up (cl_up S 515 x1.toNatClampNeg (-1)) 515 (S.2.1 103 x0.toNatClampNeg).toNatClampNeg x1) 103 x0.toNatClampNeg x1) 104 x0.toNatClampNeg (f_more (S.2.1 104 x0.toNatClampNeg) (g_top S x1))) 105 x0.toNatClampNeg (f_more (S.2.1 105 x0.toNatClampNeg) (g_end S x1))))) ∧ (¬ (¬ (S.2.1 103 x0.toNatClampNeg) = -1) → Q none A (cl_up (cl_up (cl_up (cl_up (cl_up S 515 x1.toNatClampNeg (-1)) 102 x0.toNatClampNeg x1) 103 x0.toNatClampNeg x1) 104 x0.toNatClampNeg (f_more (S.2.1 104 x0.toNatClampNeg) (g_top S x1))) 105 x0.toNatClampNeg (f_more (S.2.1 105 x0.toNatClampNeg) (g_end S x1))))))) :
    cl_wp xs K h0 (d + 1) Q I76 0 [some (cl_rf A 1 x0), some (cl_rf A 5 x1)] [] A S := by
  refine cl_aload_n (dd D76_ok 0 rfl) rfl ?_
  refine cl_null (g := 5) (dd D76_ok 1 rfl) ?_
  refine cl_pR (g := 515) (f := 5) (dd D76_ok 2 rfl) pl1_31 (by decide) (by decide) rfl rfl rfl ⟨_, rfl⟩ rfl k.1.l5 ?_
  refine cl_aload_n (dd D76_ok 3 rfl) rfl ?_
  refine cl_gR (g := 103) (f := 5) (e := S.2.1 103 x0.toNatClampNeg) (dd D76_ok 4 rfl) pl1_22 (by decide) (by decide) (by decide) rfl rfl k.2.1.l1 (by first | rfl | simp [cl_up]) ?_
  refine cl_ifnonnull (tgt := 20) (dd D76_ok 5 rfl) (by decide) (fun c1 => ?_) (fun c1 => ?_)
  · refine cl_aload_n (dd D76_ok 10 rfl) rfl ?_
    refine cl_gR (g := 103) (f := 5) (e := S.2.1 103 x0.toNatClampNeg) (dd D76_ok 11 rfl) pl1_22 (by decide) (by decide) (by decide) rfl rfl k.2.1.l1 (by first | rfl | simp [cl_up]) ?_
    refine cl_aload_n (dd D76_ok 12 rfl) rfl ?_
    refine cl_pR (g := 515) (f := 5) (dd D76_ok 13 rfl) pl1_31 (by decide) (by decide) rfl rfl rfl ⟨_, rfl⟩ rfl (k.2.2.1 c1).1.l5 ?_
    refine cl_aload_n (dd D76_ok 14 rfl) rfl ?_
    refine cl_aload_n (dd D76_ok 15 rfl) rfl ?_
    refine cl_pR (g := 103) (f := 5) (dd D76_ok 16 rfl) pl1_22 (by decide) (by decide) rfl rfl rfl ⟨_, rfl⟩ rfl k.2.1.l1 ?_
    refine cl_aload_n (dd D76_ok 17 rfl) rfl ?_
    refine cl_aload_n (dd D76_ok 18 rfl) rfl ?_
    refine cl_gI (g := 104) (e := S.2.1 104 x0.toNatClampNeg) (dd D76_ok 19 rfl) pl1_25 (by decide) (by decide) (by decide) rfl rfl k.2.1.l1 (by first | rfl | simp [cl_up]) ?_
    refine cl_aload_n (dd D76_ok 20 rfl) rfl ?_
    refine cl_callsP (r := .int (g_top S x1)) (as := [cl_rf A 5 x1]) (rest := [.int (S.2.1 104 x0.toNatClampNeg), cl_rf A 1 x0]) (dd D76_ok 21 rfl) pl1_36 rfl (Nat.le_of_ble_eq_true rfl) (cc_g_top (S := cl_up (cl_up (cl_up S 515 x1.toNatClampNeg (-1)) 515 (S.2.1 103 x0.toNatClampNeg).toNatClampNeg x1) 103 x0.toNatClampNeg x1) k.1) rfl ?_
    refine cl_max (dd D76_ok 22 rfl) pl1_40 (Nat.le_of_ble_eq_true rfl) ?_
    rw [← f_more_lt]
    refine cl_pI (g := 104) (dd D76_ok 23 rfl) pl1_25 (by decide) (by decide) rfl rfl rfl rfl rfl k.2.1.l1 ?_
    refine cl_aload_n (dd D76_ok 24 rfl) rfl ?_
    refine cl_aload_n (dd D76_ok 25 rfl) rfl ?_
    refine cl_gI (g := 105) (e := S.2.1 105 x0.toNatClampNeg) (dd D76_ok 26 rfl) pl1_28 (by decide) (by decide) (by decide) rfl rfl k.2.1.l1 (by first | rfl | simp [cl_up]) ?_
    refine cl_aload_n (dd D76_ok 27 rfl) rfl ?_
    refine cl_callsP (r := .int (g_end S x1)) (as := [cl_rf A 5 x1]) (rest := [.int (S.2.1 105 x0.toNatClampNeg), cl_rf A 1 x0]) (dd D76_ok 28 rfl) pl1_46 rfl (Nat.le_of_ble_eq_true rfl) (cc_g_end (S := cl_up (cl_up (cl_up (cl_up S 515 x1.toNatClampNeg (-1)) 515 (S.2.1 103 x0.toNatClampNeg).toNatClampNeg x1) 103 x0.toNatClampNeg x1) 104 x0.toNatClampNeg (f_more (S.2.1 104 x0.toNatClampNeg) (g_top S x1))) k.1) rfl ?_
    refine cl_max (dd D76_ok 29 rfl) pl1_40 (Nat.le_of_ble_eq_true rfl) ?_
    rw [← f_more_lt]
    refine cl_pI (g := 105) (dd D76_ok 30 rfl) pl1_28 (by decide) (by decide) rfl rfl rfl rfl rfl k.2.1.l1 ?_
    exact cl_vret (dd D76_ok 31 rfl) rfl (k.2.2.1 c1).2
  · refine cl_aload_n (dd D76_ok 6 rfl) rfl ?_
    refine cl_aload_n (dd D76_ok 7 rfl) rfl ?_
    refine cl_pR (g := 102) (f := 5) (dd D76_ok 8 rfl) pl1_18 (by decide) (by decide) rfl rfl rfl ⟨_, rfl⟩ rfl k.2.1.l1 ?_
    refine cl_goto (tgt := 28) (dd D76_ok 9 rfl) (by decide) ?_
    refine cl_aload_n (dd D76_ok 14 rfl) rfl ?_
    refine cl_aload_n (dd D76_ok 15 rfl) rfl ?_
    refine cl_pR (g := 103) (f := 5) (dd D76_ok 16 rfl) pl1_22 (by decide) (by decide) rfl rfl rfl ⟨_, rfl⟩ rfl k.2.1.l1 ?_
    refine cl_aload_n (dd D76_ok 17 rfl) rfl ?_
    refine cl_aload_n (dd D76_ok 18 rfl) rfl ?_
    refine cl_gI (g := 104) (e := S.2.1 104 x0.toNatClampNeg) (dd D76_ok 19 rfl) pl1_25 (by decide) (by decide) (by decide) rfl rfl k.2.1.l1 (by first | rfl | simp [cl_up]) ?_
    refine cl_aload_n (dd D76_ok 20 rfl) rfl ?_
    refine cl_callsP (r := .int (g_top S x1)) (as := [cl_rf A 5 x1]) (rest := [.int (S.2.1 104 x0.toNatClampNeg), cl_rf A 1 x0]) (dd D76_ok 21 rfl) pl1_36 rfl (Nat.le_of_ble_eq_true rfl) (cc_g_top (S := cl_up (cl_up (cl_up S 515 x1.toNatClampNeg (-1)) 102 x0.toNatClampNeg x1) 103 x0.toNatClampNeg x1) k.1) rfl ?_
    refine cl_max (dd D76_ok 22 rfl) pl1_40 (Nat.le_of_ble_eq_true rfl) ?_
    rw [← f_more_lt]
    refine cl_pI (g := 104) (dd D76_ok 23 rfl) pl1_25 (by decide) (by decide) rfl rfl rfl rfl rfl k.2.1.l1 ?_
    refine cl_aload_n (dd D76_ok 24 rfl) rfl ?_
    refine cl_aload_n (dd D76_ok 25 rfl) rfl ?_
    refine cl_gI (g := 105) (e := S.2.1 105 x0.toNatClampNeg) (dd D76_ok 26 rfl) pl1_28 (by decide) (by decide) (by decide) rfl rfl k.2.1.l1 (by first | rfl | simp [cl_up]) ?_
    refine cl_aload_n (dd D76_ok 27 rfl) rfl ?_
    refine cl_callsP (r := .int (g_end S x1)) (as := [cl_rf A 5 x1]) (rest := [.int (S.2.1 105 x0.toNatClampNeg), cl_rf A 1 x0]) (dd D76_ok 28 rfl) pl1_46 rfl (Nat.le_of_ble_eq_true rfl) (cc_g_end (S := cl_up (cl_up (cl_up (cl_up S 515 x1.toNatClampNeg (-1)) 102 x0.toNatClampNeg x1) 103 x0.toNatClampNeg x1) 104 x0.toNatClampNeg (f_more (S.2.1 104 x0.toNatClampNeg) (g_top S x1))) k.1) rfl ?_
    refine cl_max (dd D76_ok 29 rfl) pl1_40 (Nat.le_of_ble_eq_true rfl) ?_
    rw [← f_more_lt]
    refine cl_pI (g := 105) (dd D76_ok 30 rfl) pl1_28 (by decide) (by decide) rfl rfl rfl rfl rfl k.2.1.l1 ?_
    exact cl_vret (dd D76_ok 31 rfl) rfl (k.2.2.2 c1)
set_option maxHeartbeats 1000000 in
theorem vc77_0 {xs : List Int32} {K : Nat → Prop} {h0 : am_H} {d : Nat} {Q : Option Value → cl_A → cl_S → Prop} {A : cl_A} {S : cl_S} {x0 : Int32} {x1 : Int32}
    (k : (cl_n S x1) ∧ ((cl_f S x0) ∧ (((¬ (S.2.1 208 x0.toNatClampNeg) = -1) → (cl_n S (S.2.1 208 x0.toNatClampNeg)) ∧ (Q none A (cl_up (cl_up (cl_up S 515 x1.toNatClampNeg (-1)) 515 (S.2.1 208 x0.toNatClampNeg).toNatClampNeg x1) 208 x0.toNatClampNeg x1))) ∧ (¬ (¬ (S.2.1 208 x0.toNatClampNeg) = -1) → Q none A (cl_up (cl_up (cl_up S 515 x1.toNatClampNeg (-1)) 207 x0.toNatClampNeg x1) 208 x0.toNatClampNeg x1))))) :
    cl_wp xs K h0 d Q I77 0 [some (cl_rf A 2 x0), some (cl_rf A 5 x1)] [] A S := by
  refine cl_aload_n (dd D77_ok 0 rfl) rfl ?_
  refine cl_null (g := 5) (dd D77_ok 1 rfl) ?_
  refine cl_pR (g := 515) (f := 5) (dd D77_ok 2 rfl) pl2_85 (by decide) (by decide) rfl rfl rfl ⟨_, rfl⟩ rfl k.1.l5 ?_
  refine cl_aload_n (dd D77_ok 3 rfl) rfl ?_
  refine cl_gR (g := 208) (f := 5) (e := S.2.1 208 x0.toNatClampNeg) (dd D77_ok 4 rfl) pl2_75 (by decide) (by decide) (by decide) rfl rfl k.2.1.l2 (by first | rfl | simp [cl_up]) ?_
  refine cl_ifnonnull (tgt := 20) (dd D77_ok 5 rfl) (by decide) (fun c1 => ?_) (fun c1 => ?_)
  · refine cl_aload_n (dd D77_ok 10 rfl) rfl ?_
    refine cl_gR (g := 208) (f := 5) (e := S.2.1 208 x0.toNatClampNeg) (dd D77_ok 11 rfl) pl2_75 (by decide) (by decide) (by decide) rfl rfl k.2.1.l2 (by first | rfl | simp [cl_up]) ?_
    refine cl_aload_n (dd D77_ok 12 rfl) rfl ?_
    refine cl_pR (g := 515) (f := 5) (dd D77_ok 13 rfl) pl2_85 (by decide) (by decide) rfl rfl rfl ⟨_, rfl⟩ rfl (k.2.2.1 c1).1.l5 ?_
    refine cl_aload_n (dd D77_ok 14 rfl) rfl ?_
    refine cl_aload_n (dd D77_ok 15 rfl) rfl ?_
    refine cl_pR (g := 208) (f := 5) (dd D77_ok 16 rfl) pl2_75 (by decide) (by decide) rfl rfl rfl ⟨_, rfl⟩ rfl k.2.1.l2 ?_
    exact cl_vret (dd D77_ok 17 rfl) rfl (k.2.2.1 c1).2
  · refine cl_aload_n (dd D77_ok 6 rfl) rfl ?_
    refine cl_aload_n (dd D77_ok 7 rfl) rfl ?_
    refine cl_pR (g := 207) (f := 5) (dd D77_ok 8 rfl) pl2_72 (by decide) (by decide) rfl rfl rfl ⟨_, rfl⟩ rfl k.2.1.l2 ?_
    refine cl_goto (tgt := 28) (dd D77_ok 9 rfl) (by decide) ?_
    refine cl_aload_n (dd D77_ok 14 rfl) rfl ?_
    refine cl_aload_n (dd D77_ok 15 rfl) rfl ?_
    refine cl_pR (g := 208) (f := 5) (dd D77_ok 16 rfl) pl2_75 (by decide) (by decide) rfl rfl rfl ⟨_, rfl⟩ rfl k.2.1.l2 ?_
    exact cl_vret (dd D77_ok 17 rfl) rfl (k.2.2.2 c1)
/-- Floats.add -/
theorem kk_fadd {xs : List Int32} {K : Nat → Prop} {d : Nat} {A : cl_A} {S : cl_S} {f n : Nat} {l : List Nat} (hf : cl_f S (nI f)) (hf13 : f < 13) (hn : cl_n S (nI n)) (hn60 : n < 60) (hl : ∀ m ∈ l, m < 60 ∧ cl_n S (nI m)) (hd : l.Nodup) (hnl : n ∉ l) (hc : chn (S.2.1 515) l (S.2.1 102 f)) (hla : S.2.1 103 f = lst l) : ∀ Q', (∀ S', cl_X [102, 103, 104, 105, 515] S S' → (∀ g, g = 102 ∨ g = 103 ∨ g = 104 ∨ g = 105 → ∀ f', ¬ f' = f → S'.2.1 g f' = S.2.1 g f') → (∀ m, ¬ m = n → m ∉ l → S'.2.1 515 m = S.2.1 515 m) → chn (S'.2.1 515) (l ++ [n]) (S'.2.1 102 f) → S'.2.1 103 f = nI n → S'.2.1 104 f = f_more (S.2.1 104 f) (g_top S (nI n)) → S'.2.1 105 f = f_more (S.2.1 105 f) (g_end S (nI n)) → Q' none A S') → cl_C xs K (d + 2) 76 [cl_rf A 1 (nI f), cl_rf A 5 (nI n)] A S Q' := by
  intro Q' hQ
  have cf : (nI f).toNatClampNeg = f := nI_clamp (by omega)
  have cn : (nI n).toNatClampNeg = n := nI_clamp (by omega)
  have hb : ∀ m ∈ l, m < 2 ^ 31 := fun m hm => by have := (hl m hm).1; omega
  refine cl_intro (ms76 xs) (Nat.le_of_ble_eq_true rfl) (fun h0 => vc76_0 ⟨hn, hf, ?_⟩)
  rw [cf, cn, hla]
  by_cases cl0 : l = []
  · subst cl0
    refine ⟨fun c => absurd rfl c, fun _ => hQ _ ?_ ?_ ?_ ?_ ?_ ?_ ?_⟩
    · exact ((((cl_X.rf.up (by decide) _ _).up (by decide) _ _).up (by decide) _ _).up (by decide) _ _).up (by decide) _ _
    · intro g hg f' hf'
      have : ¬ g = 515 := by omega
      rw [cl_up_ne2 _ _ _ _ hf', cl_up_ne2 _ _ _ _ hf', cl_up_ne2 _ _ _ _ hf', cl_up_ne2 _ _ _ _ hf', cl_up_ne1 _ _ _ _ this]
    · intro m hm _
      simp [cl_up, hm]
    · exact ⟨by simp [cl_up], by simp [cl_up, chn]⟩
    · simp [cl_up]
    · simp [cl_up]
    · simp [cl_up]
  · obtain ⟨m, hm, e1, e2, e3⟩ := lst_ne cl0 hb
    have cm : (nI m).toNatClampNeg = m := nI_clamp (hb m hm)
    have hmn : ¬ m = n := fun e => hnl (by rw [← e]; exact hm)
    refine ⟨fun _ => ?_, fun c => absurd e3 c⟩
    rw [e2, cm]
    refine ⟨(hl m hm).2, hQ _ ?_ ?_ ?_ ?_ ?_ ?_ ?_⟩
    · exact ((((cl_X.rf.up (by decide) _ _).up (by decide) _ _).up (by decide) _ _).up (by decide) _ _).up (by decide) _ _
    · intro g hg f' hf'
      have : ¬ g = 515 := by omega
      rw [cl_up_ne2 _ _ _ _ hf', cl_up_ne2 _ _ _ _ hf', cl_up_ne2 _ _ _ _ hf', cl_up_ne1 _ _ _ _ this, cl_up_ne1 _ _ _ _ this]
    · intro q hq hql
      have : ¬ q = m := fun e => hql (by rw [e]; exact hm)
      simp [cl_up, hq, this]
    · have e4 : (cl_up (cl_up (cl_up (cl_up (cl_up S 515 n (-1)) 515 m (nI n)) 103 f (nI n)) 104 f (f_more (S.2.1 104 f) (g_top S (nI n)))) 105 f (f_more (S.2.1 105 f) (g_end S (nI n)))).2.1 102 f = S.2.1 102 f := by simp [cl_up]
      rw [e4]
      refine chn_add l _ m e1 hd hc ?_ ?_ ?_
      · simp [cl_up, Ne.symm hmn]
      · intro q hq hqm
        have : ¬ q = n := fun e => hnl (by rw [← e]; exact hq)
        simp [cl_up, hqm, this]
      · simp [cl_up]
    · simp [cl_up]
    · simp [cl_up]
    · simp [cl_up]
/-- await -/
theorem kk_await {xs : List Int32} {K : Nat → Prop} {d : Nat} {A : cl_A} {S : cl_S} {f n : Nat} {l : List Nat} (hf : cl_f S (nI f)) (hf13 : f < 13) (hn : cl_n S (nI n)) (hn60 : n < 60) (hl : ∀ m ∈ l, m < 60 ∧ cl_n S (nI m)) (hd : l.Nodup) (hnl : n ∉ l) (hc : chn (S.2.1 515) l (S.2.1 207 f)) (hla : S.2.1 208 f = lst l) : ∀ Q', (∀ S', cl_X [207, 208, 515] S S' → (∀ g, g = 207 ∨ g = 208 → ∀ f', ¬ f' = f → S'.2.1 g f' = S.2.1 g f') → (∀ m, ¬ m = n → m ∉ l → S'.2.1 515 m = S.2.1 515 m) → chn (S'.2.1 515) (l ++ [n]) (S'.2.1 207 f) → S'.2.1 208 f = nI n → Q' none A S') → cl_C xs K (d + 1) 77 [cl_rf A 2 (nI f), cl_rf A 5 (nI n)] A S Q' := by
  intro Q' hQ
  have cf : (nI f).toNatClampNeg = f := nI_clamp (by omega)
  have cn : (nI n).toNatClampNeg = n := nI_clamp (by omega)
  have hb : ∀ m ∈ l, m < 2 ^ 31 := fun m hm => by have := (hl m hm).1; omega
  refine cl_intro (ms77 xs) (Nat.le_of_ble_eq_true rfl) (fun h0 => vc77_0 ⟨hn, hf, ?_⟩)
  rw [cf, cn, hla]
  by_cases cl0 : l = []
  · subst cl0
    refine ⟨fun c => absurd rfl c, fun _ => hQ _ ?_ ?_ ?_ ?_ ?_⟩
    · exact ((cl_X.rf.up (by decide) _ _).up (by decide) _ _).up (by decide) _ _
    · intro g hg f' hf'
      have : ¬ g = 515 := by omega
      rw [cl_up_ne2 _ _ _ _ hf', cl_up_ne2 _ _ _ _ hf', cl_up_ne1 _ _ _ _ this]
    · intro m hm _
      simp [cl_up, hm]
    · exact ⟨by simp [cl_up], by simp [cl_up, chn]⟩
    · simp [cl_up]
  · obtain ⟨m, hm, e1, e2, e3⟩ := lst_ne cl0 hb
    have cm : (nI m).toNatClampNeg = m := nI_clamp (hb m hm)
    have hmn : ¬ m = n := fun e => hnl (by rw [← e]; exact hm)
    refine ⟨fun _ => ?_, fun c => absurd e3 c⟩
    rw [e2, cm]
    refine ⟨(hl m hm).2, hQ _ ?_ ?_ ?_ ?_ ?_⟩
    · exact ((cl_X.rf.up (by decide) _ _).up (by decide) _ _).up (by decide) _ _
    · intro g hg f' hf'
      have : ¬ g = 515 := by omega
      rw [cl_up_ne2 _ _ _ _ hf', cl_up_ne1 _ _ _ _ this, cl_up_ne1 _ _ _ _ this]
    · intro q hq hql
      have : ¬ q = m := fun e => hql (by rw [e]; exact hm)
      simp [cl_up, hq, this]
    · have e4 : (cl_up (cl_up (cl_up S 515 n (-1)) 515 m (nI n)) 208 f (nI n)).2.1 207 f = S.2.1 207 f := by simp [cl_up]
      rw [e4]
      refine chn_add l _ m e1 hd hc ?_ ?_ ?_
      · simp [cl_up, Ne.symm hmn]
      · intro q hq hqm
        have : ¬ q = n := fun e => hnl (by rw [← e]; exact hq)
        simp [cl_up, hqm, this]
      · simp [cl_up]
    · simp [cl_up]
set_option maxHeartbeats 1000000 in
theorem vc82_0 {xs : List Int32} {K : Nat → Prop} {h0 : am_H} {d : Nat} {Q : Option Value → cl_A → cl_S → Prop} {A : cl_A} {S : cl_S} {x0 : Int32} {x1 : Int32} {x2 : Int32}
    (k : (cl_lv S 0 x1) ∧ ((cl_f S x0) ∧ (((¬ (S.2.1 401 x0.toNatClampNeg) = -1) → (cl_lv S 0 (S.2.1 401 x0.toNatClampNeg)) ∧ (Q none A (cl_up (cl_up (cl_up (cl_up (cl_up (cl_up S 4 x1.toNatClampNeg (-1)) 4 (S.2.1 401 x0.toNatClampNeg).toNatClampNeg x1) 401 x0.toNatClampNeg x1) 0 x1.toNatClampNeg ((S.2.1 403 x0.toNatClampNeg) + x2)) 403 x0.toNatClampNeg (((S.2.1 403 x0.toNatClampNeg) + x2) + (S.2.1 2 x1.toNatClampNeg))) 404 x0.toNatClampNeg (f_more (S.2.1 404 x0.toNatClampNeg) (S.2.1 3 x1.toNatClampNeg))))) ∧ (¬ (¬ (S.2.1 401 x0.toNatClampNeg) = -1) → Q none A (cl_up (cl_up (cl_up (cl_up (cl_up (cl_up S 4 x1.toNatClampNeg (-1)) 400 x0.toNatClampNeg x1) 401 x0.toNatClampNeg x1) 0 x1.toNatClampNeg ((S.2.1 403 x0.toNatClampNeg) + x2)) 403 x0.toNatClampNeg (((S.2.1 403 x0.toNatClampNeg) + x2) + (S.2.1 2 x1.toNatClampNeg))) 404 x0.toNatClampNeg (f_more (S.2.1 404 x0.toNatClampNeg) (S.2.1 3 x1.toNatClampNeg))))))) :
    cl_wp xs K h0 d Q I82 0 [some (cl_rf A 4 x0), some (cl_rf A 0 x1), some (.int x2)] [] A S := by
  refine cl_aload_n (dd D82_ok 0 rfl) rfl ?_
  refine cl_null (g := 0) (dd D82_ok 1 rfl) ?_
  refine cl_pR (g := 4) (f := 0) (dd D82_ok 2 rfl) pl4_28 (by decide) (by decide) rfl rfl rfl ⟨_, rfl⟩ rfl k.1 ?_
  refine cl_aload_n (dd D82_ok 3 rfl) rfl ?_
  refine cl_gR (g := 401) (f := 0) (e := S.2.1 401 x0.toNatClampNeg) (dd D82_ok 4 rfl) pl4_15 (by decide) (by decide) (by decide) rfl rfl k.2.1.l4 (by first | rfl | simp [cl_up]) ?_
  refine cl_ifnonnull (tgt := 20) (dd D82_ok 5 rfl) (by decide) (fun c1 => ?_) (fun c1 => ?_)
  · refine cl_aload_n (dd D82_ok 10 rfl) rfl ?_
    refine cl_gR (g := 401) (f := 0) (e := S.2.1 401 x0.toNatClampNeg) (dd D82_ok 11 rfl) pl4_15 (by decide) (by decide) (by decide) rfl rfl k.2.1.l4 (by first | rfl | simp [cl_up]) ?_
    refine cl_aload_n (dd D82_ok 12 rfl) rfl ?_
    refine cl_pR (g := 4) (f := 0) (dd D82_ok 13 rfl) pl4_28 (by decide) (by decide) rfl rfl rfl ⟨_, rfl⟩ rfl (k.2.2.1 c1).1 ?_
    refine cl_aload_n (dd D82_ok 14 rfl) rfl ?_
    refine cl_aload_n (dd D82_ok 15 rfl) rfl ?_
    refine cl_pR (g := 401) (f := 0) (dd D82_ok 16 rfl) pl4_15 (by decide) (by decide) rfl rfl rfl ⟨_, rfl⟩ rfl k.2.1.l4 ?_
    refine cl_aload_n (dd D82_ok 17 rfl) rfl ?_
    refine cl_aload_n (dd D82_ok 18 rfl) rfl ?_
    refine cl_gI (g := 403) (e := S.2.1 403 x0.toNatClampNeg) (dd D82_ok 19 rfl) pl4_22 (by decide) (by decide) (by decide) rfl rfl k.2.1.l4 (by first | rfl | simp [cl_up]) ?_
    refine cl_iload_n (dd D82_ok 20 rfl) rfl ?_
    refine cl_iadd (dd D82_ok 21 rfl) ?_
    refine cl_pI (g := 0) (dd D82_ok 22 rfl) pl4_33 (by decide) (by decide) rfl rfl rfl rfl rfl k.1 ?_
    refine cl_aload_n (dd D82_ok 23 rfl) rfl ?_
    refine cl_aload_n (dd D82_ok 24 rfl) rfl ?_
    refine cl_gI (g := 0) (e := (S.2.1 403 x0.toNatClampNeg) + x2) (dd D82_ok 25 rfl) pl4_33 (by decide) (by decide) (by decide) rfl rfl k.1 (by first | rfl | simp [cl_up]) ?_
    refine cl_aload_n (dd D82_ok 26 rfl) rfl ?_
    refine cl_gI (g := 2) (e := S.2.1 2 x1.toNatClampNeg) (dd D82_ok 27 rfl) pl4_36 (by decide) (by decide) (by decide) rfl rfl k.1 (by first | rfl | simp [cl_up]) ?_
    refine cl_iadd (dd D82_ok 28 rfl) ?_
    refine cl_pI (g := 403) (dd D82_ok 29 rfl) pl4_22 (by decide) (by decide) rfl rfl rfl rfl rfl k.2.1.l4 ?_
    refine cl_aload_n (dd D82_ok 30 rfl) rfl ?_
    refine cl_aload_n (dd D82_ok 31 rfl) rfl ?_
    refine cl_gI (g := 404) (e := S.2.1 404 x0.toNatClampNeg) (dd D82_ok 32 rfl) pl4_18 (by decide) (by decide) (by decide) rfl rfl k.2.1.l4 (by first | rfl | simp [cl_up]) ?_
    refine cl_aload_n (dd D82_ok 33 rfl) rfl ?_
    refine cl_gI (g := 3) (e := S.2.1 3 x1.toNatClampNeg) (dd D82_ok 34 rfl) pl4_39 (by decide) (by decide) (by decide) rfl rfl k.1 (by first | rfl | simp [cl_up]) ?_
    refine cl_max (dd D82_ok 35 rfl) pl4_40 (Nat.le_of_ble_eq_true rfl) ?_
    rw [← f_more_lt]
    refine cl_pI (g := 404) (dd D82_ok 36 rfl) pl4_18 (by decide) (by decide) rfl rfl rfl rfl rfl k.2.1.l4 ?_
    exact cl_vret (dd D82_ok 37 rfl) rfl (k.2.2.1 c1).2
  · refine cl_aload_n (dd D82_ok 6 rfl) rfl ?_
    refine cl_aload_n (dd D82_ok 7 rfl) rfl ?_
    refine cl_pR (g := 400) (f := 0) (dd D82_ok 8 rfl) pl4_9 (by decide) (by decide) rfl rfl rfl ⟨_, rfl⟩ rfl k.2.1.l4 ?_
    refine cl_goto (tgt := 28) (dd D82_ok 9 rfl) (by decide) ?_
    refine cl_aload_n (dd D82_ok 14 rfl) rfl ?_
    refine cl_aload_n (dd D82_ok 15 rfl) rfl ?_
    refine cl_pR (g := 401) (f := 0) (dd D82_ok 16 rfl) pl4_15 (by decide) (by decide) rfl rfl rfl ⟨_, rfl⟩ rfl k.2.1.l4 ?_
    refine cl_aload_n (dd D82_ok 17 rfl) rfl ?_
    refine cl_aload_n (dd D82_ok 18 rfl) rfl ?_
    refine cl_gI (g := 403) (e := S.2.1 403 x0.toNatClampNeg) (dd D82_ok 19 rfl) pl4_22 (by decide) (by decide) (by decide) rfl rfl k.2.1.l4 (by first | rfl | simp [cl_up]) ?_
    refine cl_iload_n (dd D82_ok 20 rfl) rfl ?_
    refine cl_iadd (dd D82_ok 21 rfl) ?_
    refine cl_pI (g := 0) (dd D82_ok 22 rfl) pl4_33 (by decide) (by decide) rfl rfl rfl rfl rfl k.1 ?_
    refine cl_aload_n (dd D82_ok 23 rfl) rfl ?_
    refine cl_aload_n (dd D82_ok 24 rfl) rfl ?_
    refine cl_gI (g := 0) (e := (S.2.1 403 x0.toNatClampNeg) + x2) (dd D82_ok 25 rfl) pl4_33 (by decide) (by decide) (by decide) rfl rfl k.1 (by first | rfl | simp [cl_up]) ?_
    refine cl_aload_n (dd D82_ok 26 rfl) rfl ?_
    refine cl_gI (g := 2) (e := S.2.1 2 x1.toNatClampNeg) (dd D82_ok 27 rfl) pl4_36 (by decide) (by decide) (by decide) rfl rfl k.1 (by first | rfl | simp [cl_up]) ?_
    refine cl_iadd (dd D82_ok 28 rfl) ?_
    refine cl_pI (g := 403) (dd D82_ok 29 rfl) pl4_22 (by decide) (by decide) rfl rfl rfl rfl rfl k.2.1.l4 ?_
    refine cl_aload_n (dd D82_ok 30 rfl) rfl ?_
    refine cl_aload_n (dd D82_ok 31 rfl) rfl ?_
    refine cl_gI (g := 404) (e := S.2.1 404 x0.toNatClampNeg) (dd D82_ok 32 rfl) pl4_18 (by decide) (by decide) (by decide) rfl rfl k.2.1.l4 (by first | rfl | simp [cl_up]) ?_
    refine cl_aload_n (dd D82_ok 33 rfl) rfl ?_
    refine cl_gI (g := 3) (e := S.2.1 3 x1.toNatClampNeg) (dd D82_ok 34 rfl) pl4_39 (by decide) (by decide) (by decide) rfl rfl k.1 (by first | rfl | simp [cl_up]) ?_
    refine cl_max (dd D82_ok 35 rfl) pl4_40 (Nat.le_of_ble_eq_true rfl) ?_
    rw [← f_more_lt]
    refine cl_pI (g := 404) (dd D82_ok 36 rfl) pl4_18 (by decide) (by decide) rfl rfl rfl rfl rfl k.2.1.l4 ?_
    exact cl_vret (dd D82_ok 37 rfl) rfl (k.2.2.2 c1)
/-- Line.add: box b comes behind, at reached + gap -/
theorem kk_ladd {xs : List Int32} {K : Nat → Prop} {d : Nat} {A : cl_A} {S : cl_S} {f b : Nat} {gap : Int32} {l : List Nat} (hf : cl_f S (nI f)) (hf13 : f < 13) (hn : cl_lv S 0 (nI b)) (hb4 : b < 4000) (hl : ∀ m ∈ l, m < 4000 ∧ cl_lv S 0 (nI m)) (hd : l.Nodup) (hnl : b ∉ l) (hc : chn (S.2.1 4) l (S.2.1 400 f)) (hla : S.2.1 401 f = lst l) : ∀ Q', (∀ S', cl_X [0, 4, 400, 401, 403, 404] S S' → (∀ g, g = 400 ∨ g = 401 ∨ g = 403 ∨ g = 404 → ∀ f', ¬ f' = f → S'.2.1 g f' = S.2.1 g f') → (∀ m, ¬ m = b → m ∉ l → S'.2.1 4 m = S.2.1 4 m) → (∀ m, ¬ m = b → S'.2.1 0 m = S.2.1 0 m) → chn (S'.2.1 4) (l ++ [b]) (S'.2.1 400 f) → S'.2.1 401 f = nI b → S'.2.1 0 b = S.2.1 403 f + gap → S'.2.1 403 f = S.2.1 403 f + gap + S.2.1 2 b → S'.2.1 404 f = f_more (S.2.1 404 f) (S.2.1 3 b) → Q' none A S') → cl_C xs K (d + 1) 82 [cl_rf A 4 (nI f), cl_rf A 0 (nI b), .int gap] A S Q' := by
  intro Q' hQ
  have cf : (nI f).toNatClampNeg = f := nI_clamp (by omega)
  have cn : (nI b).toNatClampNeg = b := nI_clamp (by omega)
  have hb : ∀ m ∈ l, m < 2 ^ 31 := fun m hm => by have := (hl m hm).1; omega
  refine cl_intro (ms82 xs) (Nat.le_of_ble_eq_true rfl) (fun h0 => vc82_0 ⟨hn, hf, ?_⟩)
  rw [cf, cn, hla]
  by_cases cl0 : l = []
  · subst cl0
    refine ⟨fun c => absurd rfl c, fun _ => hQ _ ?_ ?_ ?_ ?_ ?_ ?_ ?_ ?_ ?_⟩
    · exact (((((cl_X.rf.up (by decide) _ _).up (by decide) _ _).up (by decide) _ _).up (by decide) _ _).up (by decide) _ _).up (by decide) _ _
    · intro g hg f' hf'
      have h4 : ¬ g = 4 := by omega
      have h00 : ¬ g = 0 := by omega
      rw [cl_up_ne2 _ _ _ _ hf', cl_up_ne2 _ _ _ _ hf', cl_up_ne1 _ _ _ _ h00, cl_up_ne2 _ _ _ _ hf', cl_up_ne2 _ _ _ _ hf', cl_up_ne1 _ _ _ _ h4]
    · intro m hm _
      simp [cl_up, hm]
    · intro m hm
      simp [cl_up, hm]
    · exact ⟨by simp [cl_up], by simp [cl_up, chn]⟩
    · simp [cl_up]
    · simp [cl_up]
    · simp [cl_up]
    · simp [cl_up]
  · obtain ⟨m, hm, e1, e2, e3⟩ := lst_ne cl0 hb
    have cm : (nI m).toNatClampNeg = m := nI_clamp (hb m hm)
    have hmn : ¬ m = b := fun e => hnl (by rw [← e]; exact hm)
    refine ⟨fun _ => ?_, fun c => absurd e3 c⟩
    rw [e2, cm]
    refine ⟨(hl m hm).2, hQ _ ?_ ?_ ?_ ?_ ?_ ?_ ?_ ?_ ?_⟩
    · exact (((((cl_X.rf.up (by decide) _ _).up (by decide) _ _).up (by decide) _ _).up (by decide) _ _).up (by decide) _ _).up (by decide) _ _
    · intro g hg f' hf'
      have h4 : ¬ g = 4 := by omega
      have h00 : ¬ g = 0 := by omega
      rw [cl_up_ne2 _ _ _ _ hf', cl_up_ne2 _ _ _ _ hf', cl_up_ne1 _ _ _ _ h00, cl_up_ne2 _ _ _ _ hf', cl_up_ne1 _ _ _ _ h4, cl_up_ne1 _ _ _ _ h4]
    · intro q hq hql
      have : ¬ q = m := fun e => hql (by rw [e]; exact hm)
      simp [cl_up, hq, this]
    · intro q hq
      simp [cl_up, hq]
    · refine chn_add (nx := S.2.1 4) l _ m e1 hd ?_ ?_ ?_ ?_
      · have : ∀ a b' c e, (cl_up (cl_up (cl_up (cl_up (cl_up (cl_up S 4 b (-1)) 4 m (nI b)) 401 f a) 0 b b') 403 f c) 404 f e).2.1 400 f = S.2.1 400 f := by
          intro a b' c e
          simp [cl_up]
        rw [this]
        exact hc
      · simp [cl_up, Ne.symm hmn]
      · intro q hq hqm
        have : ¬ q = b := fun e => hnl (by rw [← e]; exact hq)
        simp [cl_up, hqm, this]
      · simp [cl_up]
    · simp [cl_up]
    · simp [cl_up]
    · simp [cl_up]
    · simp [cl_up]
