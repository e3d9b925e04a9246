/-! the class: clear; what holds between two calls, in full (by program and by hand: wip/whole/gen/c60.py) -/
/-- what holds of the class alone between two calls -/
def CE (A : cl_A) (S : cl_S) (Wp : Nat) : Prop := GA A ∧ sg S ∧ S.2.1 510 0 = 0 ∧ ((∀ j, S.1 25 j → j = 0) ∧ ∀ i, S.1 5 i → i < 60) ∧ (∀ w, S.1 7 w → w < Wp) ∧ (∀ b, S.1 0 b → b < 60 + Wp) ∧ (∀ p, Wp ≤ p → S.2.1 2500 p = -1) ∧ (∀ f i, S.1 f i → f ≤ 25) ∧ (S.2.1 1001 0 = -1 ↔ Wp = 0) ∧ (∀ j, S.1 23 j → (S.2.1 2301 j).toNatClampNeg ≤ 120) ∧ TB S
def INV (A : cl_A) (S : cl_S) (M : md_S) (K : bt) (nn W t Wp : Nat) : Prop := CR S M K nn W t ∧ LK (M.2 6) (bt_root K) ∧ (wp_R S Wp ∧ W ≤ Wp ∧ Wp ≤ 3600) ∧ CE A S Wp
theorem CE.x {A : cl_A} {S S' : cl_S} {Wp : Nat} {cs : List Nat} (h : CE A S Wp) (e : cl_X cs S S') (hc : ∀ g ∈ [510, 1001, 2000, 2301, 2500], g ∉ cs) : CE A S' Wp := by
  unfold CE sg TB at h ⊢
  rw [e.1, e.2.2 2000 (hc 2000 (by decide)), e.2.2 2301 (hc 2301 (by decide)), e.2.2 510 (hc 510 (by decide)), e.2.2 1001 (hc 1001 (by decide)), e.2.2 2500 (hc 2500 (by decide))]
  exact h
theorem CE.fd {A : cl_A} {S S' : cl_S} {Wp : Nat} (h : CE A S Wp) (e : cl_X X_fd S S') (hb : TB S → TB S') : CE A S' Wp := by
  obtain ⟨c1, c2, c3, c4, c5, c6, c7, c8, c9, c10, c11⟩ := h
  unfold sg at c2
  refine ⟨c1, by unfold sg; rw [e.1]; exact c2, by rw [e.2.2 510 (by decide)]; exact c3, by rw [e.1]; exact c4, by rw [e.1]; exact c5, by rw [e.1]; exact c6, by rw [e.2.2 2500 (by decide)]; exact c7, by rw [e.1]; exact c8, by rw [e.2.2 1001 (by decide)]; exact c9, by rw [e.1, e.2.2 2301 (by decide)]; exact c10, hb c11⟩
/-- codes that a new node leaves -/
def nob (g : Nat) : Bool := !(decide (g ≤ 4) || (decide (500 ≤ g) && decide (g ≤ 515)) || decide (g = 2200) || decide (g ∈ XNf) || decide (g ∈ XBf))
section N60
variable {A : cl_A} {S : cl_S} {n : Nat} {k q e : Int32}
theorem nS_o {g : Nat} (hg : nob g = true) (i : Nat) : (nS A S n k q e).2.1 g i = S.2.1 g i := by
  simp only [nob, Bool.not_eq_true', Bool.or_eq_false_iff, Bool.and_eq_false_iff, decide_eq_false_iff_not] at hg
  obtain ⟨⟨⟨⟨h1, h2⟩, h3⟩, h4⟩, h5⟩ := hg
  show nC _ n k q e g i = _
  rw [nC_ne (Or.inr (by omega)) (fun x => h3 x.1), rc_O h4 h5]
theorem nS_of {g : Nat} (hg : nob g = true) : (nS A S n k q e).2.1 g = S.2.1 g := funext fun i => nS_o hg i
theorem nS_N {g : Nat} (hg : g ∈ [102, 103, 200, 207, 208, 2100]) (i : Nat) : (nS A S n k q e).2.1 g i = rcv A 5 100 (nK n) (S.2.1 g i) := by
  have : ∀ g ∈ [102, 103, 200, 207, 208, 2100], ¬ (500 ≤ g ∧ g ≤ 515 ∨ g ≤ 4) ∧ ¬ g = 2200 ∧ g ∈ XNf := by decide
  obtain ⟨h1, h2, h3⟩ := this g hg
  show nC _ n k q e g i = _
  rw [nC_ne (Or.inr h1) (fun x => h2 x.1), rc_N h3]
theorem nL_o {f : Nat} (h5 : ¬ f = 5) (h22 : ¬ f = 22) (h23 : ¬ f = 23) (h0 : ¬ f = 0) (i : Nat) : nL S n f i ↔ S.1 f i := by
  unfold nL
  rw [if_neg (by omega), if_neg h23, if_neg h0]
theorem nL_w {w : Nat} (hn : n < 60) : nL S n 0 (60 + w) ↔ S.1 0 (60 + w) := by
  unfold nL
  rw [if_neg (by omega), if_neg (by omega), if_pos rfl]
  refine ⟨fun h => ?_, fun h => Or.inr ⟨Or.inr (by omega), h⟩⟩
  rcases h with h | h
  · omega
  · exact h.2
theorem nL_n (hn : n < 60) : cl_n (nS A S n k q e) (nI n) := by
  have c : (nI n).toNatClampNeg = n := nI_clamp (by omega)
  refine ⟨vp_nI hn (by decide), ?_, ?_, ?_⟩ <;> rw [c]
  · show nL S n 5 n
    unfold nL
    rw [if_pos (Or.inl rfl)]
    exact Or.inl rfl
  · show nL S n 22 n
    unfold nL
    rw [if_pos (Or.inr rfl)]
    exact Or.inl rfl
  · show nL S n 0 n
    unfold nL
    rw [if_neg (by omega), if_neg (by omega), if_pos rfl]
    exact Or.inl rfl
theorem nS_z (h : cl_z S) : cl_z (nS A S n k q e) := by
  obtain ⟨h1, h2, h3, h4, h5, h6, h7⟩ := h
  exact ⟨(nL_o (n := n) (by decide) (by decide) (by decide) (by decide) _).mpr h1, (nL_o (n := n) (by decide) (by decide) (by decide) (by decide) _).mpr h2, (nL_o (n := n) (by decide) (by decide) (by decide) (by decide) _).mpr h3, (nL_o (n := n) (by decide) (by decide) (by decide) (by decide) _).mpr h4, (nL_o (n := n) (by decide) (by decide) (by decide) (by decide) _).mpr h5, (nL_o (n := n) (by decide) (by decide) (by decide) (by decide) _).mpr h6, (nL_o (n := n) (by decide) (by decide) (by decide) (by decide) _).mpr h7⟩
theorem nS_f {x : Int32} (h : cl_f S x) : cl_f (nS A S n k q e) x := by
  obtain ⟨h1, h2, h3, h4⟩ := h
  exact ⟨h1, (nL_o (n := n) (by decide) (by decide) (by decide) (by decide) _).mpr h2, (nL_o (n := n) (by decide) (by decide) (by decide) (by decide) _).mpr h3, (nL_o (n := n) (by decide) (by decide) (by decide) (by decide) _).mpr h4⟩
theorem nS_wp {Wp : Nat} (hn : n < 60) (h : wp_R S Wp) : wp_R (nS A S n k q e) Wp := by
  obtain ⟨h1, h2, h3, h4, h5⟩ := h
  refine ⟨h1, by rw [nS_of (by decide)]; exact h2, by rw [nS_of (by decide)]; exact h3, fun x => ?_, fun w hw => ?_⟩
  · rw [nS_of (by decide)]
    exact ⟨(h4 x).1, (nL_o (n := n) (by decide) (by decide) (by decide) (by decide) _).mpr (h4 x).2⟩
  · rw [nS_of (by decide)]
    obtain ⟨w1, w2, w3, w4⟩ := h5 w hw
    exact ⟨w1, w2, (nL_o (n := n) (by decide) (by decide) (by decide) (by decide) _).mpr w3, (nL_w hn).mpr w4⟩
theorem nS_CE {Wp : Nat} (hn : n < 60) (hL : S.2.2.1 + 2 < 2000000) (h : CE A S Wp) : CE (nA A n S.2.2.1) (nS A S n k q e) Wp := by
  obtain ⟨c1, ⟨c2, c3⟩, c4, c5, c6, c7, c8, c9, c10, c11, c12⟩ := h
  refine ⟨nA_GA hn hL c1, ⟨fun j hj => c2 j ((nL_o (n := n) (by decide) (by decide) (by decide) (by decide) _).mp hj), fun j hj => c3 j ((nL_o (n := n) (by decide) (by decide) (by decide) (by decide) _).mp hj)⟩, ?_, ⟨fun j hj => c5.1 j ((nL_o (n := n) (by decide) (by decide) (by decide) (by decide) _).mp hj), fun i hi => ?_⟩, fun w hw => c6 w ((nL_o (n := n) (by decide) (by decide) (by decide) (by decide) _).mp hw), fun b hb => ?_, fun p hp => by rw [nS_of (by decide)]; exact c8 p hp, fun f i hi => ?_, by rw [nS_of (by decide)]; exact c10, fun j hj => ?_, fun p => by rw [nS_of (by decide)]; exact c12 p⟩
  · show nC _ n k q e 510 0 = 0
    by_cases c : 0 = n
    · rw [← c, nC_at (Or.inl (by decide))]
      rfl
    · rw [nC_ne (Or.inl c) (by omega), rc_O (by decide) (by decide)]
      exact c4
  · change nL S n 5 i at hi
    unfold nL at hi
    rw [if_pos (Or.inl rfl)] at hi
    rcases hi with hi | hi
    · omega
    · omega
  · change nL S n 0 b at hb
    unfold nL at hb
    rw [if_neg (by omega), if_neg (by omega), if_pos rfl] at hb
    rcases hb with hb | hb
    · omega
    · exact c7 b hb.2
  · change nL S n f i at hi
    unfold nL at hi
    split at hi
    · rename_i c
      omega
    · split at hi
      · rename_i c
        omega
      · split at hi
        · rename_i c
          omega
        · exact c9 f i hi
  · rw [nS_of (by decide)]
    change nL S n 23 j at hj
    unfold nL at hj
    rw [if_neg (by omega), if_pos rfl] at hj
    exact c11 j hj.2
theorem rcv_m1 {g off : Nat} {kp : Nat → Bool} : rcv A g off kp (-1) = -1 := if_pos rfl
/-- a node that was there, after another is made -/
theorem nS_nt {M M' : md_S} {i : Nat} (hi : i < n) (hn : n < 60) (h : cl_nt S M i) (e3 : M'.2 3 i = M.2 3 i) (e4 : M'.2 4 i = M.2 4 i) (e8 : M'.2 8 i = M.2 8 i) (e5 : M'.2 5 i = M.2 5 i) (e6 : M'.2 6 i = M.2 6 i) (e7 : M'.2 7 i = M.2 7 i) (e11 : M'.2 11 i = M.2 11 i) (e10 : ∀ k, k < 120 → M'.2 10 (120 * i + k) = M.2 10 (120 * i + k)) (e9 : ∀ p, p < 9 → M'.2 9 (9 * i + p) = M.2 9 (9 * i + p)) (hr : ∀ f ∈ [4, 5, 6, 7], M.2 f i = -1 ∨ ∃ j, j < n ∧ M.2 f i = nI j) : cl_nt (nS A S n k q e) M' i := by
  obtain ⟨b1, b2, b3, b4, b5, b6, b7, b8, b9, b10, b11, b12, b13⟩ := h
  have hc : ∀ g, (500 ≤ g ∧ g ≤ 515) → g ∉ XNf → g ∉ XBf → (nS A S n k q e).2.1 g i = S.2.1 g i := fun g _ h2 h3 => by
    show nC _ n k q e g i = _
    rw [nC_ne (Or.inl (by omega)) (by omega), rc_O h2 h3]
  have hcN : ∀ g, (500 ≤ g ∧ g ≤ 515) → g ∈ XNf → (S.2.1 g i = -1 ∨ ∃ j, j < n ∧ S.2.1 g i = nI j) → (nS A S n k q e).2.1 g i = S.2.1 g i := fun g _ h2 h3 => by
    show nC _ n k q e g i = _
    rw [nC_ne (Or.inl (by omega)) (by omega), rc_N h2]
    unfold rcv
    rcases h3 with h3 | ⟨j, hj, h3⟩
    · rw [if_pos h3, h3]
    · rw [h3, if_neg (nI_ne_m1 (by omega)), nI_clamp (by omega), if_pos (by simp [nK]; omega)]
  have hl : ∀ f, f = 5 ∨ f = 22 ∨ f = 23 ∨ f = 0 → S.1 f i → nL S n f i := fun f hf hs => by
    unfold nL
    rcases hf with rfl | rfl | rfl | rfl
    · rw [if_pos (Or.inl rfl)]; exact Or.inr ⟨hi, hs⟩
    · rw [if_pos (Or.inr rfl)]; exact Or.inr ⟨hi, hs⟩
    · rw [if_neg (by omega), if_pos rfl]; exact ⟨hi, hs⟩
    · rw [if_neg (by omega), if_neg (by omega), if_pos rfl]; exact Or.inr ⟨Or.inl hi, hs⟩
  have ci : (nI i).toNatClampNeg = i := nI_clamp (by omega)
  obtain ⟨l1, l2, l3, l4⟩ := b1
  rw [ci] at l2 l3 l4
  have e508 := hc 508 (by decide) (by decide) (by decide)
  have eb : cl_bn (nS A S n k q e) (nI i) (S.2.1 508 i) = cl_bn S (nI i) (S.2.1 508 i) := by
    unfold cl_bn
    rw [nS_of (g := 2301) (by decide)]
  refine ⟨⟨l1, by rw [ci]; exact hl 5 (by simp) l2, by rw [ci]; exact hl 22 (by simp) l3, by rw [ci]; exact hl 0 (by simp) l4⟩, ?_, ?_, ?_, ?_, ?_, ?_, ?_, ?_, ?_, ?_, ?_, ?_⟩
  · rw [hc 500 (by decide) (by decide) (by decide)]; exact b2
  · rw [hc 501 (by decide) (by decide) (by decide), e3]; exact b3
  · rw [hcN 502 (by decide) (by decide) (by rw [b4]; exact hr 4 (by decide)), e4]; exact b4
  · rw [hc 503 (by decide) (by decide) (by decide), e8]; exact b5
  · rw [hcN 505 (by decide) (by decide) (by rw [b6]; exact hr 5 (by decide)), e5]; exact b6
  · rw [hcN 506 (by decide) (by decide) (by rw [b7]; exact hr 6 (by decide)), e6]; exact b7
  · rw [hcN 507 (by decide) (by decide) (by rw [b8]; exact hr 7 (by decide)), e7]; exact b8
  · rw [e508]
    intro x
    exact hl 23 (by simp) (b9 x)
  · rw [e508, eb, e11]; exact b10
  · rw [e508, eb]; exact b11
  · rw [e508, eb]
    intro k' hk'
    rw [nS_of (g := 2300) (by decide), e10 k' (by omega)]
    exact b12 k' hk'
  · intro p hp
    rw [e9 p hp, ← b13 p hp]
    show nC _ n k q e 2200 (9 * i + p) = _
    rw [nC_ne (Or.inr (by omega)) (by omega), rc_O (by decide) (by decide)]
/-- the new node itself -/
theorem nS_nn {M' : md_S} (hn : n < 60) (e3 : M'.2 3 n = k) (e4 : M'.2 4 n = q) (e8 : M'.2 8 n = e) (e5 : M'.2 5 n = -1) (e6 : M'.2 6 n = -1) (e7 : M'.2 7 n = -1) (e11 : M'.2 11 n = 0) (e9 : ∀ j, j < 9 → M'.2 9 (9 * n + j) = (if j = 0 then (if k = 0 then 0 else 1) else if j = 2 then -1 else if j = 3 then -1 else if j = 8 then 1 else 0)) : cl_nt (nS A S n k q e) M' n := by
  have hc : ∀ g, (500 ≤ g ∧ g ≤ 515) → (nS A S n k q e).2.1 g n = nV n k q e g := fun g hg => nC_at (Or.inl hg)
  have e508 : (nS A S n k q e).2.1 508 n = -1 := hc 508 (by decide)
  have eb : cl_bn (nS A S n k q e) (nI n) (-1) = 0 := if_pos rfl
  refine ⟨nL_n hn, ?_, ?_, ?_, ?_, ?_, ?_, ?_, ?_, ?_, ?_, ?_, ?_⟩
  · exact hc 500 (by decide)
  · rw [e3]; exact hc 501 (by decide)
  · rw [e4]; exact hc 502 (by decide)
  · rw [e8]; exact hc 503 (by decide)
  · rw [e5]; exact hc 505 (by decide)
  · rw [e6]; exact hc 506 (by decide)
  · rw [e7]; exact hc 507 (by decide)
  · rw [e508]; exact fun x => absurd rfl x
  · rw [e508, eb, e11]; rfl
  · rw [e508, eb]; decide
  · rw [e508, eb]; intro k' hk'; omega
  · intro p hp
    rw [e9 p hp, show (nS A S n k q e).2.1 2200 (9 * n + p) = nH k p from nC_has (C := (cl_rc A (nK n) (nK n) S).2.1) (q := q) (e := e) hp]
    have : ∀ p ∈ List.range 9, nH k p = (if p = 0 then (if k = 0 then 0 else 1) else if p = 2 then -1 else if p = 3 then -1 else if p = 8 then 1 else 0) := by
      intro p hp
      have hp := List.mem_range.mp hp
      match p, hp with
      | 0, _ => rfl
      | 1, _ => rfl
      | 2, _ => rfl
      | 3, _ => rfl
      | 4, _ => rfl
      | 5, _ => rfl
      | 6, _ => rfl
      | 7, _ => rfl
      | 8, _ => rfl
      | m + 9, h => omega
    exact this p (List.mem_range.mpr hp)
end N60
/-- before a root is planted -/
def PRE (A : cl_A) (S : cl_S) (M : md_S) (t Wp : Nat) : Prop := cl_z S ∧ (∀ f, f < 13 → cl_f S (nI f)) ∧ (S.2.1 801 0 = nI t ∧ M.1 1 = nI t ∧ t ≤ 400 ∧ ∀ p, p < t → S.2.1 2000 p = M.2 0 p) ∧ (wp_R S Wp ∧ Wp ≤ 3600) ∧ CE A S Wp
section CL60
variable {A : cl_A} {S S2 : cl_S} {M : md_S} {K : bt} {nn W t Wp : Nat}
theorem plant_INV (h : PRE A S M t Wp) (hL : S.2.2.1 + 2 < 2000000) (e : cl_X [301] (plS A S) S2) (e3 : S2.2.1 301 0 = 0) : INV (nA A 0 S.2.2.1) S2 (f_clear_M M) (.leaf ()) 1 0 t Wp := by
  obtain ⟨p1, p2, ⟨p3, p4, p5, p6⟩, ⟨p7, p8⟩, p9⟩ := h
  obtain ⟨g1, g2, g29, ⟨g3, g4, g5, g6, g7, g8, g11⟩, g9, g23, g0⟩ := clear_f (M := M)
  obtain ⟨iv1, iv2⟩ := IV_clear (M := M)
  have hX : cl_X [301, 2100, 803] (nS A (clr S 60) 0 0 (-1) 0) S2 := ((cl_X.rf.up (by decide) _ _).up (by decide) _ _ : cl_X [301, 2100, 803] _ (plS A S)).tr (e.sub (by decide))
  have hp9 : CE A (clr S 60) Wp := by
    unfold CE sg TB at p9 ⊢
    exact p9
  have hwp : wp_R (clr S 60) Wp := p7
  have hpl : ∀ g i, ¬ g = 301 → S2.2.1 g i = (plS A S).2.1 g i := fun g i hg => by rw [e.2.2 g (by simp [hg])]
  generalize f_clear_M M = N at *
  have hnt : cl_nt (nS A (clr S 60) 0 0 (-1) 0) N 0 := nS_nn (by decide) g3 g4 g8 g5 g6 g7 g11 (fun j hj => g9 j hj)
  have hT : cl_T S2 N 1 := ⟨by decide, (nS_z (A := A) (S := clr S 60) (n := 0) (k := 0) (q := -1) (e := 0) p1).mv hX.1, fun f hf => (nS_f (A := A) (S := clr S 60) (n := 0) (k := 0) (q := -1) (e := 0) (p2 f hf)).mv hX.1, fun i hi => by
    have : i = 0 := by omega
    subst this
    exact hnt.mv hX.1 (fun g hg => hX.2.2 g ((show ∀ g ∈ X_st, g ∉ [301, 2100, 803] by decide) g hg))⟩
  have h803 : S2.2.1 803 0 = 1 := by
    rw [hpl 803 0 (by decide)]
    exact cl_up_at _ _ _ _
  have h2100 : ∀ p, p < 60 → S2.2.1 2100 p = if p < 1 then nI p else -1 := by
    intro p hp
    rw [hpl 2100 p (by decide)]
    unfold plS
    rw [cl_up_off _ _ (by omega)]
    by_cases c : p = 0
    · subst c
      rw [cl_up_at]
      rfl
    · rw [cl_up_off _ _ (by omega), if_neg (by omega), nS_N (by decide)]
      show rcv A 5 100 (nK 0) (if 2100 = 2100 ∧ p < 60 then -1 else _) = -1
      rw [if_pos ⟨rfl, hp⟩, rcv_m1]
  have hold : ∀ g, nob g = true → ¬ g = 301 → ¬ g = 2100 → ¬ g = 803 → S2.2.1 g = S.2.1 g := fun g h1 h2 h3 h4 => by
    rw [hX.2.2 g (by simp [h2, h3, h4]), nS_of h1]
    funext i
    show (if g = 2100 ∧ i < 60 then (-1 : Int32) else _) = _
    rw [if_neg (fun x => h3 x.1)]
  have hwp2 : wp_R S2 Wp := (nS_wp (by decide) hwp).x hX (by decide)
  refine ⟨⟨iv1, hT, by rw [h803]; rfl, h2100, ⟨by rw [hold 801 (by decide) (by decide) (by decide) (by decide)]; exact p3, by rw [g1 1 (by decide) (by decide)]; exact p4, p5, fun p hp => by rw [hold 2000 (by decide) (by decide) (by decide) (by decide), g0]; exact p6 p hp⟩, ⟨Wp, hwp2, Nat.zero_le _⟩, e3, g29, Nat.zero_le _, ?_, fun w hw => absurd hw (Nat.not_lt_zero _)⟩, iv2, ⟨hwp2, Nat.zero_le _, p8⟩, ?_⟩
  · intro n hn
    have : n = 0 := by omega
    subst this
    have h511 : S2.2.1 511 0 = 0 := by
      rw [hX.2.2 511 (by decide)]
      exact nC_at (n := 0) (k := 0) (q := -1) (e := 0) (C := (cl_rc A (nK 0) (nK 0) (clr S 60)).2.1) (g := 511) (Or.inl (by decide))
    refine ⟨⟨fun x => absurd (g23 0 (by decide)) x, fun x => absurd h511 x⟩, fun x => absurd (g23 0 (by decide)) x⟩
  · exact (nS_CE (S := clr S 60) (by decide) hL hp9).x hX (by decide)
end CL60
