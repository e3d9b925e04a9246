/-! the class: end, line, margin (by hand: wip/whole/gen/c47.py) -/
def X_cr : List Nat := [0, 1, 2, 3, 301, 500, 501, 502, 503, 505, 506, 507, 508, 511, 700, 701, 702, 801, 803, 1001, 1002, 2000, 2100, 2200, 2300, 2301, 2500, 2501]
theorem wp_R.x {S S' : cl_S} {Wp : Nat} {cs : List Nat} (h : wp_R S Wp) (e : cl_X cs S S') (hc : ∀ g ∈ [1001, 1002, 2500, 2501], g ∉ cs) : wp_R S' Wp := by
  obtain ⟨h1, h2, h3, h4, h5⟩ := h
  have e' : ∀ g ∈ [1001, 1002, 2500, 2501], S'.2.1 g = S.2.1 g := fun g hg => e.2.2 g (hc g hg)
  refine ⟨h1, ?_, ?_, fun q => ?_, fun w hw => ?_⟩
  · rw [e' 1002 (by decide)]; exact h2
  · rw [e' 2501 (by decide)]; exact h3
  · rw [e' 1001 (by decide), e.1]; exact h4 q
  · rw [e' 2500 (by decide)]
    exact ⟨(h5 w hw).1, (h5 w hw).2.mv e.1⟩
section CR2
variable {xs : List Int32} {Kp : Nat → Prop} {A : cl_A} {S S' : cl_S} {M M' : md_S} {K : bt} {nn W t : Nat}
theorem CR.x {cs : List Nat} (h : CR S M K nn W t) (e : cl_X cs S S') (hc : ∀ g ∈ X_cr, g ∉ cs) : CR S' M K nn W t := by
  obtain ⟨h1, h2, h3, h4, h5, ⟨Wp, h6, h6'⟩, h7, h8, h9, h10, h11⟩ := h
  have e' : ∀ g ∈ X_cr, S'.2.1 g = S.2.1 g := fun g hg => e.2.2 g (hc g hg)
  refine ⟨h1, h2.x e (fun g hg => hc g ((show ∀ g ∈ X_st, g ∈ X_cr by decide) g hg)), by rw [e' 803 (by decide)]; exact h3, by rw [e' 2100 (by decide)]; exact h4, by rw [e' 801 (by decide), e' 2000 (by decide)]; exact h5, ⟨Wp, h6.x e (fun g hg => hc g ((show ∀ g ∈ [1001, 1002, 2500, 2501], g ∈ X_cr by decide) g hg)), h6'⟩, by rw [e' 301 (by decide)]; exact h7, h8, h9, ?_, ?_⟩
  · unfold bx_eq at h10 ⊢
    rw [e' 511 (by decide), e' 0 (by decide), e' 1 (by decide), e' 2 (by decide), e' 3 (by decide)]
    exact h10
  · unfold wd_eq at h11 ⊢
    rw [e' 700 (by decide), e' 701 (by decide), e' 702 (by decide), e' 0 (by decide), e' 1 (by decide), e' 2 (by decide), e' 3 (by decide)]
    exact h11
def X_mr : List Nat := [0, 3, 4, 5, 6, 7, 8, 9, 10, 11, 23, 24, 25, 26, 27, 30, 31, 32, 33, 34, 35, 36]
theorem IV.m (h : IV M K nn) (e2 : M'.1 2 = M.1 2) (e : ∀ f, 3 ≤ f → f ≤ 11 → M'.2 f = M.2 f) : IV M' K nn := by
  obtain ⟨⟨n1, ⟨n2, n3, n4, n5⟩, n6⟩, hv⟩ := h
  refine ⟨⟨by rw [e2]; exact n1, ⟨by rw [e 4 (by omega) (by omega), e 5 (by omega) (by omega), e 7 (by omega) (by omega)]; exact n2, n3, n4, n5⟩, n6⟩, fun i hi => iv_of (e 3 (by omega) (by omega)) (e 4 (by omega) (by omega)) (e 5 (by omega) (by omega)) (e 8 (by omega) (by omega)) (e 9 (by omega) (by omega)) (e 11 (by omega) (by omega)) (hv i hi)⟩
theorem CR.m (h : CR S M K nn W t) (e1 : M'.1 1 = M.1 1) (e2 : M'.1 2 = M.1 2) (e29 : M'.1 29 = M.1 29) (e : ∀ f ∈ X_mr, M'.2 f = M.2 f) : CR S M' K nn W t := by
  obtain ⟨h1, h2, h3, h4, h5, h6, h7, h8, h9, h10, h11⟩ := h
  have e' : ∀ f, 3 ≤ f → f ≤ 11 → M'.2 f = M.2 f := fun f q1 q2 => e f (by
    have : ∀ f ∈ List.range 12, 3 ≤ f → f ∈ X_mr := by decide
    exact this f (List.mem_range.mpr (by omega)) q1)
  refine ⟨h1.m e2 e', h2.mm e', h3, h4, by rw [e1, e 0 (by decide)]; exact h5, h6, h7, by rw [e29]; exact h8, h9, ?_, ?_⟩
  · unfold bx_eq at h10 ⊢
    rw [e 23 (by decide), e 24 (by decide), e 25 (by decide), e 26 (by decide), e 27 (by decide)]
    exact h10
  · unfold wd_eq at h11 ⊢
    rw [e 30 (by decide), e 31 (by decide), e 32 (by decide), e 33 (by decide), e 34 (by decide), e 35 (by decide), e 36 (by decide)]
    exact h11
theorem CR.tape (h : CR S M K nn W t) {t' : Nat} (ht : t' ≤ t) : CR (cl_up S 801 0 (nI t')) (md_up1 M 1 (nI t')) K nn W t' := by
  obtain ⟨h1, h2, h3, h4, ⟨a1, a2, a3, a4⟩, ⟨Wp, h6, h6'⟩, h7, h8, h9, h10, h11⟩ := h
  have e : cl_X [801] S (cl_up S 801 0 (nI t')) := cl_X.rf.up (by decide) _ _
  have e' : ∀ g, g ≠ 801 → (cl_up S 801 0 (nI t')).2.1 g = S.2.1 g := fun g hg => e.2.2 g (by simp [hg])
  refine ⟨h1.m (md_up1_ne _ (by decide) _) (fun f _ _ => rfl), (h2.x e (by decide)).mm (fun f _ _ => rfl), by rw [e' 803 (by decide)]; exact h3, by rw [e' 2100 (by decide)]; exact h4, ⟨cl_up_at _ _ _ _, md_up1_at _ _ _, by omega, fun p hp => ?_⟩, ⟨Wp, h6.x e (by decide), h6'⟩, by rw [e' 301 (by decide)]; exact h7, by rw [md_up1_ne _ (by decide)]; exact h8, h9, ?_, ?_⟩
  · rw [e' 2000 (by decide)]
    exact a4 p (by omega)
  · unfold bx_eq at h10 ⊢
    rw [e' 511 (by decide), e' 0 (by decide), e' 1 (by decide), e' 2 (by decide), e' 3 (by decide)]
    exact h10
  · unfold wd_eq at h11 ⊢
    rw [e' 700 (by decide), e' 701 (by decide), e' 702 (by decide), e' 0 (by decide), e' 1 (by decide), e' 2 (by decide), e' 3 (by decide)]
    exact h11
theorem nat_of {x : Int32} (h : ¬ x < 0) : x = nI x.toNatClampNeg := by
  rw [Int32.lt_iff_toInt_lt, lit_0] at h
  have := Int32.toInt_lt x
  apply Int32.toInt_inj.mp
  rw [nI_toInt (by rw [Int32.toNatClampNeg]; omega), Int32.toNatClampNeg]
  omega
/-- what calls that make nothing may change -/
def X_sm : List Nat := [600, 601, 801, 2200]
theorem kk_end (h : CR S M K nn W t) {d : Nat} {x : Int32} : ∀ Q', (∀ S' t', CR S' (f_end_M M x) K nn W t' → cl_X X_sm S S' → Q' (some (.int (f_end M x))) A S') → cl_C xs Kp (d + 1) 14 [cl_rf A 8 0, .int x] A S Q' := by
  intro Q' hQ
  have hh := h
  obtain ⟨h1, h2, h3, h4, ⟨a1, a2, a3, a4⟩, _⟩ := h
  refine cl_intro (ms14 xs) (Nat.le_of_ble_eq_true rfl) (fun h0 => vc14_0 ⟨fun c => ?_, fun c => ⟨h2.2.1, fun c2 => ?_, fun c2 => ?_⟩⟩)
  · have := hQ S t (by unfold f_end_M; rw [if_pos c]; exact hh) cl_X.rf
    unfold f_end at this
    rw [if_pos c] at this
    exact this
  · rw [a1] at c2
    have e := nat_of c
    have hle : x.toNatClampNeg ≤ t := by
      rw [Int32.le_iff_toInt_le, nI_toInt (by omega)] at c2
      rw [Int32.toNatClampNeg]
      omega
    have := hQ (cl_up S 801 0 x) x.toNatClampNeg (by
      unfold f_end_M
      rw [if_neg c, a2, if_pos c2]
      have k := hh.tape hle
      rw [← e] at k
      exact k) (cl_X.rf.up (by decide) _ _)
    unfold f_end at this
    rw [if_neg c, a2, if_pos c2] at this
    exact this
  · rw [a1] at c2
    have := hQ S t (by unfold f_end_M; rw [if_neg c, a2, if_neg c2]; exact hh) cl_X.rf
    unfold f_end at this
    rw [if_neg c, a2, if_neg c2] at this
    exact this
/-- a node's kids, as they lie in the tree -/
theorem ht_le : ∀ (t : bt), bt_ht t ≤ (bt_pre t).length := by
  intro t
  induction t with
  | leaf u => exact Nat.le_refl _
  | branch i k s ihk ihs =>
    show max (bt_ht k + 1) (bt_ht s) ≤ _
    simp only [bt_pre, List.length_cons, List.length_append]
    omega
theorem IV.kids (h : IV M K nn) {i : Nat} (hi : i < nn) : bt_R (M.2 4) (M.2 5) (M.2 7) (nI i) (bt_kids (bt_root K) i) ∧ M.2 5 i = bt_hd (-1) (bt_kids (bt_root K) i) ∧ (∀ x ∈ bt_pre (bt_kids (bt_root K) i), x < nn) ∧ (bt_pre (bt_kids (bt_root K) i)).length ≤ 60 := by
  have hiff := md_N_iff h.1
  obtain ⟨⟨n1, ⟨n2, n3, n4, n5⟩, n6⟩, hv⟩ := h
  obtain ⟨p', s', hR⟩ := bt_kids_R n2 n3 ((hiff i).mp hi)
  have hsub : ∀ (t : bt), i ∈ bt_pre t → (∀ x ∈ bt_pre (bt_kids t i), x ∈ bt_pre t) ∧ (bt_pre (bt_kids t i)).length ≤ (bt_pre t).length := by
    intro t ht
    have key : bt_all (fun j k => (∀ x ∈ bt_pre k, x ∈ bt_pre t) ∧ (bt_pre k).length ≤ (bt_pre t).length) t := by
      have gen : ∀ (u : bt), (∀ x ∈ bt_pre u, x ∈ bt_pre t) → (bt_pre u).length ≤ (bt_pre t).length → bt_all (fun j k => (∀ x ∈ bt_pre k, x ∈ bt_pre t) ∧ (bt_pre k).length ≤ (bt_pre t).length) u := by
        intro u
        induction u with
        | leaf _ => intro _ _; trivial
        | branch j k s ihk ihs =>
          intro hx hl
          simp only [bt_pre, List.length_cons, List.length_append] at hl
          have kx : ∀ x ∈ bt_pre k, x ∈ bt_pre t := fun x q => hx x (by simp [bt_pre, q])
          exact ⟨⟨kx, by omega⟩, ihk kx (by omega), ihs (fun x q => hx x (by simp [bt_pre, q])) (by omega)⟩
      exact gen t (fun x hx => hx) (Nat.le_refl _)
    exact bt_all_kids key ht
  obtain ⟨q1, q2⟩ := hsub (bt_root K) ((hiff i).mp hi)
  have n4' : (bt_pre (bt_root K)).length = nn := n4
  exact ⟨hR.1.2.2.2.2.1, hR.1.2.2.1, fun x hx => (hiff x).mpr (q1 x hx), by omega⟩
theorem kk_line (h : CR S M K nn W t) {d : Nat} {x : Int32} : ∀ Q', (∀ S', CR S' M K nn W t → cl_X X_sm S S' → Q' (some (.int (if ¬ f_there M x = 0 ∧ M.2 3 x.toNatClampNeg = 0 then f_ol M x.toNatClampNeg (bt_kids (bt_root K) x.toNatClampNeg) else -1))) A S') → cl_C xs Kp (d + 70) 102 [cl_rf A 8 0, .int x] A S Q' := by
  intro Q' hQ
  have hh := h
  obtain ⟨h1, h2, h3, h4, _⟩ := h
  have h60 := h2.1
  refine cl_intro (d := d + 49 + 20) (ms102 xs) (Nat.le_of_ble_eq_true rfl) (fun h0 => vc102_0 ⟨h2.2.1, kk_elementAt hh _ (fun i hi e c => ?_) (fun hne => ?_)⟩)
  · subst e
    have ci : (nI i).toNatClampNeg = i := nI_clamp (by omega)
    obtain ⟨k1, k2, k3, k4⟩ := h1.kids hi
    have hht := ht_le (bt_kids (bt_root K) i)
    have hv := h1.2 i hi
    have hs : ¬ f_of M (nI i) 8 = 0 := by
      intro q
      have := hv.2.2.2.2.2.2.2.2.2.2.2.2.2.2.1
      rw [q, lit_0] at this
      omega
    refine ⟨rfl, rfl, nI i, rfl, fun _ => kk_oneLine h2 hi k1 k2 k3 k4 (hv.2.2.2.2.1 (by rw [c]; decide)) hs (by omega) _ (fun e => ?_), fun q => absurd (nI_ne_m1 (by omega)) q⟩
    refine ⟨rfl, (cl_ru_X S e).1, _, rfl, ?_⟩
    have := hQ (cl_ru S e) (hh.x (cl_ru_X S e) (by decide)) ((cl_ru_X S e).sub (by decide))
    rw [ci, if_pos ⟨(there_iff h1.1.1 h60 _).mpr ⟨i, hi, rfl⟩, c⟩] at this
    exact this
  · refine ⟨rfl, rfl, -1, rfl, fun q => absurd rfl q, fun _ => ?_⟩
    have := hQ S hh cl_X.rf
    rw [if_neg (fun q => ?_)] at this
    · exact this
    · obtain ⟨i, hi, e⟩ := (there_iff h1.1.1 h60 _).mp q.1
      subst e
      have := q.2
      rw [nI_clamp (by omega)] at this
      exact hne ⟨i, hi, rfl, this⟩
end CR2
