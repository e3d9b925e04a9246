/-! the class and the reference's tree: the relation; walking methods (by hand: wip/whole/gen/c7.py) -/
/-- the same but for these codes -/
def cl_X (cs : List Nat) (S S' : cl_S) : Prop := S'.1 = S.1 ∧ S'.2.2 = S.2.2 ∧ ∀ g, g ∉ cs → S'.2.1 g = S.2.1 g
theorem cl_X.rf {cs : List Nat} {S : cl_S} : cl_X cs S S := ⟨rfl, rfl, fun _ _ => rfl⟩
theorem cl_X.tr {cs : List Nat} {S S1 S2 : cl_S} (a : cl_X cs S S1) (b : cl_X cs S1 S2) : cl_X cs S S2 := ⟨b.1.trans a.1, b.2.1.trans a.2.1, fun g h => (b.2.2 g h).trans (a.2.2 g h)⟩
theorem cl_X.sub {cs cs' : List Nat} {S S' : cl_S} (a : cl_X cs S S') (h : ∀ g ∈ cs, g ∈ cs') : cl_X cs' S S' := ⟨a.1, a.2.1, fun g q => a.2.2 g (fun r => q (h g r))⟩
theorem cl_X.up {cs : List Nat} {S S' : cl_S} (a : cl_X cs S S') {g : Nat} (hg : g ∈ cs) (i : Nat) (v : Int32) : cl_X cs S (cl_up S' g i v) := ⟨a.1, a.2.1, fun q hq => by
  rw [← a.2.2 q hq]
  funext j
  exact cl_up_off S' v (fun e => hq (by rw [e.1]; exact hg))⟩
/-- node i of the class is node i of the reference -/
def cl_nt (S : cl_S) (M : md_S) (i : Nat) : Prop := cl_n S (nI i) ∧ S.2.1 500 i = nI i ∧ S.2.1 501 i = M.2 3 i ∧ S.2.1 502 i = M.2 4 i ∧ S.2.1 503 i = M.2 8 i ∧ S.2.1 505 i = M.2 5 i ∧ S.2.1 506 i = M.2 6 i ∧ S.2.1 507 i = M.2 7 i ∧ (¬ S.2.1 508 i = -1 → S.1 23 i) ∧ M.2 11 i = nI (cl_bn S (nI i) (S.2.1 508 i)) ∧ cl_bn S (nI i) (S.2.1 508 i) ≤ 120 ∧ (∀ k, k < cl_bn S (nI i) (S.2.1 508 i) → S.2.1 2300 (120 * i + k) = M.2 10 (120 * i + k)) ∧ ∀ p, p < 9 → S.2.1 2200 (9 * i + p) = M.2 9 (9 * i + p)
def cl_T (S : cl_S) (M : md_S) (nn : Nat) : Prop := nn ≤ 60 ∧ cl_z S ∧ (∀ f, f < 13 → cl_f S (nI f)) ∧ ∀ i, i < nn → cl_nt S M i
def X_st : List Nat := [500, 501, 502, 503, 505, 506, 507, 508, 2200, 2300, 2301]
theorem cl_nt.mv {S S' : cl_S} {M : md_S} {i : Nat} (h : cl_nt S M i) (e1 : S'.1 = S.1) (e2 : ∀ g, g ∈ X_st → S'.2.1 g = S.2.1 g) : cl_nt S' M i := by
  have eb : cl_bn S' (nI i) (S'.2.1 508 i) = cl_bn S (nI i) (S.2.1 508 i) := by
    unfold cl_bn
    rw [e2 508 (by decide), e2 2301 (by decide)]
  obtain ⟨h1, h2, h3, h4, h5, h6, h7, h8, h9, h10, h11, h12, h13⟩ := h
  refine ⟨h1.mv e1, ?_, ?_, ?_, ?_, ?_, ?_, ?_, ?_, ?_, ?_, ?_, ?_⟩
  · rw [e2 500 (by decide)]; exact h2
  · rw [e2 501 (by decide)]; exact h3
  · rw [e2 502 (by decide)]; exact h4
  · rw [e2 503 (by decide)]; exact h5
  · rw [e2 505 (by decide)]; exact h6
  · rw [e2 506 (by decide)]; exact h7
  · rw [e2 507 (by decide)]; exact h8
  · rw [e2 508 (by decide), e1]; exact h9
  · rw [eb]; exact h10
  · rw [eb]; exact h11
  · rw [eb, e2 2300 (by decide)]; exact h12
  · rw [e2 2200 (by decide)]; exact h13
theorem cl_T.mv {S S' : cl_S} {M : md_S} {nn : Nat} (h : cl_T S M nn) (e1 : S'.1 = S.1) (e2 : ∀ g, g ∈ X_st → S'.2.1 g = S.2.1 g) : cl_T S' M nn :=
  ⟨h.1, h.2.1.mv e1, fun f hf => (h.2.2.1 f hf).mv e1, fun i hi => (h.2.2.2 i hi).mv e1 e2⟩
theorem cl_T.x {S S' : cl_S} {M : md_S} {nn : Nat} {cs : List Nat} (h : cl_T S M nn) (e : cl_X cs S S') (hc : ∀ g ∈ X_st, g ∉ cs) : cl_T S' M nn := h.mv e.1 (fun g hg => e.2.2 g (hc g hg))
theorem cl_T.mm {S : cl_S} {M M' : md_S} {nn : Nat} (h : cl_T S M nn) (e : ∀ f, 3 ≤ f → f ≤ 11 → M'.2 f = M.2 f) : cl_T S M' nn := by
  refine ⟨h.1, h.2.1, h.2.2.1, fun i hi => ?_⟩
  have := h.2.2.2 i hi
  unfold cl_nt at this ⊢
  rw [e 3 (by decide) (by decide), e 4 (by decide) (by decide), e 5 (by decide) (by decide), e 6 (by decide) (by decide), e 7 (by decide) (by decide), e 8 (by decide) (by decide), e 9 (by decide) (by decide), e 10 (by decide) (by decide), e 11 (by decide) (by decide)]
  exact this
section CT
variable {S : cl_S} {M : md_S} {nn i : Nat}
theorem cl_T.i31 (h : cl_T S M nn) (hi : i < nn) : i < 2 ^ 31 := by have := h.1; omega
theorem cl_T.cl (h : cl_T S M nn) (hi : i < nn) : (nI i).toNatClampNeg = i := nI_clamp (h.i31 hi)
theorem cl_T.n (h : cl_T S M nn) (hi : i < nn) : cl_n S (nI i) := (h.2.2.2 i hi).1
theorem cl_T.num (h : cl_T S M nn) (hi : i < nn) : S.2.1 500 i = nI i := (h.2.2.2 i hi).2.1
theorem cl_T.kind (h : cl_T S M nn) (hi : i < nn) : S.2.1 501 i = M.2 3 i := (h.2.2.2 i hi).2.2.1
theorem cl_T.par (h : cl_T S M nn) (hi : i < nn) : S.2.1 502 i = M.2 4 i := (h.2.2.2 i hi).2.2.2.1
theorem cl_T.dep (h : cl_T S M nn) (hi : i < nn) : S.2.1 503 i = M.2 8 i := (h.2.2.2 i hi).2.2.2.2.1
theorem cl_T.fk (h : cl_T S M nn) (hi : i < nn) : S.2.1 505 i = M.2 5 i := (h.2.2.2 i hi).2.2.2.2.2.1
theorem cl_T.lk (h : cl_T S M nn) (hi : i < nn) : S.2.1 506 i = M.2 6 i := (h.2.2.2 i hi).2.2.2.2.2.2.1
theorem cl_T.nx (h : cl_T S M nn) (hi : i < nn) : S.2.1 507 i = M.2 7 i := (h.2.2.2 i hi).2.2.2.2.2.2.2.1
theorem cl_T.by (h : cl_T S M nn) (hi : i < nn) : ¬ S.2.1 508 i = -1 → S.1 23 i := (h.2.2.2 i hi).2.2.2.2.2.2.2.2.1
theorem cl_T.bc (h : cl_T S M nn) (hi : i < nn) : M.2 11 i = nI (cl_bn S (nI i) (S.2.1 508 i)) := (h.2.2.2 i hi).2.2.2.2.2.2.2.2.2.1
theorem cl_T.b120 (h : cl_T S M nn) (hi : i < nn) : cl_bn S (nI i) (S.2.1 508 i) ≤ 120 := (h.2.2.2 i hi).2.2.2.2.2.2.2.2.2.2.1
theorem cl_T.bb (h : cl_T S M nn) (hi : i < nn) : ∀ k, k < cl_bn S (nI i) (S.2.1 508 i) → S.2.1 2300 (120 * i + k) = M.2 10 (120 * i + k) := (h.2.2.2 i hi).2.2.2.2.2.2.2.2.2.2.2.1
theorem cl_T.has (h : cl_T S M nn) (hi : i < nn) {p : Nat} (hp : p < 9) : S.2.1 2200 (9 * i + p) = f_of M (nI i) (nI p) := by
  rw [(h.2.2.2 i hi).2.2.2.2.2.2.2.2.2.2.2.2 p hp]
  unfold f_of
  rw [nI_9, nI_clamp (by have := h.1; omega)]
theorem cl_T.h0 (h : cl_T S M nn) (hi : i < nn) : S.2.1 2200 (9 * i + 0) = f_of M (nI i) 0 := h.has hi (by decide)
theorem cl_T.h1 (h : cl_T S M nn) (hi : i < nn) : S.2.1 2200 (9 * i + 1) = f_of M (nI i) 1 := h.has hi (by decide)
theorem cl_T.h2 (h : cl_T S M nn) (hi : i < nn) : S.2.1 2200 (9 * i + 2) = f_of M (nI i) 2 := h.has hi (by decide)
theorem cl_T.h3 (h : cl_T S M nn) (hi : i < nn) : S.2.1 2200 (9 * i + 3) = f_of M (nI i) 3 := h.has hi (by decide)
theorem cl_T.h4 (h : cl_T S M nn) (hi : i < nn) : S.2.1 2200 (9 * i + 4) = f_of M (nI i) 4 := h.has hi (by decide)
theorem cl_T.h5 (h : cl_T S M nn) (hi : i < nn) : S.2.1 2200 (9 * i + 5) = f_of M (nI i) 5 := h.has hi (by decide)
theorem cl_T.h6 (h : cl_T S M nn) (hi : i < nn) : S.2.1 2200 (9 * i + 6) = f_of M (nI i) 6 := h.has hi (by decide)
theorem cl_T.h7 (h : cl_T S M nn) (hi : i < nn) : S.2.1 2200 (9 * i + 7) = f_of M (nI i) 7 := h.has hi (by decide)
theorem cl_T.h8 (h : cl_T S M nn) (hi : i < nn) : S.2.1 2200 (9 * i + 8) = f_of M (nI i) 8 := h.has hi (by decide)
theorem cl_T.frame (h : cl_T S M nn) (hi : i < nn) : g_frame S (nI i) = f_edges M (nI i) := by
  unfold g_frame f_edges
  rw [h.cl hi, h.h5 hi, h.h6 hi]
theorem cl_T.isB (h : cl_T S M nn) (hi : i < nn) : g_isB S (nI i) = f_isBlock M (nI i) := by
  unfold g_isB f_isBlock
  rw [h.cl hi, h.h0 hi, h.h1 hi, h.kind hi]
theorem cl_T.fh (h : cl_T S M nn) (hi : i < nn) (x : Int32) : g_fh S (nI i) x = f_heightOf M (nI i) x := by
  unfold g_fh f_heightOf
  rw [h.cl hi, h.h3 hi, h.frame hi]
end CT
set_option maxHeartbeats 1000000 in
theorem vc91_0 {xs : List Int32} {K : Nat → Prop} {h0 : am_H} {d : Nat} {Q : Option Value → cl_A → cl_S → Prop} {A : cl_A} {S : cl_S} {x0 : Int32}
    (k : (cl_n S x0) ∧ ((((g_isB S x0) = 0) → Q (some (.int 0)) A S) ∧ (¬ ((g_isB S x0) = 0) → ((¬ (S.2.1 2200 (9 * x0.toNatClampNeg + 0)) = 0) → Q (some (.int 0)) A S) ∧ (¬ (¬ (S.2.1 2200 (9 * x0.toNatClampNeg + 0)) = 0) → ((¬ (g_frame S x0) = 0) → Q (some (.int 0)) A S) ∧ (¬ (¬ (g_frame S x0) = 0) → (((S.2.1 502 x0.toNatClampNeg) = -1) → Q (some (.int 0)) A S) ∧ (¬ ((S.2.1 502 x0.toNatClampNeg) = -1) → (cl_n S (S.2.1 502 x0.toNatClampNeg)) ∧ (((¬ (S.2.1 2200 (9 * (S.2.1 502 x0.toNatClampNeg).toNatClampNeg + 0)) = 0) → Q (some (.int 0)) A S) ∧ (¬ (¬ (S.2.1 2200 (9 * (S.2.1 502 x0.toNatClampNeg).toNatClampNeg + 0)) = 0) → Q (some (.int 1)) A S)))))))) :
    cl_wp xs K h0 (d + 2) Q I91 0 [some (cl_rf A 5 x0)] [] A S := by
  refine cl_aload_n (dd D91_ok 0 rfl) rfl ?_
  refine cl_callsP (r := .int (g_isB S x0)) (as := [cl_rf A 5 x0]) (rest := []) (dd D91_ok 1 rfl) pl11_42 rfl (Nat.le_of_ble_eq_true rfl) (cc_g_isB (S := S) k.1) rfl ?_
  refine cl_if_eq (tgt := 46) (dd D91_ok 2 rfl) (by decide) (fun c1 => ?_) (fun c1 => ?_)
  · refine cl_iconst (v := 0) (dd D91_ok 22 rfl) (by decide) ?_
    exact cl_iret (dd D91_ok 23 rfl) rfl (k.2.1 c1)
  · refine cl_aload_n (dd D91_ok 3 rfl) rfl ?_
    refine cl_getO (g := 22) (dd D91_ok 4 rfl) pl11_15 (by decide) (by decide) (by decide) rfl k.1.l5 ?_
    refine cl_iconst (v := 0) (dd D91_ok 5 rfl) (by decide) ?_
    refine cl_hs (q := 0) (e := S.2.1 2200 (9 * x0.toNatClampNeg + 0)) (dd D91_ok 6 rfl) k.1.l22 (md_vl (by decide)) (by decide) rfl ?_
    refine cl_if_ne (tgt := 46) (dd D91_ok 7 rfl) (by decide) (fun c2 => ?_) (fun c2 => ?_)
    · refine cl_iconst (v := 0) (dd D91_ok 22 rfl) (by decide) ?_
      exact cl_iret (dd D91_ok 23 rfl) rfl ((k.2.2 c1).1 c2)
    · refine cl_aload_n (dd D91_ok 8 rfl) rfl ?_
      refine cl_callP (r := .int (g_frame S x0)) (as := []) (rest := []) (v := x0) (dd D91_ok 9 rfl) pl11_49 rfl (Nat.le_of_ble_eq_true rfl) (ms53 xs) rfl (by decide) k.1.l5 (cc_g_frame (S := S) k.1) rfl ?_
      refine cl_if_ne (tgt := 46) (dd D91_ok 10 rfl) (by decide) (fun c3 => ?_) (fun c3 => ?_)
      · refine cl_iconst (v := 0) (dd D91_ok 22 rfl) (by decide) ?_
        exact cl_iret (dd D91_ok 23 rfl) rfl (((k.2.2 c1).2 c2).1 c3)
      · refine cl_aload_n (dd D91_ok 11 rfl) rfl ?_
        refine cl_gR (g := 502) (f := 5) (e := S.2.1 502 x0.toNatClampNeg) (dd D91_ok 12 rfl) pl11_53 (by decide) (by decide) (by decide) rfl rfl k.1.l5 rfl ?_
        refine cl_ifnull (tgt := 46) (dd D91_ok 13 rfl) (by decide) (fun c4 => ?_) (fun c4 => ?_)
        · refine cl_iconst (v := 0) (dd D91_ok 22 rfl) (by decide) ?_
          exact cl_iret (dd D91_ok 23 rfl) rfl ((((k.2.2 c1).2 c2).2 c3).1 c4)
        · refine cl_aload_n (dd D91_ok 14 rfl) rfl ?_
          refine cl_gR (g := 502) (f := 5) (e := S.2.1 502 x0.toNatClampNeg) (dd D91_ok 15 rfl) pl11_53 (by decide) (by decide) (by decide) rfl rfl k.1.l5 rfl ?_
          refine cl_getO (g := 22) (dd D91_ok 16 rfl) pl11_15 (by decide) (by decide) (by decide) rfl ((((k.2.2 c1).2 c2).2 c3).2 c4).1.l5 ?_
          refine cl_iconst (v := 0) (dd D91_ok 17 rfl) (by decide) ?_
          refine cl_hs (q := 0) (e := S.2.1 2200 (9 * (S.2.1 502 x0.toNatClampNeg).toNatClampNeg + 0)) (dd D91_ok 18 rfl) ((((k.2.2 c1).2 c2).2 c3).2 c4).1.l22 (md_vl (by decide)) (by decide) rfl ?_
          refine cl_if_ne (tgt := 46) (dd D91_ok 19 rfl) (by decide) (fun c5 => ?_) (fun c5 => ?_)
          · refine cl_iconst (v := 0) (dd D91_ok 22 rfl) (by decide) ?_
            exact cl_iret (dd D91_ok 23 rfl) rfl (((((k.2.2 c1).2 c2).2 c3).2 c4).2.1 c5)
          · refine cl_iconst (v := 1) (dd D91_ok 20 rfl) (by decide) ?_
            refine cl_goto (tgt := 47) (dd D91_ok 21 rfl) (by decide) ?_
            exact cl_iret (dd D91_ok 23 rfl) rfl (((((k.2.2 c1).2 c2).2 c3).2 c4).2.2 c5)
theorem kk_open {xs : List Int32} {K : Nat → Prop} {d : Nat} {A : cl_A} {S : cl_S} {M : md_S} {nn i : Nat} (hT : cl_T S M nn) (hi : i < nn) (hp : M.2 4 i = -1 ∧ i = 0 ∨ ¬ i = 0 ∧ ∃ p, p < nn ∧ M.2 4 i = nI p) : ∀ Q', Q' (some (.int (f_joins M (nI i)))) A S → cl_C xs K (d + 3) 91 [cl_rf A 5 (nI i)] A S Q' := by
  intro Q' hQ
  refine cl_intro (ms91 xs) (Nat.le_of_ble_eq_true rfl) (fun h0 => vc91_0 ?_)
  have h60 := hT.1
  simp only [hT.isB hi, hT.frame hi, hT.cl hi, hT.h0 hi, hT.par hi]
  unfold f_joins at hQ
  rcases hp with ⟨h1, h2⟩ | ⟨h1, p, hp1, hp2⟩
  · have hz : (nI i : Int32) ≤ 0 := by rw [h2]; decide
    rw [if_pos hz] at hQ
    refine ⟨hT.n hi, fun c => hQ, fun c => ⟨fun c => hQ, fun c => ⟨fun c => hQ, fun c => ⟨fun c => hQ, fun c => absurd h1 c⟩⟩⟩⟩
  · have hz : ¬ (nI i : Int32) ≤ 0 := by
      have := nI_ge (a := 0) (b := i) (by omega) (by omega)
      exact this
    rw [if_neg hz, nI_clamp (by omega), hp2] at hQ
    rw [hp2, hT.cl hp1, hT.h0 hp1]
    refine ⟨hT.n hi, fun c => ?_, fun c => ⟨fun c2 => ?_, fun c2 => ⟨fun c3 => ?_, fun c3 => ⟨fun c4 => absurd c4 (nI_ne_m1 (by omega)), fun c4 => ⟨hT.n hp1, fun c5 => ?_, fun c5 => ?_⟩⟩⟩⟩⟩
    · rw [if_pos c] at hQ; exact hQ
    · rw [if_neg c, if_pos c2] at hQ; exact hQ
    · rw [if_neg c, if_neg c2, if_pos c3] at hQ; exact hQ
    · rw [if_neg c, if_neg c2, if_neg c3, if_pos c5] at hQ; exact hQ
    · rw [if_neg c, if_neg c2, if_neg c3, if_neg c5] at hQ; exact hQ
set_option maxHeartbeats 1000000 in
theorem vc94_0 {xs : List Int32} {K : Nat → Prop} {h0 : am_H} {d : Nat} {Q : Option Value → cl_A → cl_S → Prop} {A : cl_A} {S : cl_S} {x0 : Int32}
    (k : (cl_n S x0) ∧ (cl_wp xs K h0 d Q I94 5 [some (cl_rf A 5 x0), some (cl_rf A 5 (S.2.1 505 x0.toNatClampNeg))] [] A S)) :
    cl_wp xs K h0 d Q I94 0 [some (cl_rf A 5 x0), none] [] A S := by
  refine cl_aload_n (dd D94_ok 0 rfl) rfl ?_
  refine cl_gR (g := 505) (f := 5) (e := S.2.1 505 x0.toNatClampNeg) (dd D94_ok 1 rfl) pl11_57 (by decide) (by decide) (by decide) rfl rfl k.1.l5 rfl ?_
  refine cl_astore_n (dd D94_ok 2 rfl) (Nat.le_of_ble_eq_true rfl) ?_
  exact k.2
set_option maxHeartbeats 1000000 in
theorem vc94_5 {xs : List Int32} {K : Nat → Prop} {h0 : am_H} {d : Nat} {Q : Option Value → cl_A → cl_S → Prop} {A : cl_A} {S : cl_S} {x0 : Int32} {x1 : Int32}
    (k : ((x1 = -1) → Q (some (cl_rf A 5 (-1))) A S) ∧ (¬ (x1 = -1) → (cl_n S x1) ∧ ((((S.2.1 2200 (9 * x1.toNatClampNeg + 0)) = 3) → cl_wp xs K h0 d Q I94 5 [some (cl_rf A 5 x0), some (cl_rf A 5 (S.2.1 507 x1.toNatClampNeg))] [] A S) ∧ (¬ ((S.2.1 2200 (9 * x1.toNatClampNeg + 0)) = 3) → Q (some (cl_rf A 5 x1)) A S)))) :
    cl_wp xs K h0 d Q I94 5 [some (cl_rf A 5 x0), some (cl_rf A 5 x1)] [] A S := by
  refine cl_aload_n (dd D94_ok 3 rfl) rfl ?_
  refine cl_ifnull (tgt := 29) (dd D94_ok 4 rfl) (by decide) (fun c1 => ?_) (fun c1 => ?_)
  · refine cl_null (g := 5) (dd D94_ok 17 rfl) ?_
    exact cl_aret (dd D94_ok 18 rfl) ⟨_, rfl⟩ (k.1 c1)
  · refine cl_aload_n (dd D94_ok 5 rfl) rfl ?_
    refine cl_getO (g := 22) (dd D94_ok 6 rfl) pl11_15 (by decide) (by decide) (by decide) rfl (k.2 c1).1.l5 ?_
    refine cl_iconst (v := 0) (dd D94_ok 7 rfl) (by decide) ?_
    refine cl_hs (q := 0) (e := S.2.1 2200 (9 * x1.toNatClampNeg + 0)) (dd D94_ok 8 rfl) (k.2 c1).1.l22 (md_vl (by decide)) (by decide) rfl ?_
    refine cl_iconst (v := 3) (dd D94_ok 9 rfl) (by decide) ?_
    refine cl_icmp_eq (tgt := 21) (dd D94_ok 10 rfl) (by decide) (fun c2 => ?_) (fun c2 => ?_)
    · refine cl_aload_n (dd D94_ok 13 rfl) rfl ?_
      refine cl_gR (g := 507) (f := 5) (e := S.2.1 507 x1.toNatClampNeg) (dd D94_ok 14 rfl) pl11_60 (by decide) (by decide) (by decide) rfl rfl (k.2 c1).1.l5 rfl ?_
      refine cl_astore_n (dd D94_ok 15 rfl) (Nat.le_of_ble_eq_true rfl) ?_
      refine cl_goto (tgt := 5) (dd D94_ok 16 rfl) (by decide) ?_
      exact ((k.2 c1).2.1 c2)
    · refine cl_aload_n (dd D94_ok 11 rfl) rfl ?_
      exact cl_aret (dd D94_ok 12 rfl) ⟨_, rfl⟩ ((k.2 c1).2.2 c2)
set_option maxHeartbeats 1000000 in
theorem vc93_0 {xs : List Int32} {K : Nat → Prop} {h0 : am_H} {d : Nat} {Q : Option Value → cl_A → cl_S → Prop} {A : cl_A} {S : cl_S} {x0 : Int32}
    (k : (cl_n S x0) ∧ (cl_wp xs K h0 d Q I93 7 [some (cl_rf A 5 x0), some (cl_rf A 5 (-1)), some (cl_rf A 5 (S.2.1 505 x0.toNatClampNeg))] [] A S)) :
    cl_wp xs K h0 d Q I93 0 [some (cl_rf A 5 x0), none, none] [] A S := by
  refine cl_null (g := 5) (dd D93_ok 0 rfl) ?_
  refine cl_astore_n (dd D93_ok 1 rfl) (Nat.le_of_ble_eq_true rfl) ?_
  refine cl_aload_n (dd D93_ok 2 rfl) rfl ?_
  refine cl_gR (g := 505) (f := 5) (e := S.2.1 505 x0.toNatClampNeg) (dd D93_ok 3 rfl) pl11_57 (by decide) (by decide) (by decide) rfl rfl k.1.l5 rfl ?_
  refine cl_astore_n (dd D93_ok 4 rfl) (Nat.le_of_ble_eq_true rfl) ?_
  exact k.2
set_option maxHeartbeats 1000000 in
theorem vc93_7 {xs : List Int32} {K : Nat → Prop} {h0 : am_H} {d : Nat} {Q : Option Value → cl_A → cl_S → Prop} {A : cl_A} {S : cl_S} {x0 : Int32} {x1 : Int32} {x2 : Int32}
    (k : ((x2 = -1) → Q (some (cl_rf A 5 x1)) A S) ∧ (¬ (x2 = -1) → (cl_n S x2) ∧ (∀ s1 : Int32, s1 = (if (S.2.1 2200 (9 * x2.toNatClampNeg + 0)) = 3 then x1 else x2) → (cl_wp xs K h0 d Q I93 7 [some (cl_rf A 5 x0), some (cl_rf A 5 s1), some (cl_rf A 5 (S.2.1 507 x2.toNatClampNeg))] [] A S)))) :
    cl_wp xs K h0 d Q I93 7 [some (cl_rf A 5 x0), some (cl_rf A 5 x1), some (cl_rf A 5 x2)] [] A S := by
  refine cl_aload_n (dd D93_ok 5 rfl) rfl ?_
  refine cl_ifnull (tgt := 31) (dd D93_ok 6 rfl) (by decide) (fun c1 => ?_) (fun c1 => ?_)
  · refine cl_aload_n (dd D93_ok 19 rfl) rfl ?_
    exact cl_aret (dd D93_ok 20 rfl) ⟨_, rfl⟩ (k.1 c1)
  · refine cl_aload_n (dd D93_ok 7 rfl) rfl ?_
    refine cl_getO (g := 22) (dd D93_ok 8 rfl) pl11_15 (by decide) (by decide) (by decide) rfl (k.2 c1).1.l5 ?_
    refine cl_iconst (v := 0) (dd D93_ok 9 rfl) (by decide) ?_
    refine cl_hs (q := 0) (e := S.2.1 2200 (9 * x2.toNatClampNeg + 0)) (dd D93_ok 10 rfl) (k.2 c1).1.l22 (md_vl (by decide)) (by decide) rfl ?_
    refine cl_iconst (v := 3) (dd D93_ok 11 rfl) (by decide) ?_
    have J1 : ∀ s1 : Int32, s1 = (if (S.2.1 2200 (9 * x2.toNatClampNeg + 0)) = 3 then x1 else x2) → cl_wp xs K h0 d Q I93 23 [some (cl_rf A 5 x0), some (cl_rf A 5 s1), some (cl_rf A 5 x2)] [] A S := by
      intro s1 e_s1
      refine cl_aload_n (dd D93_ok 15 rfl) rfl ?_
      refine cl_gR (g := 507) (f := 5) (e := S.2.1 507 x2.toNatClampNeg) (dd D93_ok 16 rfl) pl11_60 (by decide) (by decide) (by decide) rfl rfl (k.2 c1).1.l5 rfl ?_
      refine cl_astore_n (dd D93_ok 17 rfl) (Nat.le_of_ble_eq_true rfl) ?_
      refine cl_goto (tgt := 7) (dd D93_ok 18 rfl) (by decide) ?_
      exact ((k.2 c1).2 s1 e_s1)
    refine cl_icmp_eq (tgt := 23) (dd D93_ok 12 rfl) (by decide) (fun c3 => ?_) (fun c3 => ?_)
    · exact J1 _ (by first | rfl | rw [if_pos c3] | simp only [if_pos c3])
    · refine cl_aload_n (dd D93_ok 13 rfl) rfl ?_
      refine cl_astore_n (dd D93_ok 14 rfl) (Nat.le_of_ble_eq_true rfl) ?_
      exact J1 _ (by first | rfl | rw [if_neg c3] | simp only [if_neg c3])
theorem mg_ch_1 {M : md_S} : ∀ (s : bt) (e : Int32 × Int32), ¬ e.1 = -1 → (mg_ch M s e).1 = e.1 := by
  intro s
  induction s with
  | leaf u => intro e _; rfl
  | branch j k s _ ihs =>
    intro e he
    have h1 : (mg_st M j e).1 = e.1 := by
      unfold mg_st
      simp [he]
    show (mg_ch M s (mg_st M j e)).1 = e.1
    rw [ihs _ (by rw [h1]; exact he), h1]
theorem kk_first1 {xs : List Int32} {K : Nat → Prop} {h0 : am_H} {d : Nat} {Q : Option Value → cl_A → cl_S → Prop} {A : cl_A} {S : cl_S} {M : md_S} {nn : Nat} {x0 : Int32} (hT : cl_T S M nn) : ∀ (t : bt) (p e2 : Int32), bt_R (M.2 4) (M.2 5) (M.2 7) p t → (∀ x ∈ bt_pre t, x < nn) → Q (some (cl_rf A 5 (mg_ch M t (-1, e2)).1)) A S → cl_wp xs K h0 d Q I94 5 [some (cl_rf A 5 x0), some (cl_rf A 5 (bt_hd (-1) t))] [] A S := by
  intro t
  induction t with
  | leaf u =>
    intro p e2 _ _ hQ
    exact vc94_5 ⟨fun _ => hQ, fun c => absurd rfl c⟩
  | branch j k s _ ihs =>
    intro p e2 hR hn hQ
    have hj : j < nn := hn j (by simp [bt_pre])
    have h60 := hT.1
    have hm : mg_ch M (.branch j k s) (-1, e2) = mg_ch M s (mg_st M j (-1, e2)) := rfl
    rw [hm] at hQ
    refine vc94_5 ⟨fun c => absurd c (nI_ne_m1 (by omega)), fun c => ⟨hT.n hj, ?_⟩⟩
    show ((S.2.1 2200 (9 * (nI j).toNatClampNeg + 0) = 3) → cl_wp _ _ _ _ _ _ _ [_, some (cl_rf A 5 (S.2.1 507 (nI j).toNatClampNeg))] _ _ _) ∧ _
    rw [hT.cl hj, hT.h0 hj, hT.nx hj, hR.2.2.2.1]
    refine ⟨fun c1 => ?_, fun c1 => ?_⟩
    · refine ihs p e2 hR.2.2.2.2.2 (fun x hx => hn x (by simp [bt_pre, hx])) ?_
      have e : mg_st M j (-1, e2) = (-1, e2) := by simp [mg_st, c1]
      rw [e] at hQ
      exact hQ
    · have c1 : ¬ S.2.1 2200 (9 * (nI j).toNatClampNeg + 0) = 3 := c1
      rw [hT.cl hj, hT.h0 hj] at c1
      have e : (mg_st M j (-1, e2)).1 = nI j := by simp [mg_st, c1]
      rw [mg_ch_1 _ _ (by rw [e]; exact c), e] at hQ
      exact hQ
theorem kk_first {xs : List Int32} {K : Nat → Prop} {d : Nat} {A : cl_A} {S : cl_S} {M : md_S} {nn i : Nat} {k : bt} (hT : cl_T S M nn) (hi : i < nn) (hR : bt_R (M.2 4) (M.2 5) (M.2 7) (nI i) k) (hf : M.2 5 i = bt_hd (-1) k) (hk : ∀ x ∈ bt_pre k, x < nn) : ∀ Q', Q' (some (cl_rf A 5 (mg_ch M k (-1, -1)).1)) A S → cl_C xs K (d + 1) 94 [cl_rf A 5 (nI i)] A S Q' := by
  intro Q' hQ
  refine cl_intro (ms94 xs) (Nat.le_of_ble_eq_true rfl) (fun h0 => vc94_0 ⟨hT.n hi, ?_⟩)
  rw [hT.cl hi, hT.fk hi, hf]
  exact kk_first1 hT k _ (-1) hR hk hQ
theorem mg_ch_2 {M : md_S} : ∀ (s : bt) (a a' b : Int32), (mg_ch M s (a, b)).2 = (mg_ch M s (a', b)).2 := by
  intro s
  induction s with
  | leaf u => intro a a' b; rfl
  | branch j k s _ ihs =>
    intro a a' b
    exact ihs _ _ _
theorem kk_last1 {xs : List Int32} {K : Nat → Prop} {h0 : am_H} {d : Nat} {Q : Option Value → cl_A → cl_S → Prop} {A : cl_A} {S : cl_S} {M : md_S} {nn : Nat} {x0 : Int32} (hT : cl_T S M nn) : ∀ (t : bt) (p e1 e2 : Int32), bt_R (M.2 4) (M.2 5) (M.2 7) p t → (∀ x ∈ bt_pre t, x < nn) → Q (some (cl_rf A 5 (mg_ch M t (e1, e2)).2)) A S → cl_wp xs K h0 d Q I93 7 [some (cl_rf A 5 x0), some (cl_rf A 5 e2), some (cl_rf A 5 (bt_hd (-1) t))] [] A S := by
  intro t
  induction t with
  | leaf u =>
    intro p e1 e2 _ _ hQ
    exact vc93_7 ⟨fun _ => hQ, fun c => absurd rfl c⟩
  | branch j k s _ ihs =>
    intro p e1 e2 hR hn hQ
    have hj : j < nn := hn j (by simp [bt_pre])
    have h60 := hT.1
    have hm : mg_ch M (.branch j k s) (e1, e2) = mg_ch M s (mg_st M j (e1, e2)) := rfl
    rw [hm] at hQ
    refine vc93_7 ⟨fun c => absurd c (nI_ne_m1 (by omega)), fun c => ⟨hT.n hj, fun s1 es => ?_⟩⟩
    have es : s1 = if S.2.1 2200 (9 * (nI j).toNatClampNeg + 0) = 3 then e2 else nI j := es
    show cl_wp _ _ _ _ _ _ _ [_, _, some (cl_rf A 5 (S.2.1 507 (nI j).toNatClampNeg))] _ _ _
    rw [hT.cl hj, hT.h0 hj] at es
    rw [hT.cl hj, hT.nx hj, hR.2.2.2.1]
    refine ihs p (mg_st M j (e1, e2)).1 s1 hR.2.2.2.2.2 (fun x hx => hn x (by simp [bt_pre, hx])) ?_
    have e : (mg_st M j (e1, e2)).2 = s1 := by
      rw [es]
      by_cases c1 : f_of M (nI j) 0 = 3
      · simp [mg_st, c1]
      · simp [mg_st, c1]
    rw [← e]
    exact hQ
theorem kk_last {xs : List Int32} {K : Nat → Prop} {d : Nat} {A : cl_A} {S : cl_S} {M : md_S} {nn i : Nat} {k : bt} (hT : cl_T S M nn) (hi : i < nn) (hR : bt_R (M.2 4) (M.2 5) (M.2 7) (nI i) k) (hf : M.2 5 i = bt_hd (-1) k) (hk : ∀ x ∈ bt_pre k, x < nn) : ∀ Q', Q' (some (cl_rf A 5 (mg_ch M k (-1, -1)).2)) A S → cl_C xs K (d + 1) 93 [cl_rf A 5 (nI i)] A S Q' := by
  intro Q' hQ
  refine cl_intro (ms93 xs) (Nat.le_of_ble_eq_true rfl) (fun h0 => vc93_0 ⟨hT.n hi, ?_⟩)
  rw [hT.cl hi, hT.fk hi, hf]
  exact kk_last1 hT k _ (-1) (-1) hR hk hQ
set_option maxHeartbeats 1000000 in
theorem vc90_0 {xs : List Int32} {K : Nat → Prop} {h0 : am_H} {d : Nat} {Q : Option Value → cl_A → cl_S → Prop} {A : cl_A} {S : cl_S} {x0 : Int32} {x1 : Int32}
    (k : cl_C xs K (d + 3) 91 [cl_rf A 5 x0] A S (fun v A' N1 => A' = A ∧ N1.1 = S.1 ∧ ∃ y1, v = some (.int y1) ∧ (((y1 = 0) → Q (some (cl_rf A 5 (-1))) A N1) ∧ (¬ (y1 = 0) → ((x1 = 0) → ((x1 = 0) → cl_C xs K (d + 3) 94 [cl_rf A 5 x0] A N1 (fun v A' N2 => A' = A ∧ N2.1 = N1.1 ∧ ∃ y2, v = some (cl_rf A 5 y2) ∧ ((((y2 = -1) → True) ∧ (¬ (y2 = -1) → (cl_n N2 y2) ∧ ((((g_isB N2 y2) = 0) → True) ∧ (¬ ((g_isB N2 y2) = 0) → True)))) ∧ (∀ s3 : Int32, s3 = (if y2 = -1 then (-1) else (if (g_isB N2 y2) = 0 then (-1) else y2)) → (Q (some (cl_rf A 5 s3)) A N2))))) ∧ (¬ (x1 = 0) → cl_C xs K (d + 3) 93 [cl_rf A 5 x0] A N1 (fun v A' N4 => A' = A ∧ N4.1 = N1.1 ∧ ∃ y4, v = some (cl_rf A 5 y4) ∧ ((((y4 = -1) → True) ∧ (¬ (y4 = -1) → (cl_n N4 y4) ∧ ((((g_isB N4 y4) = 0) → True) ∧ (¬ ((g_isB N4 y4) = 0) → True)))) ∧ (∀ s5 : Int32, s5 = (if y4 = -1 then (-1) else (if (g_isB N4 y4) = 0 then (-1) else y4)) → (Q (some (cl_rf A 5 s5)) A N4)))))) ∧ (¬ (x1 = 0) → (cl_n N1 x0) ∧ ((((N1.2.1 2200 (9 * x0.toNatClampNeg + 3)) = (-1)) → ((x1 = 0) → cl_C xs K (d + 3) 94 [cl_rf A 5 x0] A N1 (fun v A' N6 => A' = A ∧ N6.1 = N1.1 ∧ ∃ y6, v = some (cl_rf A 5 y6) ∧ ((((y6 = -1) → True) ∧ (¬ (y6 = -1) → (cl_n N6 y6) ∧ ((((g_isB N6 y6) = 0) → True) ∧ (¬ ((g_isB N6 y6) = 0) → True)))) ∧ (∀ s7 : Int32, s7 = (if y6 = -1 then (-1) else (if (g_isB N6 y6) = 0 then (-1) else y6)) → (Q (some (cl_rf A 5 s7)) A N6))))) ∧ (¬ (x1 = 0) → cl_C xs K (d + 3) 93 [cl_rf A 5 x0] A N1 (fun v A' N8 => A' = A ∧ N8.1 = N1.1 ∧ ∃ y8, v = some (cl_rf A 5 y8) ∧ ((((y8 = -1) → True) ∧ (¬ (y8 = -1) → (cl_n N8 y8) ∧ ((((g_isB N8 y8) = 0) → True) ∧ (¬ ((g_isB N8 y8) = 0) → True)))) ∧ (∀ s9 : Int32, s9 = (if y8 = -1 then (-1) else (if (g_isB N8 y8) = 0 then (-1) else y8)) → (Q (some (cl_rf A 5 s9)) A N8)))))) ∧ (¬ ((N1.2.1 2200 (9 * x0.toNatClampNeg + 3)) = (-1)) → Q (some (cl_rf A 5 (-1))) A N1))))))) :
    cl_wp xs K h0 (d + 3) Q I90 0 [some (cl_rf A 5 x0), some (.int x1), none] [] A S := by
  refine cl_aload_n (dd D90_ok 0 rfl) rfl ?_
  refine cl_calls (as := [cl_rf A 5 x0]) (rest := []) (dd D90_ok 1 rfl) pl11_31 rfl (Nat.le_of_ble_eq_true rfl) ((k).mono ?_) rfl
  rintro v A N1 ⟨rfl, e1, y1, rfl, w1⟩
  refine cl_if_eq (tgt := 21) (dd D90_ok 2 rfl) (by decide) (fun c1 => ?_) (fun c1 => ?_)
  · refine cl_null (g := 5) (dd D90_ok 11 rfl) ?_
    exact cl_aret (dd D90_ok 12 rfl) ⟨_, rfl⟩ (w1.1 c1)
  · refine cl_iload_n (dd D90_ok 3 rfl) rfl ?_
    refine cl_if_eq (tgt := 23) (dd D90_ok 4 rfl) (by decide) (fun c2 => ?_) (fun c2 => ?_)
    · refine cl_iload_n (dd D90_ok 13 rfl) rfl ?_
      refine cl_if_eq (tgt := 34) (dd D90_ok 14 rfl) (by decide) (fun c3 => ?_) (fun c3 => ?_)
      · refine cl_aload_n (dd D90_ok 18 rfl) rfl ?_
        refine cl_calls (as := [cl_rf A 5 x0]) (rest := []) (dd D90_ok 19 rfl) pl11_39 rfl (Nat.le_of_ble_eq_true rfl) (((((w1.2 c1).1 c2).1 c3)).mono ?_) rfl
        rintro v A N2 ⟨rfl, e2, y2, rfl, w2⟩
        refine cl_astore_n (dd D90_ok 20 rfl) (Nat.le_of_ble_eq_true rfl) ?_
        refine cl_aload_n (dd D90_ok 21 rfl) rfl ?_
        have J1 : ∀ s3 : Int32, s3 = (if y2 = -1 then (-1) else (if (g_isB N2 y2) = 0 then (-1) else y2)) → cl_wp xs K h0 (d + 3) Q I90 55 [some (cl_rf A 5 x0), some (.int x1), some (cl_rf A 5 y2)] [cl_rf A 5 s3] A N2 := by
          intro s3 e_s3
          exact cl_aret (dd D90_ok 29 rfl) ⟨_, rfl⟩ (w2.2 s3 e_s3)
        refine cl_ifnull (tgt := 54) (dd D90_ok 22 rfl) (by decide) (fun c5 => ?_) (fun c5 => ?_)
        · refine cl_null (g := 5) (dd D90_ok 28 rfl) ?_
          exact J1 _ (by first | rfl | rw [if_pos c5] | simp only [if_pos c5])
        · refine cl_aload_n (dd D90_ok 23 rfl) rfl ?_
          refine cl_callsP (r := .int (g_isB N2 y2)) (as := [cl_rf A 5 y2]) (rest := []) (dd D90_ok 24 rfl) pl11_42 rfl (Nat.le_of_ble_eq_true rfl) (cc_g_isB (S := N2) (w2.1.2 c5).1) rfl ?_
          refine cl_if_eq (tgt := 54) (dd D90_ok 25 rfl) (by decide) (fun c6 => ?_) (fun c6 => ?_)
          · refine cl_null (g := 5) (dd D90_ok 28 rfl) ?_
            exact J1 _ (by first | rfl | rw [if_neg c5, if_pos c6] | simp only [if_neg c5, if_pos c6])
          · refine cl_aload_n (dd D90_ok 26 rfl) rfl ?_
            refine cl_goto (tgt := 55) (dd D90_ok 27 rfl) (by decide) ?_
            exact J1 _ (by first | rfl | rw [if_neg c5, if_neg c6] | simp only [if_neg c5, if_neg c6])
      · refine cl_aload_n (dd D90_ok 15 rfl) rfl ?_
        refine cl_calls (as := [cl_rf A 5 x0]) (rest := []) (dd D90_ok 16 rfl) pl11_35 rfl (Nat.le_of_ble_eq_true rfl) (((((w1.2 c1).1 c2).2 c3)).mono ?_) rfl
        rintro v A N4 ⟨rfl, e4, y4, rfl, w4⟩
        refine cl_goto (tgt := 38) (dd D90_ok 17 rfl) (by decide) ?_
        refine cl_astore_n (dd D90_ok 20 rfl) (Nat.le_of_ble_eq_true rfl) ?_
        refine cl_aload_n (dd D90_ok 21 rfl) rfl ?_
        have J2 : ∀ s5 : Int32, s5 = (if y4 = -1 then (-1) else (if (g_isB N4 y4) = 0 then (-1) else y4)) → cl_wp xs K h0 (d + 3) Q I90 55 [some (cl_rf A 5 x0), some (.int x1), some (cl_rf A 5 y4)] [cl_rf A 5 s5] A N4 := by
          intro s5 e_s5
          exact cl_aret (dd D90_ok 29 rfl) ⟨_, rfl⟩ (w4.2 s5 e_s5)
        refine cl_ifnull (tgt := 54) (dd D90_ok 22 rfl) (by decide) (fun c8 => ?_) (fun c8 => ?_)
        · refine cl_null (g := 5) (dd D90_ok 28 rfl) ?_
          exact J2 _ (by first | rfl | rw [if_pos c8] | simp only [if_pos c8])
        · refine cl_aload_n (dd D90_ok 23 rfl) rfl ?_
          refine cl_callsP (r := .int (g_isB N4 y4)) (as := [cl_rf A 5 y4]) (rest := []) (dd D90_ok 24 rfl) pl11_42 rfl (Nat.le_of_ble_eq_true rfl) (cc_g_isB (S := N4) (w4.1.2 c8).1) rfl ?_
          refine cl_if_eq (tgt := 54) (dd D90_ok 25 rfl) (by decide) (fun c9 => ?_) (fun c9 => ?_)
          · refine cl_null (g := 5) (dd D90_ok 28 rfl) ?_
            exact J2 _ (by first | rfl | rw [if_neg c8, if_pos c9] | simp only [if_neg c8, if_pos c9])
          · refine cl_aload_n (dd D90_ok 26 rfl) rfl ?_
            refine cl_goto (tgt := 55) (dd D90_ok 27 rfl) (by decide) ?_
            exact J2 _ (by first | rfl | rw [if_neg c8, if_neg c9] | simp only [if_neg c8, if_neg c9])
    · refine cl_aload_n (dd D90_ok 5 rfl) rfl ?_
      refine cl_getO (g := 22) (dd D90_ok 6 rfl) pl11_15 (by decide) (by decide) (by decide) rfl ((w1.2 c1).2 c2).1.l5 ?_
      refine cl_iconst (v := 3) (dd D90_ok 7 rfl) (by decide) ?_
      refine cl_hs (q := 3) (e := N1.2.1 2200 (9 * x0.toNatClampNeg + 3)) (dd D90_ok 8 rfl) ((w1.2 c1).2 c2).1.l22 (md_vl (by decide)) (by decide) rfl ?_
      refine cl_iconst (v := (-1)) (dd D90_ok 9 rfl) (by decide) ?_
      refine cl_icmp_eq (tgt := 23) (dd D90_ok 10 rfl) (by decide) (fun c10 => ?_) (fun c10 => ?_)
      · refine cl_iload_n (dd D90_ok 13 rfl) rfl ?_
        refine cl_if_eq (tgt := 34) (dd D90_ok 14 rfl) (by decide) (fun c11 => ?_) (fun c11 => ?_)
        · refine cl_aload_n (dd D90_ok 18 rfl) rfl ?_
          refine cl_calls (as := [cl_rf A 5 x0]) (rest := []) (dd D90_ok 19 rfl) pl11_39 rfl (Nat.le_of_ble_eq_true rfl) ((((((w1.2 c1).2 c2).2.1 c10).1 c11)).mono ?_) rfl
          rintro v A N6 ⟨rfl, e6, y6, rfl, w6⟩
          refine cl_astore_n (dd D90_ok 20 rfl) (Nat.le_of_ble_eq_true rfl) ?_
          refine cl_aload_n (dd D90_ok 21 rfl) rfl ?_
          have J3 : ∀ s7 : Int32, s7 = (if y6 = -1 then (-1) else (if (g_isB N6 y6) = 0 then (-1) else y6)) → cl_wp xs K h0 (d + 3) Q I90 55 [some (cl_rf A 5 x0), some (.int x1), some (cl_rf A 5 y6)] [cl_rf A 5 s7] A N6 := by
            intro s7 e_s7
            exact cl_aret (dd D90_ok 29 rfl) ⟨_, rfl⟩ (w6.2 s7 e_s7)
          refine cl_ifnull (tgt := 54) (dd D90_ok 22 rfl) (by decide) (fun c13 => ?_) (fun c13 => ?_)
          · refine cl_null (g := 5) (dd D90_ok 28 rfl) ?_
            exact J3 _ (by first | rfl | rw [if_pos c13] | simp only [if_pos c13])
          · refine cl_aload_n (dd D90_ok 23 rfl) rfl ?_
            refine cl_callsP (r := .int (g_isB N6 y6)) (as := [cl_rf A 5 y6]) (rest := []) (dd D90_ok 24 rfl) pl11_42 rfl (Nat.le_of_ble_eq_true rfl) (cc_g_isB (S := N6) (w6.1.2 c13).1) rfl ?_
            refine cl_if_eq (tgt := 54) (dd D90_ok 25 rfl) (by decide) (fun c14 => ?_) (fun c14 => ?_)
            · refine cl_null (g := 5) (dd D90_ok 28 rfl) ?_
              exact J3 _ (by first | rfl | rw [if_neg c13, if_pos c14] | simp only [if_neg c13, if_pos c14])
            · refine cl_aload_n (dd D90_ok 26 rfl) rfl ?_
              refine cl_goto (tgt := 55) (dd D90_ok 27 rfl) (by decide) ?_
              exact J3 _ (by first | rfl | rw [if_neg c13, if_neg c14] | simp only [if_neg c13, if_neg c14])
        · refine cl_aload_n (dd D90_ok 15 rfl) rfl ?_
          refine cl_calls (as := [cl_rf A 5 x0]) (rest := []) (dd D90_ok 16 rfl) pl11_35 rfl (Nat.le_of_ble_eq_true rfl) ((((((w1.2 c1).2 c2).2.1 c10).2 c11)).mono ?_) rfl
          rintro v A N8 ⟨rfl, e8, y8, rfl, w8⟩
          refine cl_goto (tgt := 38) (dd D90_ok 17 rfl) (by decide) ?_
          refine cl_astore_n (dd D90_ok 20 rfl) (Nat.le_of_ble_eq_true rfl) ?_
          refine cl_aload_n (dd D90_ok 21 rfl) rfl ?_
          have J4 : ∀ s9 : Int32, s9 = (if y8 = -1 then (-1) else (if (g_isB N8 y8) = 0 then (-1) else y8)) → cl_wp xs K h0 (d + 3) Q I90 55 [some (cl_rf A 5 x0), some (.int x1), some (cl_rf A 5 y8)] [cl_rf A 5 s9] A N8 := by
            intro s9 e_s9
            exact cl_aret (dd D90_ok 29 rfl) ⟨_, rfl⟩ (w8.2 s9 e_s9)
          refine cl_ifnull (tgt := 54) (dd D90_ok 22 rfl) (by decide) (fun c16 => ?_) (fun c16 => ?_)
          · refine cl_null (g := 5) (dd D90_ok 28 rfl) ?_
            exact J4 _ (by first | rfl | rw [if_pos c16] | simp only [if_pos c16])
          · refine cl_aload_n (dd D90_ok 23 rfl) rfl ?_
            refine cl_callsP (r := .int (g_isB N8 y8)) (as := [cl_rf A 5 y8]) (rest := []) (dd D90_ok 24 rfl) pl11_42 rfl (Nat.le_of_ble_eq_true rfl) (cc_g_isB (S := N8) (w8.1.2 c16).1) rfl ?_
            refine cl_if_eq (tgt := 54) (dd D90_ok 25 rfl) (by decide) (fun c17 => ?_) (fun c17 => ?_)
            · refine cl_null (g := 5) (dd D90_ok 28 rfl) ?_
              exact J4 _ (by first | rfl | rw [if_neg c16, if_pos c17] | simp only [if_neg c16, if_pos c17])
            · refine cl_aload_n (dd D90_ok 26 rfl) rfl ?_
              refine cl_goto (tgt := 55) (dd D90_ok 27 rfl) (by decide) ?_
              exact J4 _ (by first | rfl | rw [if_neg c16, if_neg c17] | simp only [if_neg c16, if_neg c17])
      · refine cl_null (g := 5) (dd D90_ok 11 rfl) ?_
        exact cl_aret (dd D90_ok 12 rfl) ⟨_, rfl⟩ (((w1.2 c1).2 c2).2.2 c10)
/-- joinedThing: the first or last thing whose margin joins; -1 for none -/
def mg_jt (M : md_S) (i : Nat) (k : bt) (b : Int32) : Int32 := if f_joins M (nI i) = 0 then -1 else if b = 0 then (if (mg_ch M k (-1, -1)).1 = -1 then -1 else if f_isBlock M (mg_ch M k (-1, -1)).1 = 0 then -1 else (mg_ch M k (-1, -1)).1) else if ¬ f_of M (nI i) 3 = -1 then -1 else (if (mg_ch M k (-1, -1)).2 = -1 then -1 else if f_isBlock M (mg_ch M k (-1, -1)).2 = 0 then -1 else (mg_ch M k (-1, -1)).2)
theorem kk_joined {xs : List Int32} {K : Nat → Prop} {d : Nat} {A : cl_A} {S : cl_S} {M : md_S} {nn i : Nat} {k : bt} {b : Int32} (hT : cl_T S M nn) (hi : i < nn) (hp : M.2 4 i = -1 ∧ i = 0 ∨ ¬ i = 0 ∧ ∃ p, p < nn ∧ M.2 4 i = nI p) (hR : bt_R (M.2 4) (M.2 5) (M.2 7) (nI i) k) (hf : M.2 5 i = bt_hd (-1) k) (hk : ∀ x ∈ bt_pre k, x < nn) : ∀ Q', Q' (some (cl_rf A 5 (mg_jt M i k b))) A S → cl_C xs K (d + 4) 90 [cl_rf A 5 (nI i), .int b] A S Q' := by
  intro Q' hQ
  refine cl_intro (ms90 xs) (Nat.le_of_ble_eq_true rfl) (fun h0 => vc90_0 ?_)
  have h60 := hT.1
  unfold mg_jt at hQ
  have hF : ∀ Q', Q' (some (cl_rf A 5 (mg_ch M k (-1, -1)).1)) A S → cl_C xs K (d + 3) 94 [cl_rf A 5 (nI i)] A S Q' := kk_first hT hi hR hf hk
  have hL : ∀ Q', Q' (some (cl_rf A 5 (mg_ch M k (-1, -1)).2)) A S → cl_C xs K (d + 3) 93 [cl_rf A 5 (nI i)] A S Q' := kk_last hT hi hR hf hk
  have ok := mg_ch_ok (M := M) k (-1, -1) (fun x => x < nn) hk (Or.inl ⟨rfl, rfl⟩)
  have ok1 : ¬ (mg_ch M k (-1, -1)).1 = -1 → ∃ a, a < nn ∧ (mg_ch M k (-1, -1)).1 = nI a := fun c => by
    rcases ok with ⟨o1, _⟩ | ⟨a, b, o1, _, o3⟩
    · exact absurd o1 c
    · exact ⟨a, o1, by rw [o3]⟩
  have ok2 : ¬ (mg_ch M k (-1, -1)).2 = -1 → ∃ a, a < nn ∧ (mg_ch M k (-1, -1)).2 = nI a := fun c => by
    rcases ok with ⟨_, o1⟩ | ⟨a, b, _, o1, o3⟩
    · exact absurd o1 c
    · exact ⟨b, o1, by rw [o3]⟩
  generalize (mg_ch M k (-1, -1)).1 = m1 at hQ hF ok1
  generalize (mg_ch M k (-1, -1)).2 = m2 at hQ hL ok2
  refine kk_open hT hi hp _ ⟨rfl, rfl, _, rfl, fun c => ?_, fun c => ?_⟩
  · rw [if_pos c] at hQ; exact hQ
  · rw [if_neg c] at hQ
    have hA : b = 0 → cl_C xs K (d + 3) 94 [cl_rf A 5 (nI i)] A S (fun v A' N2 => A' = A ∧ N2.1 = S.1 ∧ ∃ y2, v = some (cl_rf A 5 y2) ∧ (((y2 = -1 → True) ∧ (¬ y2 = -1 → cl_n N2 y2 ∧ ((g_isB N2 y2 = 0 → True) ∧ (¬ g_isB N2 y2 = 0 → True)))) ∧ ∀ s4 : Int32, s4 = (if y2 = -1 then (-1) else if (g_isB N2 y2) = 0 then (-1) else y2) → Q' (some (cl_rf A 5 s4)) A N2)) := fun cb => by
      rw [if_pos cb] at hQ
      refine hF _ ⟨rfl, rfl, _, rfl, ⟨fun _ => trivial, fun c2 => ⟨?_, fun _ => trivial, fun _ => trivial⟩⟩, fun s4 e4 => ?_⟩
      · obtain ⟨a, ha, e⟩ := ok1 c2
        rw [e]
        exact hT.n ha
      · subst e4
        by_cases c2 : m1 = -1
        · rw [if_pos c2] at hQ ⊢; exact hQ
        · rw [if_neg c2] at hQ ⊢
          obtain ⟨a, ha, rfl⟩ := ok1 c2
          rw [hT.isB ha]
          exact hQ
    have hB : ¬ b = 0 → f_of M (nI i) 3 = -1 → cl_C xs K (d + 3) 93 [cl_rf A 5 (nI i)] A S (fun v A' N2 => A' = A ∧ N2.1 = S.1 ∧ ∃ y2, v = some (cl_rf A 5 y2) ∧ (((y2 = -1 → True) ∧ (¬ y2 = -1 → cl_n N2 y2 ∧ ((g_isB N2 y2 = 0 → True) ∧ (¬ g_isB N2 y2 = 0 → True)))) ∧ ∀ s4 : Int32, s4 = (if y2 = -1 then (-1) else if (g_isB N2 y2) = 0 then (-1) else y2) → Q' (some (cl_rf A 5 s4)) A N2)) := fun cb c3 => by
      rw [if_neg cb, if_neg (fun q => q c3)] at hQ
      refine hL _ ⟨rfl, rfl, _, rfl, ⟨fun _ => trivial, fun c2 => ⟨?_, fun _ => trivial, fun _ => trivial⟩⟩, fun s4 e4 => ?_⟩
      · obtain ⟨a, ha, e⟩ := ok2 c2
        rw [e]
        exact hT.n ha
      · subst e4
        by_cases c2 : m2 = -1
        · rw [if_pos c2] at hQ ⊢; exact hQ
        · rw [if_neg c2] at hQ ⊢
          obtain ⟨a, ha, rfl⟩ := ok2 c2
          rw [hT.isB ha]
          exact hQ
    refine ⟨fun cb => ⟨fun cb => hA cb, fun q => absurd cb q⟩, fun cb => ⟨hT.n hi, ?_⟩⟩
    rw [hT.cl hi, hT.h3 hi]
    refine ⟨fun c3 => ⟨fun q => absurd q cb, fun cb => hB cb c3⟩, fun c3 => ?_⟩
    rw [if_neg cb, if_pos c3] at hQ
    exact hQ
