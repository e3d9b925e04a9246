/-! the class: listWord (by program and by hand: wip/whole/gen/c68.py) -/
/-- room: cells and slots -/
def BD (S : cl_S) (Wp B1 B2 : Nat) : Prop := cap S ≤ 2 * Wp + 10 ∧ S.2.2.1 ≤ B1 + 3 * Wp ∧ S.2.2.2 ≤ B2 + 9 * Wp + 4 * cap S
def wdc (S : cl_S) (P : md_S) (w : Nat) : Prop := S.2.1 700 w = P.2 30 w ∧ S.2.1 701 w = P.2 31 w ∧ S.2.1 702 w = P.2 32 w ∧ S.2.1 2 (60 + w) = P.2 35 w ∧ S.2.1 3 (60 + w) = P.2 36 w
/-- while the tree is prepared -/
def pI (A : cl_A) (S : cl_S) (P : md_S) (nn W Wp B1 B2 : Nat) : Prop := cl_T S P nn ∧ wp_R S Wp ∧ W ≤ Wp ∧ Wp ≤ 3600 ∧ S.2.1 301 0 = nI W ∧ CE A S Wp ∧ BD S Wp B1 B2 ∧ ∀ w, w < W → wdc S P w
def X_kp : List Nat := [500, 501, 502, 503, 504, 505, 506, 507, 508, 509, 510, 511, 512, 513, 514, 515, 801, 803, 2000, 2100, 2200, 2300, 2301]
/-- what words that are listed leave -/
def pY (cs : List Nat) (A : cl_A) (S : cl_S) (A' : cl_A) (S' : cl_S) : Prop := (A' 3 = A 3 ∧ A' 5 = A 5 ∧ A' 8 = A 8 ∧ S.2.2.1 ≤ S'.2.2.1) ∧ (∀ f i, S.1 f i → S'.1 f i) ∧ ∀ g ∈ X_kp, g ∉ cs → S'.2.1 g = S.2.1 g
theorem pY.rf {cs : List Nat} {A : cl_A} {S : cl_S} : pY cs A S A S := ⟨⟨rfl, rfl, rfl, Nat.le_refl _⟩, fun _ _ h => h, fun _ _ _ => rfl⟩
theorem pY.tr {cs : List Nat} {A A1 A2 : cl_A} {S S1 S2 : cl_S} (a : pY cs A S A1 S1) (b : pY cs A1 S1 A2 S2) : pY cs A S A2 S2 := ⟨⟨b.1.1.trans a.1.1, b.1.2.1.trans a.1.2.1, b.1.2.2.1.trans a.1.2.2.1, Nat.le_trans a.1.2.2.2 b.1.2.2.2⟩, fun f i h => b.2.1 f i (a.2.1 f i h), fun g h1 h2 => (b.2.2 g h1 h2).trans (a.2.2 g h1 h2)⟩
theorem pY.x {cs : List Nat} {A : cl_A} {S S' : cl_S} (e : cl_X cs S S') : pY cs A S A S' := ⟨⟨rfl, rfl, rfl, by rw [e.2.1]; exact Nat.le_refl _⟩, fun f i h => by rw [e.1]; exact h, fun g _ h2 => e.2.2 g h2⟩
theorem pY.sub {cs cs' : List Nat} {A A' : cl_A} {S S' : cl_S} (a : pY cs A S A' S') (h : ∀ g ∈ cs, g ∈ X_kp → g ∈ cs') : pY cs' A S A' S' := ⟨a.1, a.2.1, fun g h1 h2 => a.2.2 g h1 (fun q => h2 (h g q h1))⟩
theorem cl_T.gr {S S' : cl_S} {M : md_S} {nn : Nat} (h : cl_T S M nn) (hl : ∀ f i, S.1 f i → S'.1 f i) (e2 : ∀ g, g ∈ X_st → S'.2.1 g = S.2.1 g) : cl_T S' M nn := by
  obtain ⟨h1, ⟨z1, z2, z3, z4, z5, z6, z7⟩, h3, h4⟩ := h
  refine ⟨h1, ⟨hl _ _ z1, hl _ _ z2, hl _ _ z3, hl _ _ z4, hl _ _ z5, hl _ _ z6, hl _ _ z7⟩, fun f hf => ?_, fun i hi => ?_⟩
  · obtain ⟨a, b, c, d⟩ := h3 f hf
    exact ⟨a, hl _ _ b, hl _ _ c, hl _ _ d⟩
  · obtain ⟨b1, b2, b3, b4, b5, b6, b7, b8, b9, b10, b11, b12, b13⟩ := h4 i hi
    obtain ⟨n1, n2, n3, n4⟩ := b1
    have eb : cl_bn S' (nI i) (S.2.1 508 i) = cl_bn S (nI i) (S.2.1 508 i) := by
      unfold cl_bn
      rw [e2 2301 (by decide)]
    refine ⟨⟨n1, hl _ _ n2, hl _ _ n3, hl _ _ n4⟩, ?_, ?_, ?_, ?_, ?_, ?_, ?_, ?_, ?_, ?_, ?_, ?_⟩
    · rw [e2 500 (by decide)]; exact b2
    · rw [e2 501 (by decide)]; exact b3
    · rw [e2 502 (by decide)]; exact b4
    · rw [e2 503 (by decide)]; exact b5
    · rw [e2 505 (by decide)]; exact b6
    · rw [e2 506 (by decide)]; exact b7
    · rw [e2 507 (by decide)]; exact b8
    · rw [e2 508 (by decide)]; exact fun q => hl _ _ (b9 q)
    · rw [e2 508 (by decide), eb]; exact b10
    · rw [e2 508 (by decide), eb]; exact b11
    · rw [e2 508 (by decide), eb, e2 2300 (by decide)]; exact b12
    · rw [e2 2200 (by decide)]; exact b13
section LW
variable {xs : List Int32} {Kp : Nat → Prop} {h0 : am_H} {d : Nat} {Q : Option Value → cl_A → cl_S → Prop} {A : cl_A} {S : cl_S} {P : md_S} {nn W Wp B1 B2 aL dc ds : Nat} {cc : Int32}
theorem wS_k {g : Nat} (hg : g ∈ X_kp) : (wS A S Wp cc dc ds).2.1 g = S.2.1 g := by
  funext i
  have : ∀ g ∈ X_kp, ¬ (700 ≤ g ∧ g ≤ 703) ∧ ¬ g ≤ 4 ∧ ¬ (1000 ≤ g ∧ g ≤ 1002) ∧ ¬ g = 2501 ∧ ¬ g = 2500 ∧ g ∉ XBf := by decide
  obtain ⟨h1, h2, h3, h4, h5, h6⟩ := this g hg
  show wC (cl_rc A (fun _ => true) (wK Wp) S).2.1 Wp cc g i = _
  rw [wC_o (fun q => h1 q.1) (fun q => h2 q.1) (fun q => h3 q.1) (fun q => h4 q.1) (fun q => h5 q.1), wS_N h6]
theorem wS_pY : pY [] A S (wA A Wp S.2.2.1 aL) (wS A S Wp cc dc ds) := ⟨⟨wA_o (by decide) (by decide) (by decide), wA_o (by decide) (by decide) (by decide), wA_o (by decide) (by decide) (by decide), Nat.le_add_right _ _⟩, fun _ _ h => Or.inl h, fun g hg _ => wS_k hg⟩
theorem wS_pI (h : pI A S P nn Wp Wp B1 B2) (hW : Wp < 3600) (hB : B1 ≤ 100000) (hc : wcs A S Wp aL cc dc ds) : pI (wA A Wp S.2.2.1 aL) (wS A S Wp cc dc ds) P nn Wp (Wp + 1) B1 B2 := by
  obtain ⟨h1, ⟨w1, w2, w3, w4, w5⟩, _, _, h5, ⟨q1, ⟨q2, q2'⟩, q3, ⟨q4, q4'⟩, q5, q6, q7, q8, q9, q10, q11⟩, ⟨b1, b2, b3⟩, h8⟩ := h
  have hg := gl_gt Wp
  have e1001 : (wS A S Wp cc dc ds).2.1 1001 0 = 0 := by
    show wC (cl_rc A (fun _ => true) (wK Wp) S).2.1 Wp cc 1001 0 = 0
    unfold wC
    rw [if_neg (by omega), if_neg (by omega), if_neg (by omega), if_pos ⟨rfl, rfl⟩]
  have e1002 : (wS A S Wp cc dc ds).2.1 1002 0 = nI (Wp + 1) := by
    show wC (cl_rc A (fun _ => true) (wK Wp) S).2.1 Wp cc 1002 0 = _
    unfold wC
    rw [if_neg (by omega), if_neg (by omega), if_neg (by omega), if_neg (by omega), if_pos ⟨rfl, rfl⟩]
  have e2501 : (wS A S Wp cc dc ds).2.1 2501 0 = cc := by
    show wC (cl_rc A (fun _ => true) (wK Wp) S).2.1 Wp cc 2501 0 = cc
    unfold wC
    rw [if_neg (by omega), if_neg (by omega), if_neg (by omega), if_neg (by omega), if_neg (by omega), if_pos ⟨rfl, rfl⟩]
  have e2500 : ∀ p, ¬ p = Wp → (wS A S Wp cc dc ds).2.1 2500 p = S.2.1 2500 p := fun p hp => by
    show wC (cl_rc A (fun _ => true) (wK Wp) S).2.1 Wp cc 2500 p = _
    rw [wC_o (by omega) (by omega) (by omega) (by omega) (by omega), wS_N (by decide)]
  have e2500W : (wS A S Wp cc dc ds).2.1 2500 Wp = nI Wp := by
    show wC (cl_rc A (fun _ => true) (wK Wp) S).2.1 Wp cc 2500 Wp = _
    unfold wC
    rw [if_neg (by omega), if_neg (by omega), if_neg (by omega), if_neg (by omega), if_neg (by omega), if_neg (by omega), if_pos ⟨rfl, rfl⟩]
  have eo : ∀ g i, ¬ ((700 ≤ g ∧ g ≤ 703) ∧ i = Wp) → ¬ (g ≤ 4 ∧ i = 60 + Wp) → (g < 1000) → g ∉ XBf → (wS A S Wp cc dc ds).2.1 g i = S.2.1 g i := fun g i a1 a2 a3 a4 => by
    show wC (cl_rc A (fun _ => true) (wK Wp) S).2.1 Wp cc g i = _
    rw [wC_o a1 a2 (by omega) (by omega) (by omega), wS_N a4]
  have ecap : cap (wS A S Wp cc dc ds) = cc.toNatClampNeg := by
    unfold cap
    rw [e1001, if_neg (by decide), e2501]
  have hcc : Wp < cc.toNatClampNeg ∧ cc.toNatClampNeg ≤ 2 * (Wp + 1) + 10 ∧ S.2.2.1 + dc ≤ B1 + 3 * (Wp + 1) ∧ S.2.2.2 + ds ≤ B2 + 9 * (Wp + 1) + 4 * cc.toNatClampNeg := by
    rcases hc with ⟨c1, c2, c3, c4, c5, c6, c7⟩ | ⟨c1, c2, c3, c4, c5⟩
    · have : cap S = cc.toNatClampNeg := by
        unfold cap
        rw [if_neg c3, c4]
      rw [this] at b1 b3
      omega
    · rw [c2, nI_clamp (by omega)]
      have h4 : 4 * Wp + gl Wp ≤ 4 * gl Wp := by
        unfold gl
        split
        · omega
        · rename_i q
          have : Wp / 2 ≤ max 1 (Wp / 2) := by omega
          have : 1 ≤ max 1 (Wp / 2) := by omega
          omega
      omega
  refine ⟨h1.gr (fun _ _ q => Or.inl q) (fun g hg => wS_k ((show ∀ g ∈ X_st, g ∈ X_kp by decide) g hg)), ⟨by omega, e1002, by rw [e2501]; omega, fun _ => ⟨by rw [e1001]; decide, Or.inr (Or.inr (Or.inr ⟨rfl, rfl⟩))⟩, fun w hw => ?_⟩, by omega, by omega, ?_, ⟨wA_GA (by omega) (by omega) q1, ⟨fun j hj => ?_, fun j hj => ?_⟩, by rw [wS_k (by decide)]; exact q3, ⟨fun j hj => ?_, fun j hj => ?_⟩, fun j hj => ?_, fun j hj => ?_, fun p hp => ?_, fun f i hi => ?_, ?_, fun j hj => ?_, fun p => by rw [wS_k (by decide)]; exact q11 p⟩, ⟨by rw [ecap]; omega, hcc.2.2.1, by rw [ecap]; exact hcc.2.2.2⟩, fun w hw => ?_⟩
  · by_cases c : w = Wp
    · subst c
      refine ⟨e2500W, vp_nI (by omega) (by decide), ?_, ?_⟩
      · rw [nI_clamp (by omega)]
        exact Or.inr (Or.inl ⟨rfl, rfl⟩)
      · rw [nI_clamp (by omega)]
        exact Or.inr (Or.inr (Or.inl ⟨rfl, rfl⟩))
    · rw [e2500 w c]
      obtain ⟨a1, a2, a3, a4⟩ := w5 w (by omega)
      exact ⟨a1, a2, Or.inl a3, Or.inl a4⟩
  · rw [eo 301 0 (by omega) (by omega) (by omega) (by decide)]
    exact h5
  · rcases hj with hj | hj | hj | hj
    · exact q2 j hj
    · omega
    · omega
    · omega
  · rcases hj with hj | hj | hj | hj
    · exact q2' j hj
    · omega
    · omega
    · omega
  · rcases hj with hj | hj | hj | hj
    · exact q4 j hj
    · omega
    · omega
    · omega
  · rcases hj with hj | hj | hj | hj
    · exact q4' j hj
    · omega
    · omega
    · omega
  · rcases hj with hj | hj | hj | hj
    · have := q5 j hj
      omega
    · omega
    · omega
    · omega
  · rcases hj with hj | hj | hj | hj
    · have := q6 j hj
      omega
    · omega
    · omega
    · omega
  · rw [e2500 p (by omega)]
    exact q7 p (by omega)
  · rcases hi with hi | hi | hi | hi
    · exact q8 f i hi
    · omega
    · omega
    · omega
  · rw [e1001]
    exact ⟨fun q => absurd q (by decide), fun q => by omega⟩
  · rw [wS_k (by decide)]
    rcases hj with hj | hj | hj | hj
    · exact q10 j hj
    · omega
    · omega
    · omega
  · unfold wdc
    rw [eo 700 w (by omega) (by omega) (by omega) (by decide), eo 701 w (by omega) (by omega) (by omega) (by decide), eo 702 w (by omega) (by omega) (by omega) (by decide), eo 2 _ (by omega) (by omega) (by omega) (by decide), eo 3 _ (by omega) (by omega) (by omega) (by decide)]
    exact h8 w hw
theorem word_mid {x1 x2 x3 x4 : Int32} {o : Option Value} (h : pI A S P nn Wp Wp B1 B2) (hW : Wp < 3600) (hK : ∀ a, Kp a → a < S.2.2.1) (hB : B1 ≤ 100000) (k : ∀ A' S', pI A' S' P nn Wp (Wp + 1) B1 B2 → pY [] A S A' S' → cl_wp xs Kp h0 (d + 7) Q I34 35 [some (cl_rf A' 3 0), some (cl_rf A' 5 x1), some (.int x2), some (.int x3), some (.int x4), o] [] A' S') : cl_wp xs Kp h0 (d + 7) Q I34 24 [some (cl_rf A 3 0), some (cl_rf A 5 x1), some (.int x2), some (.int x3), some (.int x4), o] [cl_rf A 10 0] A S := by
  have hI := h
  obtain ⟨h1, h2, _, h3, h5, hce, hbd, h8⟩ := h
  intro h hR hF
  have hz := h1.2.1
  have e10 : cl_rf A 10 0 = .ref (A 10 0) := cl_rf_lv hz.l10
  rw [e10]
  have c10 : h[A 10 0]? = some (cl_cell A S 10 0) := (hR.1 10 0 hz.2.2.2.1).1
  refine ax_new (dd D34_ok 12 rfl) pl3_44 rfl rfl rfl ?_
  refine ax_dup (dd D34_ok 13 rfl) ?_
  have hb : (h ++ [(Sum.inl (7, [.int 0, .int 0, .int 0, .null]) : am_E)])[h.length]? = some (.inl (7, [.int 0, .int 0, .int 0, .null])) := by
    rw [List.getElem?_append_right (Nat.le_refl _), Nat.sub_self]
    rfl
  refine ax_init (as := []) (b := h.length) (rest := [.ref h.length, .ref (A 10 0)]) (dd D34_ok 14 rfl) pl3_107 (Or.inr rfl) rfl (Nat.le_of_ble_eq_true rfl) rfl (r36 hb _ ⟨rfl, ?_⟩)
  have eX : XH (h ++ [(Sum.inl (7, [.int 0, .int 0, .int 0, .null]) : am_E)]) h.length (.inl (7, [.int 0, .int 0, .int 0, .ref ((h ++ [(Sum.inl (7, [.int 0, .int 0, .int 0, .null]) : am_E)]).length + 0)])) [.inl (0, [.int 0, .int 0, .int 0, .int 0, .null])] = h ++ [(Sum.inl (7, [Value.int 0, Value.int 0, Value.int 0, Value.ref (h.length + 1)]) : am_E), (Sum.inl (0, [.int 0, .int 0, .int 0, .int 0, .null]) : am_E)] := by
    unfold XH
    rw [List.set_append_right _ _ (Nat.le_refl _)]
    simp
  rw [eX]
  have c10' : (h ++ [(Sum.inl (7, [Value.int 0, Value.int 0, Value.int 0, Value.ref (h.length + 1)]) : am_E), (Sum.inl (0, [.int 0, .int 0, .int 0, .int 0, .null]) : am_E)])[A 10 0]? = some (.inl (10, (List.range 3).map (fun k => cl_fv A S 10 k 0))) := by
    rw [List.getElem?_append_left (List.getElem?_eq_some_iff.mp c10).1, c10]
    rfl
  refine ax_callv (as := [.ref h.length]) (rest := []) (dd D34_ok 15 rfl) pl3_108 rfl (Nat.le_of_ble_eq_true rfl) rfl (ms37 xs) c10' (am_T_mono ?_ (word_cells (d := d + 1) hR hce h2 hz hK h3 (by have := hbd.1; omega) (Q' := fun h' => am_wp (am_Bx xs) am_nm (am_T (am_Bx xs) am_nm (d + 7)) (fun v h' => ∃ A' S', cl_R Kp A' S' h' ∧ cl_Fr Kp h0 h' ∧ Q v A' S') I34 (35, [some (cl_rf A 3 0), some (cl_rf A 5 x1), some (.int x2), some (.int x3), some (.int x4), o], [], h')) ?_))
  · rintro v h' ⟨rfl, hq⟩
    exact ax_pop (dd D34_ok 16 rfl) hq
  · intro aL cc dc ds h' hc hR' hF'
    have hY : pY [] A S (wA A Wp S.2.2.1 aL) (wS A S Wp cc dc ds) := wS_pY
    have k2 := k _ _ (wS_pI hI hW hB hc) hY h' hR' (hF.tr hF')
    have e3 : cl_rf (wA A Wp S.2.2.1 aL) 3 0 = cl_rf A 3 0 := by
      unfold cl_rf
      rw [hY.1.1]
    have e5 : cl_rf (wA A Wp S.2.2.1 aL) 5 x1 = cl_rf A 5 x1 := by
      unfold cl_rf
      rw [hY.1.2.1]
    rw [e3, e5] at k2
    exact k2
end LW
