/-! the class: listWord, listWords (by program and by hand: wip/whole/gen/c69.py) -/
set_option maxHeartbeats 1000000 in
theorem vc31_0 {xs : List Int32} {K : Nat → Prop} {h0 : am_H} {d : Nat} {Q : Option Value → cl_A → cl_S → Prop} {A : cl_A} {S : cl_S} {x1 : Int32}
    (k : cl_wp xs K h0 (d + 8) Q I31 7 [some (cl_rf A 3 0), some (cl_rf A 5 x1), some (.int 0), some (.int 0), some (.int 0)] [] A S) :
    cl_wp xs K h0 (d + 8) Q I31 0 [some (cl_rf A 3 0), some (cl_rf A 5 x1), none, none, none] [] A S := by
  refine cl_iconst (v := 0) (dd D31_ok 0 rfl) (by decide) ?_
  refine cl_istore_n (dd D31_ok 1 rfl) (Nat.le_of_ble_eq_true rfl) ?_
  refine cl_iconst (v := 0) (dd D31_ok 2 rfl) (by decide) ?_
  refine cl_istore_n (dd D31_ok 3 rfl) (Nat.le_of_ble_eq_true rfl) ?_
  refine cl_iconst (v := 0) (dd D31_ok 4 rfl) (by decide) ?_
  refine cl_istore (dd D31_ok 5 rfl) (Nat.le_of_ble_eq_true rfl) ?_
  exact k
set_option maxHeartbeats 1000000 in
theorem vc31_7 {xs : List Int32} {K : Nat → Prop} {h0 : am_H} {d : Nat} {Q : Option Value → cl_A → cl_S → Prop} {A : cl_A} {S : cl_S} {x1 : Int32} {x2 : Int32} {x3 : Int32} {x4 : Int32}
    (k : (cl_n S x1) ∧ ((¬ (S.2.1 508 x1.toNatClampNeg) = -1 → S.1 23 x1.toNatClampNeg) ∧ ((((nI (cl_bn S x1 (S.2.1 508 x1.toNatClampNeg))) ≤ x4) → cl_wp xs K h0 (d + 8) Q I31 77 [some (cl_rf A 3 0), some (cl_rf A 5 x1), some (.int x2), some (.int x3), some (.int x4)] [.int x3, .int (nI (cl_bn S x1 (S.2.1 508 x1.toNatClampNeg))), .int x2, cl_rf A 5 x1, cl_rf A 3 0] A S) ∧ (¬ ((nI (cl_bn S x1 (S.2.1 508 x1.toNatClampNeg))) ≤ x4) → (vp_in x4 (cl_bn S x1 (S.2.1 508 x1.toNatClampNeg))) ∧ (((¬ (g_blank S (S.2.1 2300 (120 * x1.toNatClampNeg + x4.toNatClampNeg))) = 0) → cl_wp xs K h0 (d + 8) Q I31 52 [some (cl_rf A 3 0), some (cl_rf A 5 x1), some (.int x2), some (.int x3), some (.int x4)] [.int x3, .int x4, .int x2, cl_rf A 5 x1, cl_rf A 3 0] A S) ∧ (¬ (¬ (g_blank S (S.2.1 2300 (120 * x1.toNatClampNeg + x4.toNatClampNeg))) = 0) → cl_wp xs K h0 (d + 8) Q I31 7 [some (cl_rf A 3 0), some (cl_rf A 5 x1), some (.int x2), some (.int (x3 + (f_glyph (S.2.1 2300 (120 * x1.toNatClampNeg + x4.toNatClampNeg))))), some (.int (x4 + 1))] [] A S)))))) :
    cl_wp xs K h0 (d + 8) Q I31 7 [some (cl_rf A 3 0), some (cl_rf A 5 x1), some (.int x2), some (.int x3), some (.int x4)] [] A S := by
  refine cl_iload (dd D31_ok 6 rfl) rfl ?_
  refine cl_aload_n (dd D31_ok 7 rfl) rfl ?_
  refine cl_gB (e := S.2.1 508 x1.toNatClampNeg) (dd D31_ok 8 rfl) pl3_92 (by decide) k.1.l5 rfl ?_
  refine cl_blen (dd D31_ok 9 rfl) k.2.1 ?_
  refine cl_icmp_ge (tgt := 68) (dd D31_ok 10 rfl) (by decide) (fun c1 => ?_) (fun c1 => ?_)
  · refine cl_aload_n (dd D31_ok 40 rfl) rfl ?_
    refine cl_aload_n (dd D31_ok 41 rfl) rfl ?_
    refine cl_iload_n (dd D31_ok 42 rfl) rfl ?_
    refine cl_aload_n (dd D31_ok 43 rfl) rfl ?_
    refine cl_gB (e := S.2.1 508 x1.toNatClampNeg) (dd D31_ok 44 rfl) pl3_92 (by decide) k.1.l5 rfl ?_
    refine cl_blen (dd D31_ok 45 rfl) k.2.1 ?_
    refine cl_iload_n (dd D31_ok 46 rfl) rfl ?_
    exact (k.2.2.1 c1)
  · refine cl_aload_n (dd D31_ok 11 rfl) rfl ?_
    refine cl_gB (e := S.2.1 508 x1.toNatClampNeg) (dd D31_ok 12 rfl) pl3_92 (by decide) k.1.l5 rfl ?_
    refine cl_iload (dd D31_ok 13 rfl) rfl ?_
    refine cl_bld (e := S.2.1 2300 (120 * x1.toNatClampNeg + x4.toNatClampNeg)) (dd D31_ok 14 rfl) k.2.1 (k.2.2.2 c1).1 rfl ?_
    refine cl_callsP (r := .int (g_blank S (S.2.1 2300 (120 * x1.toNatClampNeg + x4.toNatClampNeg)))) (as := [.int (S.2.1 2300 (120 * x1.toNatClampNeg + x4.toNatClampNeg))]) (rest := []) (dd D31_ok 15 rfl) pl3_96 rfl (Nat.le_of_ble_eq_true rfl) (cc_g_blank (S := S) ) rfl ?_
    refine cl_if_ne (tgt := 46) (dd D31_ok 16 rfl) (by decide) (fun c2 => ?_) (fun c2 => ?_)
    · refine cl_aload_n (dd D31_ok 26 rfl) rfl ?_
      refine cl_aload_n (dd D31_ok 27 rfl) rfl ?_
      refine cl_iload_n (dd D31_ok 28 rfl) rfl ?_
      refine cl_iload (dd D31_ok 29 rfl) rfl ?_
      refine cl_iload_n (dd D31_ok 30 rfl) rfl ?_
      exact ((k.2.2.2 c1).2.1 c2)
    · refine cl_iload_n (dd D31_ok 17 rfl) rfl ?_
      refine cl_aload_n (dd D31_ok 18 rfl) rfl ?_
      refine cl_gB (e := S.2.1 508 x1.toNatClampNeg) (dd D31_ok 19 rfl) pl3_92 (by decide) k.1.l5 rfl ?_
      refine cl_iload (dd D31_ok 20 rfl) rfl ?_
      refine cl_bld (e := S.2.1 2300 (120 * x1.toNatClampNeg + x4.toNatClampNeg)) (dd D31_ok 21 rfl) k.2.1 (k.2.2.2 c1).1 rfl ?_
      refine cl_callsP (r := .int (f_glyph (S.2.1 2300 (120 * x1.toNatClampNeg + x4.toNatClampNeg)))) (as := [.int (S.2.1 2300 (120 * x1.toNatClampNeg + x4.toNatClampNeg))]) (rest := [.int x3]) (dd D31_ok 22 rfl) pl3_100 rfl (Nat.le_of_ble_eq_true rfl) (kk_glyph (S := S) ) rfl ?_
      refine cl_iadd (dd D31_ok 23 rfl) ?_
      refine cl_istore_n (dd D31_ok 24 rfl) (Nat.le_of_ble_eq_true rfl) ?_
      refine cl_goto (tgt := 62) (dd D31_ok 25 rfl) (by decide) ?_
      refine cl_iinc (v := x4 + 1) (dd D31_ok 38 rfl) rfl rfl ?_
      refine cl_goto (tgt := 7) (dd D31_ok 39 rfl) (by decide) ?_
      exact ((k.2.2.2 c1).2.2 c2)
set_option maxHeartbeats 1000000 in
theorem vc31_55 {xs : List Int32} {K : Nat → Prop} {h0 : am_H} {d : Nat} {Q : Option Value → cl_A → cl_S → Prop} {A : cl_A} {S : cl_S} {x1 : Int32} {x2 : Int32} {x3 : Int32} {x4 : Int32}
    (k : cl_wp xs K h0 (d + 8) Q I31 7 [some (cl_rf A 3 0), some (cl_rf A 5 x1), some (.int (x4 + 1)), some (.int 0), some (.int (x4 + 1))] [] A S) :
    cl_wp xs K h0 (d + 8) Q I31 55 [some (cl_rf A 3 0), some (cl_rf A 5 x1), some (.int x2), some (.int x3), some (.int x4)] [] A S := by
  refine cl_iload (dd D31_ok 32 rfl) rfl ?_
  refine cl_iconst (v := 1) (dd D31_ok 33 rfl) (by decide) ?_
  refine cl_iadd (dd D31_ok 34 rfl) ?_
  refine cl_istore_n (dd D31_ok 35 rfl) (Nat.le_of_ble_eq_true rfl) ?_
  refine cl_iconst (v := 0) (dd D31_ok 36 rfl) (by decide) ?_
  refine cl_istore_n (dd D31_ok 37 rfl) (Nat.le_of_ble_eq_true rfl) ?_
  refine cl_iinc (v := x4 + 1) (dd D31_ok 38 rfl) rfl rfl ?_
  refine cl_goto (tgt := 7) (dd D31_ok 39 rfl) (by decide) ?_
  exact k
theorem CE_same {A : cl_A} {S S' : cl_S} {Wp : Nat} {cs : List Nat} (h : CE A S Wp) (e : cl_X cs S S') (hc : ∀ g ∈ [510, 1001, 2000, 2301, 2500], g ∉ cs) : CE A S' Wp := h.x e hc
theorem BD_same {S S' : cl_S} {Wp B1 B2 : Nat} {cs : List Nat} (h : BD S Wp B1 B2) (e : cl_X cs S S') (hc : ∀ g ∈ [1001, 2501], g ∉ cs) : BD S' Wp B1 B2 := by
  unfold BD at h ⊢
  rw [e.2.1, cap_x (e.2.2 1001 (hc 1001 (by decide))) (e.2.2 2501 (hc 2501 (by decide)))]
  exact h
section LW2
variable {xs : List Int32} {Kp : Nat → Prop} {h0 : am_H} {d : Nat} {Q : Option Value → cl_A → cl_S → Prop} {A : cl_A} {S : cl_S} {P : md_S} {nn W Wp B1 B2 i : Nat}
theorem nI_sub' {a b : Nat} (h : a ≤ b) (hb : b < 2 ^ 31) : nI b - nI a = nI (b - a) := by
  have : nI b = nI (b - a) + nI a := by rw [nI_add, Nat.sub_add_cancel h]
  rw [this, Int32.add_sub_cancel]
theorem pI.nt (h : pI A S P nn W Wp B1 B2) (hi : i < nn) : cl_nt S P i := h.1.2.2.2 i hi
theorem has8 (h : pI A S P nn W Wp B1 B2) (hi : i < nn) : S.2.1 2200 (9 * i + 8) = f_of P (nI i) 8 := by
  have h60 := h.1.1
  have := (h.nt hi).2.2.2.2.2.2.2.2.2.2.2.2 8 (by decide)
  rw [this]
  exact (f_of_n (M := P) (i := i) (q := 8) (by omega) (by decide)).symm
theorem lw_tail {x2 x3 x4 : Int32} {o : Option Value} (h : pI A S P nn W Wp B1 B2) (hW : W < Wp) (hi : i < nn) (hw : P.2 30 W = nI i ∧ P.2 31 W = x2 ∧ P.2 32 W = x3 - x2 ∧ P.2 35 W = x4 * f_of P (nI i) 8 ∧ P.2 36 W = 7 * f_of P (nI i) 8) (k : ∀ S', pI A S' P nn (W + 1) Wp B1 B2 → pY [] A S A S' → Q none A S') : cl_wp xs Kp h0 (d + 7) Q I34 35 [some (cl_rf A 3 0), some (cl_rf A 5 (nI i)), some (.int x2), some (.int x3), some (.int x4), o] [] A S := by
  have hI := h
  obtain ⟨h1, h2, h3, h4, h5, hce, hbd, h8⟩ := h
  have h60 := h1.1
  have ci : (nI i).toNatClampNeg = i := nI_clamp (by omega)
  have hz := h1.2.1
  have e0 : cl_X [301, 700, 701, 702, 2, 3] S (cl_up S 301 0 (nI (W + 1))) := cl_X.rf.up (by decide) _ _
  refine vc34_35 ⟨hz, ?_⟩
  rw [h5, Int32.add_sub_cancel, nI_1]
  refine kk_wordAt (d := d + 3) (S := cl_up S 301 0 (nI (W + 1))) (W := W + 1) (Wp := Wp) (hz.mv rfl) (h2.x e0 (by decide)) (by omega) (cl_up_at _ _ _ _) _ (fun w hw' ew => ?_) (fun hne => absurd ⟨W, by omega, rfl⟩ hne)
  have hwW : w = W := by
    have := congrArg Int32.toInt ew
    rw [nI_toInt (by omega), nI_toInt (by omega)] at this
    omega
  subst hwW
  have cw : (nI w).toNatClampNeg = w := nI_clamp (by omega)
  have cw2 : (60 + nI w).toNatClampNeg = 60 + w := by
    rw [show (60 : Int32) = nI 60 from rfl, nI_add, nI_clamp (by omega)]
  have hnt := hI.nt hi
  refine ⟨rfl, rfl, nI w, rfl, fun _ => ⟨hnt.1.mv rfl, ((h2.2.2.2.2 w (by omega)).2).mv rfl, ?_⟩, fun q => absurd (nI_ne_m1 (by omega)) q⟩
  rw [cw, cw2, ci, e0.2.2 500 (by decide), e0.2.2 2200 (by decide), hnt.2.1, has8 hI hi]
  have e1 : cl_X [301, 700, 701, 702, 2, 3] S (cl_up (cl_up (cl_up (cl_up (cl_up (cl_up S 301 0 (nI (w + 1))) 700 w (nI i)) 701 w x2) 702 w (x3 - x2)) 2 (60 + w) (x4 * f_of P (nI i) 8)) 3 (60 + w) (7 * f_of P (nI i) 8)) := ((((e0.up (by decide) _ _).up (by decide) _ _).up (by decide) _ _).up (by decide) _ _).up (by decide) _ _
  refine k _ ⟨h1.x e1 (by decide), h2.x e1 (by decide), by omega, h4, ?_, hce.x e1 (by decide), BD_same hbd e1 (by decide), fun v hv => ?_⟩ ((pY.x e1).sub (by decide))
  · rw [cl_up_off _ _ (by omega), cl_up_off _ _ (by omega), cl_up_off _ _ (by omega), cl_up_off _ _ (by omega), cl_up_off _ _ (by omega), cl_up_at]
  · by_cases c : v = w
    · subst c
      refine ⟨?_, ?_, ?_, ?_, ?_⟩
      · rw [cl_up_off _ _ (by omega), cl_up_off _ _ (by omega), cl_up_off _ _ (by omega), cl_up_off _ _ (by omega), cl_up_at]; exact hw.1.symm
      · rw [cl_up_off _ _ (by omega), cl_up_off _ _ (by omega), cl_up_off _ _ (by omega), cl_up_at]; exact hw.2.1.symm
      · rw [cl_up_off _ _ (by omega), cl_up_off _ _ (by omega), cl_up_at]; exact hw.2.2.1.symm
      · rw [cl_up_off _ _ (by omega), cl_up_at]; exact hw.2.2.2.1.symm
      · rw [cl_up_at]; exact hw.2.2.2.2.symm
    · obtain ⟨a1, a2, a3, a4, a5⟩ := h8 v (by omega)
      refine ⟨?_, ?_, ?_, ?_, ?_⟩
      · rw [cl_up_off _ _ (by omega), cl_up_off _ _ (by omega), cl_up_off _ _ (by omega), cl_up_off _ _ (by omega), cl_up_off _ _ (by omega), cl_up_off _ _ (by omega)]; exact a1
      · rw [cl_up_off _ _ (by omega), cl_up_off _ _ (by omega), cl_up_off _ _ (by omega), cl_up_off _ _ (by omega), cl_up_off _ _ (by omega), cl_up_off _ _ (by omega)]; exact a2
      · rw [cl_up_off _ _ (by omega), cl_up_off _ _ (by omega), cl_up_off _ _ (by omega), cl_up_off _ _ (by omega), cl_up_off _ _ (by omega), cl_up_off _ _ (by omega)]; exact a3
      · rw [cl_up_off _ _ (by omega), cl_up_off _ _ (by omega), cl_up_off _ _ (by omega), cl_up_off _ _ (by omega), cl_up_off _ _ (by omega), cl_up_off _ _ (by omega)]; exact a4
      · rw [cl_up_off _ _ (by omega), cl_up_off _ _ (by omega), cl_up_off _ _ (by omega), cl_up_off _ _ (by omega), cl_up_off _ _ (by omega), cl_up_off _ _ (by omega)]; exact a5
theorem kk_listWord (h : pI A S P nn W Wp B1 B2) (hi : i < nn) (hB : B1 ≤ 100000) (hK : ∀ a, Kp a → a < S.2.2.1) {a b : Nat} (hb : b ≤ 120) (ha : a ≤ 121) {wd : Int32} (hw : a < b → W < 3600 ∧ P.2 30 W = nI i ∧ P.2 31 W = nI a ∧ P.2 32 W = nI (b - a) ∧ P.2 35 W = wd * f_of P (nI i) 8 ∧ P.2 36 W = 7 * f_of P (nI i) 8) : ∀ Q', (∀ A' S' Wp', pI A' S' P nn (if a < b then W + 1 else W) Wp' B1 B2 → pY [] A S A' S' → Q' none A' S') → cl_C xs Kp (d + 8) 34 [cl_rf A 3 0, cl_rf A 5 (nI i), .int (nI a), .int (nI b), .int wd] A S Q' := by
  intro Q' hQ
  have hI := h
  obtain ⟨h1, h2, h3, h4, h5, hce, hbd, h8⟩ := h
  have hlt : nI a < nI b ↔ a < b := by
    rw [Int32.lt_iff_toInt_lt, nI_toInt (by omega), nI_toInt (by omega)]
    omega
  refine cl_intro (ms34 xs) (Nat.le_of_ble_eq_true rfl) (fun h0 => vc34_0 ⟨fun c => ⟨h1.2.1, fun q => ?_, fun q => ?_⟩, fun c => ?_⟩)
  · rw [hlt] at c
    obtain ⟨w0, w1, w2, w3, w4, w5⟩ := hw c
    rw [if_pos c] at hQ
    have hWp : W < Wp := by
      rcases Nat.lt_or_ge W Wp with x | x
      · exact x
      · exfalso
        refine q ?_
        show S.2.1 301 0 = S.2.1 1002 0
        rw [h5, h2.2.1, show W = Wp by omega]
    refine lw_tail hI hWp hi ⟨w1, w2, ?_, w4, w5⟩ (fun S' k1 k2 => hQ A S' Wp k1 k2)
    rw [w3]
    exact (nI_sub' (by omega) (by omega)).symm
  · rw [hlt] at c
    obtain ⟨w0, w1, w2, w3, w4, w5⟩ := hw c
    rw [if_pos c] at hQ
    have hWW : W = Wp := by
      have q := Classical.not_not.mp q
      have q : S.2.1 301 0 = S.2.1 1002 0 := q
      rw [h5, h2.2.1] at q
      have := congrArg Int32.toInt q
      rw [nI_toInt (by omega), nI_toInt (by omega)] at this
      omega
    subst hWW
    refine word_mid hI w0 hK hB (fun A' S' k1 k2 => lw_tail k1 (by omega) hi ⟨w1, w2, ?_, w4, w5⟩ (fun S2 k3 k4 => hQ A' S2 (W + 1) k3 (k2.tr k4)))
    rw [w3]
    exact (nI_sub' (by omega) (by omega)).symm
  · rw [hlt] at c
    rw [if_neg c] at hQ
    exact hQ A S Wp hI pY.rf
end LW2
