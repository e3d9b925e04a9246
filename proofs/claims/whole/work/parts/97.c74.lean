/-! the class: lay (by program and by hand: wip/whole/gen/c74.py) -/
set_option maxHeartbeats 1000000 in
theorem vc28_0 {xs : List Int32} {K : Nat → Prop} {h0 : am_H} {d : Nat} {Q : Option Value → cl_A → cl_S → Prop} {A : cl_A} {S : cl_S} {x1 : Int32}
    (k : (cl_z S) ∧ (cl_C xs K (d + 801) 19 [cl_rf A 8 0, .int 0] A S (fun v A' N1 => A' = A ∧ N1.1 = S.1 ∧ ∃ y1, v = some (cl_rf A 5 y1) ∧ (((y1 = -1) → Q (some (.int (-1))) A N1) ∧ (¬ (y1 = -1) → ((x1 < 20) → Q (some (.int (-1))) A N1) ∧ (¬ (x1 < 20) → ((x1 ≤ 400) → cl_wp xs K h0 (d + 801) Q I28 31 [some (cl_rf A 8 0), some (.int x1), some (cl_rf A 5 y1)] [.int x1, cl_rf A 5 y1, cl_rf A 3 0] A N1) ∧ (¬ (x1 ≤ 400) → Q (some (.int (-1))) A N1))))))) :
    cl_wp xs K h0 (d + 801) Q I28 0 [some (cl_rf A 8 0), some (.int x1), none] [] A S := by
  refine cl_aload_n (dd D28_ok 0 rfl) rfl ?_
  refine cl_iconst (v := 0) (dd D28_ok 1 rfl) (by decide) ?_
  refine cl_call (as := [.int 0]) (rest := []) (v := 0) (dd D28_ok 2 rfl) pl8_57 rfl (Nat.le_of_ble_eq_true rfl) (ms19 xs) rfl (by decide) k.1.l8 ((k.2).mono ?_) rfl
  rintro v A N1 ⟨rfl, e1, y1, rfl, w1⟩
  refine cl_astore_n (dd D28_ok 3 rfl) (Nat.le_of_ble_eq_true rfl) ?_
  refine cl_aload_n (dd D28_ok 4 rfl) rfl ?_
  refine cl_ifnull (tgt := 23) (dd D28_ok 5 rfl) (by decide) (fun c1 => ?_) (fun c1 => ?_)
  · refine cl_iconst (v := (-1)) (dd D28_ok 12 rfl) (by decide) ?_
    exact cl_iret (dd D28_ok 13 rfl) rfl (w1.1 c1)
  · refine cl_iload_n (dd D28_ok 6 rfl) rfl ?_
    refine cl_bipush (v := 20) (dd D28_ok 7 rfl) (by decide) ?_
    refine cl_icmp_lt (tgt := 23) (dd D28_ok 8 rfl) (by decide) (fun c2 => ?_) (fun c2 => ?_)
    · refine cl_iconst (v := (-1)) (dd D28_ok 12 rfl) (by decide) ?_
      exact cl_iret (dd D28_ok 13 rfl) rfl ((w1.2 c1).1 c2)
    · refine cl_iload_n (dd D28_ok 9 rfl) rfl ?_
      refine cl_sipush (v := 400) (dd D28_ok 10 rfl) (by decide) ?_
      refine cl_icmp_le (tgt := 25) (dd D28_ok 11 rfl) (by decide) (fun c3 => ?_) (fun c3 => ?_)
      · refine cl_aload_n (dd D28_ok 14 rfl) rfl ?_
        refine cl_getO (g := 3) (dd D28_ok 15 rfl) pl8_22 (by decide) (by decide) (by decide) rfl (k.1.mv e1).l8 ?_
        refine cl_aload_n (dd D28_ok 16 rfl) rfl ?_
        refine cl_iload_n (dd D28_ok 17 rfl) rfl ?_
        exact (((w1.2 c1).2 c2).1 c3)
      · refine cl_iconst (v := (-1)) (dd D28_ok 12 rfl) (by decide) ?_
        exact cl_iret (dd D28_ok 13 rfl) rfl (((w1.2 c1).2 c2).2 c3)
set_option maxHeartbeats 1000000 in
theorem vc28_34 {xs : List Int32} {K : Nat → Prop} {h0 : am_H} {d : Nat} {Q : Option Value → cl_A → cl_S → Prop} {A : cl_A} {S : cl_S} {x1 : Int32} {x2 : Int32}
    (k : (cl_n S x2) ∧ (Q (some (.int (S.2.1 3 x2.toNatClampNeg))) A S)) :
    cl_wp xs K h0 (d + 801) Q I28 34 [some (cl_rf A 8 0), some (.int x1), some (cl_rf A 5 x2)] [] A S := by
  refine cl_aload_n (dd D28_ok 19 rfl) rfl ?_
  refine cl_getO (g := 0) (dd D28_ok 20 rfl) pl8_84 (by decide) (by decide) (by decide) rfl k.1.l5 ?_
  refine cl_gI (g := 3) (e := S.2.1 3 x2.toNatClampNeg) (dd D28_ok 21 rfl) pl8_88 (by decide) (by decide) (by decide) rfl rfl k.1.l0 rfl ?_
  exact cl_iret (dd D28_ok 22 rfl) rfl k.2
section LAY
variable {xs : List Int32} {Kp : Nat → Prop} {h0 : am_H} {d : Nat} {A : cl_A} {S S' : cl_S} {M M1 M2 : md_S} {K : bt} {nn W t Wp B1 B2 : Nat} {w : Int32}
theorem M2_eq (h1 : mo_F M M1 K nn) (h2 : l1_P w (md_up1 M1 29 0) M2 (bt_root K) 0) : (∀ a, a ∉ [12, 13, 14, 19, 20, 21, 17, 18, 28, 30, 31, 32, 35, 36] → M2.2 a = M.2 a) ∧ (∀ f, f ∉ [22, 29] → M2.1 f = M.1 f) ∧ M2.1 29 = nI (l1_ws M2 (bt_root K)) := by
  obtain ⟨x1, _, _, m1, m2⟩ := h1
  obtain ⟨x2, x3, _, _, hF⟩ := h2
  refine ⟨fun a ha => ?_, fun f hf => ?_, ?_⟩
  · rw [x2.2 a (fun c => ha ((show ∀ a ∈ X_E, a ∈ [12, 13, 14, 19, 20, 21, 17, 18, 28, 30, 31, 32, 35, 36] by decide) a c))]
    exact x1.2 a (fun c => ha ((show ∀ a ∈ [12, 13, 14, 19, 20, 21], a ∈ [12, 13, 14, 19, 20, 21, 17, 18, 28, 30, 31, 32, 35, 36] by decide) a c))
  · simp only [List.mem_cons, List.not_mem_nil, or_false, not_or] at hf
    rw [x2.1 f (by simp [hf.2]), md_up1_ne _ hf.2, x1.1 f (by simp [hf.1])]
  · rw [x3, l1_ws_same x2, Nat.zero_add]
theorem kk_layRoot (h : INV A S M K nn W t Wp) (hFL : FL M nn) (h1 : mo_F M M1 K nn) (h2 : l1_P w (md_up1 M1 29 0) M2 (bt_root K) 0) (hw : lay_ok w) (hBD : BD S Wp B1 B2) (hK : ∀ a, Kp a → a < S.2.2.1) (hB : B1 ≤ 100000) (hx : ∀ f, f ∉ X_L → (f_lay4 M2 K (l1_ws M2 (bt_root K))).1 f = M2.1 f) : ∀ Q', (∀ A' S' Wp', INV A' S' (f_lay4 M2 K (l1_ws M2 (bt_root K))) K nn (l1_ws M2 (bt_root K)) t Wp' → BD S' Wp' B1 B2 → A' 8 = A 8 → A' 5 = A 5 → S.2.2.1 ≤ S'.2.2.1 → S'.2.1 3 0 = (f_lay4 M2 K (l1_ws M2 (bt_root K))).2 18 0 → Q' none A' S') → cl_C xs Kp (d + 801) 29 [cl_rf A 3 0, cl_rf A 5 (nI 0), .int w] A S Q' := by
  intro Q' hQ
  have hHS : HS M2 K nn (l1_ws M2 (bt_root K)) w := HS_of h.1.1 h1 h2 rfl hw
  obtain ⟨eM, eM1, eM29⟩ := M2_eq h1 h2
  have hNS := hHS.1
  have h60 := hNS.1
  obtain ⟨hCR, hLK, ⟨w1, w2, w3⟩, hce⟩ := h
  obtain ⟨c1, c2, c3, c4, ⟨c5a, c5b, c5c, c5d⟩, c6, c7, c8, c9, c10, c11⟩ := hCR
  have hpre : bt_pre (bt_root K) = 0 :: bt_pre K := by simp [bt_root, bt_pre]
  have hn0 : 0 < nn := (hHS.2.2.2.1 0).mpr (by rw [hpre]; simp)
  obtain ⟨f1, f2, f3⟩ := hHS.2.2.2.2.2.1
  obtain ⟨r1, r2, r3, r4, r5, r6⟩ := hHS.2.1
  have hnd := hHS.2.2.1
  rw [hpre] at hnd
  have hFL2 : FL M2 nn := by
    unfold FL at hFL ⊢
    rw [eM 9 (by decide), eM 3 (by decide)]
    exact hFL
  have hT2 : cl_T S M2 nn := c2.mm (fun f q1 q2 => eM f (by
    simp only [List.mem_cons, List.not_mem_nil, or_false, not_or]
    omega))
  have e1 : cl_X [301] S (cl_up S 301 0 0) := cl_X.rf.up (by decide) _ _
  have hI0 : pI A (cl_up S 301 0 0) M2 nn 0 Wp B1 B2 := ⟨hT2.x e1 (by decide), w1.x e1 (by decide), Nat.zero_le _, w3, cl_up_at _ _ _ _, hce.x e1 (by decide), BD_same hBD e1 (by decide), fun v hv => absurd hv (Nat.not_lt_zero _)⟩
  have hW6 : l1_ws M2 (bt_root K) ≤ 3600 := by
    have := ls_sum (f := l1_w M2) (B := 60) (bt_pre (bt_root K)) (fun x hx => by
      have hxn := (hHS.2.2.2.1 x).mpr hx
      unfold l1_w
      split
      · exact ws_le (hNS.2 x hxn).1.2.2.2.2.2.1
      · omega)
    have hl : (bt_pre (bt_root K)).length ≤ nn := nodup_le nn _ hHS.2.2.1 (fun x hx => (hHS.2.2.2.1 x).mpr hx)
    unfold l1_ws
    have : 60 * (bt_pre (bt_root K)).length ≤ 60 * 60 := Nat.mul_le_mul_left _ (by omega)
    omega
  have hWb : l1_ws M2 (bt_root K) = l1_w M2 0 + l1_ws M2 K := by
    have : l1_ws M2 (bt_root K) = l1_w M2 0 + l1_ws M2 K + 0 := l1_ws_br M2 0 K (.leaf ())
    omega
  have hhk : bt_ht K ≤ 60 := by
    have q1 := ht_le K
    have q2 := nodup_le nn (bt_pre K) (List.nodup_cons.mp hnd).2 (fun x hx => (hHS.2.2.2.1 x).mpr (by rw [hpre]; simp [hx]))
    omega
  refine cl_intro (ms29 xs) (Nat.le_of_ble_eq_true rfl) (fun h0 => vc29_0 (d := d) ⟨c2.2.1, (c2.2.2.2 0 hn0).1, ?_⟩)
  have e9 : S.2.1 2200 (9 * (nI 0).toNatClampNeg + 0) = ro (M2.2 12 0) := by
    rw [← root_role hNS hn0 hFL2]
    exact (hT2.2.2.2 0 hn0).2.2.2.2.2.2.2.2.2.2.2.2 0 (by decide)
  rw [e9]
  refine cl_call (as := [cl_rf A 5 (nI 0), .int (ro (M2.2 12 0))]) (rest := []) (dd D29_ok 9 rfl) pl3_52 rfl (Nat.le_of_ble_eq_true rfl) (ms30 xs) rfl (by decide) hI0.1.2.1.l3 (cl_C.le (show d + 100 + bt_ht K + 10 ≤ d + 800 by omega) (prep_node (d := d + 100) (w := w) hNS hB (prep_t hNS hFL2 hB K) hn0 r3 r5 hnd (fun x hx => ⟨(hHS.2.2.2.1 x).mpr (by rw [hpre]; simp [hx]), fun q => (List.nodup_cons.mp hnd).1 (q ▸ hx)⟩) hI0 hK f1.1 f1.2.2.2 f2 (by omega) _ (fun A' S' Wp' k1 k2 k3 k4 k5 => ?_))) rfl
  show cl_wp xs Kp h0 (d + 800) Q' I29 16 [some (cl_rf A 3 0), some (cl_rf A 5 (nI 0)), some (.int w)] [] A' S'
  rw [Nat.zero_add, ← hWb] at k1
  rw [k2.r3, k2.r5]
  refine vc29_16 (d := d) ⟨k1.1.2.1, ?_⟩
  obtain ⟨hP, hFP, _⟩ := p2_HS hHS
  have hLE := LE_root (xs := xs) (Kp := Kp) (A := A') hHS
  have eP : ∀ a, a ∉ X_C → (f_p2 (bt_root K) M2).2 a = M2.2 a := hFP.1
  have hlp := fun S3 => lay_places (S := S3) hHS
  generalize f_p2 (bt_root K) M2 = P at hLE eP hlp hP hFP
  have h17 : P.2 17 0 = w := by rw [eP 17 (by decide)]; exact f1.2.1 rfl
  have h8 : P.2 8 0 = nI 0 := by rw [eP 8 (by decide)]; exact ((hNS.2 0 hn0).1.1 rfl).2.2
  have hlw : ∀ i, l1_w P i = l1_w M2 i := fun i => by
    unfold l1_w
    rw [eP 12 (by decide), ws_same (eP 9 (by decide)) (eP 10 (by decide)) (eP 11 (by decide))]
  have hk1 := k1
  obtain ⟨t1, t2, t3, t4, t5, t6, t7, t8⟩ := k1
  have hall : ∀ i, i < nn → i ∈ 0 :: bt_pre K := fun i hi => by rw [← hpre]; exact (hHS.2.2.2.1 i).mp hi
  have h510 : S'.2.1 510 0 = 0 := t6.2.2.1
  have hla : la_T S' P nn (l1_ws M2 (bt_root K)) := by
    refine ⟨t1.mm (fun f q1 q2 => eP f ?_), fun i hi => ?_, ⟨Wp', t2, t3⟩, t5, fun v hv => ?_⟩
    · have : ∀ f ∈ List.range 12, 3 ≤ f → f ∉ X_C := by decide
      exact this f (List.mem_range.mpr (by omega)) q1
    · obtain ⟨d1, d2, d3, d4⟩ := k4 i (hall i hi)
      rw [eP 12 (by decide), eP 13 (by decide), eP 28 (by decide), hlw]
      refine ⟨d1, ?_, d3, d4⟩
      rcases List.mem_cons.mp (hall i hi) with rfl | hm
      · rw [h510, (mo_root hNS hn0).2]
      · exact k5 i hm
    · obtain ⟨v1, v2, v3, v4, v5⟩ := t8 v hv
      rw [eP 31 (by decide), eP 35 (by decide), eP 36 (by decide)]
      exact ⟨v2, v4, v5⟩
  have hz0 : ∀ B : Nat, nb B 0 := fun B => by
    unfold nb
    rw [lit_0]
    omega
  have hL := hLE (d + 800) 0 S' 0 0 (by omega) h8 (by decide) hla (hz0 _) (hz0 _)
  rw [h17] at hL
  refine hL _ (fun S3 g1 g2 g3 g4 g5 g6 g7 g8 => ⟨rfl, g1.1.1, rfl, ?_⟩)
  have eX := g1.1
  have hpl := hlp S3 (by
    have : P = P := rfl
    exact g7) ⟨g2, g3, by rw [h17]; exact g4, g5, g6⟩ (fun n hn hb => by
      rw [g1.2.2.2.1 n (fun q => hb q.2)]
      exact (k4 n (hall n hn)).2.1) (fun v hv => by
      obtain ⟨v1, v2, v3, v4, v5⟩ := t8 v hv
      rw [eX.2.2 700 (by decide), eX.2.2 701 (by decide), eX.2.2 702 (by decide), (g1.2.2.1 (60 + v) (by omega)).1, (g1.2.2.1 (60 + v) (by omega)).2]
      exact ⟨v1, v2, v3, v4, v5⟩)
  obtain ⟨l1, l2, l3, l4⟩ := hpl
  have hkeep : ∀ g ∈ [801, 803, 2000, 2100], S3.2.1 g = S.2.1 g := fun g hg => by
    have hh : ∀ g ∈ [801, 803, 2000, 2100], g ∉ X_lay ∧ g ∈ X_kp ∧ g ∉ X_p5 ∧ g ∉ [301] := by decide
    obtain ⟨q1, q2, q3, q4⟩ := hh g hg
    rw [eX.2.2 g q1, k2.2.2 g q2 q3, e1.2.2 g q4]
  generalize f_lay4 M2 K (l1_ws M2 (bt_root K)) = N at *
  have eN : ∀ a, a ∉ [12, 13, 14, 19, 20, 21, 17, 18, 28, 30, 31, 32, 35, 36, 15, 16, 18, 23, 24, 25, 26, 27, 33, 34, 44, 45, 47, 48, 49, 50, 51, 52] → N.2 a = M.2 a := fun a ha => by
    rw [l3 a (fun c => ha ((show ∀ a ∈ [15, 16, 18, 23, 24, 25, 26, 27, 33, 34, 44, 45, 47, 48, 49, 50, 51, 52], a ∈ [12, 13, 14, 19, 20, 21, 17, 18, 28, 30, 31, 32, 35, 36, 15, 16, 18, 23, 24, 25, 26, 27, 33, 34, 44, 45, 47, 48, 49, 50, 51, 52] by decide) a c))]
    exact eM a (fun c => ha ((show ∀ a ∈ [12, 13, 14, 19, 20, 21, 17, 18, 28, 30, 31, 32, 35, 36], a ∈ [12, 13, 14, 19, 20, 21, 17, 18, 28, 30, 31, 32, 35, 36, 15, 16, 18, 23, 24, 25, 26, 27, 33, 34, 44, 45, 47, 48, 49, 50, 51, 52] by decide) a c))
  have eN1 : ∀ f, f ∉ X_L → f ∉ [22, 29] → N.1 f = M.1 f := fun f q1 q2 => (hx f q1).trans (eM1 f q2)
  have e311 : ∀ f, 3 ≤ f → f ≤ 11 → N.2 f = M.2 f := fun f q1 q2 => eN f (by
    have : ∀ f ∈ List.range 12, 3 ≤ f → f ∉ [12, 13, 14, 19, 20, 21, 17, 18, 28, 30, 31, 32, 35, 36, 15, 16, 18, 23, 24, 25, 26, 27, 33, 34, 44, 45, 47, 48, 49, 50, 51, 52] := by decide
    exact this f (List.mem_range.mpr (by omega)) q1)
  have hwp := t2.x eX (by decide)
  refine hQ A' S3 Wp' ⟨⟨c1.m (eN1 2 (by decide) (by decide)) e311, (t1.x eX (by decide)).mm (fun f q1 q2 => ?_), by rw [hkeep 803 (by decide)]; exact c3, by rw [hkeep 2100 (by decide)]; exact c4, ⟨by rw [hkeep 801 (by decide)]; exact c5a, by rw [eN1 1 (by decide) (by decide)]; exact c5b, c5c, fun p hp => by rw [hkeep 2000 (by decide), eN 0 (by decide)]; exact c5d p hp⟩, ⟨Wp', hwp, t3⟩, by rw [eX.2.2 301 (by decide)]; exact t5, by rw [hx 29 (by decide)]; exact eM29, hW6, l1, l2⟩, by rw [eN 6 (by decide)]; exact hLK, ⟨hwp, t3, t4⟩, t6.x eX (by decide)⟩ (BD_same t7 eX (by decide)) k2.1.2.2.1 k2.1.2.1 (by rw [eX.2.1]; exact k2.1.2.2.2) l4.symm
  rw [e311 f q1 q2, eM f (by
    have : ∀ f ∈ List.range 12, 3 ≤ f → f ∉ [12, 13, 14, 19, 20, 21, 17, 18, 28, 30, 31, 32, 35, 36] := by decide
    exact this f (List.mem_range.mpr (by omega)) q1)]
theorem kk_lay (h : INV A S M K nn W t Wp) (hFL : FL M nn) (hBD : BD S Wp B1 B2) (hK : ∀ a, Kp a → a < S.2.2.1) (hB : B1 ≤ 100000) : ∀ Q', (lay_ok w → ∃ M1 M2, mo_F M M1 K nn ∧ l1_P w (md_up1 M1 29 0) M2 (bt_root K) 0 ∧ (∀ f, f ∉ X_L → (f_lay4 M2 K (l1_ws M2 (bt_root K))).1 f = M2.1 f) ∧ ∀ A' S' Wp', INV A' S' (f_lay4 M2 K (l1_ws M2 (bt_root K))) K nn (l1_ws M2 (bt_root K)) t Wp' → BD S' Wp' B1 B2 → A' 8 = A 8 → S.2.2.1 ≤ S'.2.2.1 → Q' (some (.int ((f_lay4 M2 K (l1_ws M2 (bt_root K))).2 18 0))) A' S') → (¬ lay_ok w → Q' (some (.int (-1))) A S) → cl_C xs Kp (d + 802) 28 [cl_rf A 8 0, .int w] A S Q' := by
  intro Q' hY hN
  have hn0 : 0 < nn := ((md_N_iff h.1.1.1) 0).mpr (by simp [bt_root, bt_pre])
  have hz := h.1.2.1.2.1
  refine cl_intro (ms28 xs) (Nat.le_of_ble_eq_true rfl) (fun h0 => vc28_0 (d := d) ⟨hz, kk_nodeAt (d := d + 800) h.1 _ (fun i hi e => ?_) (fun hne => absurd ⟨0, hn0, rfl⟩ hne)⟩)
  have hi0 : i = 0 := by
    have := congrArg Int32.toInt e
    rw [nI_toInt (by have := h.1.2.1.1; omega), lit_0] at this
    omega
  subst hi0
  refine ⟨rfl, rfl, nI 0, rfl, fun q => absurd q (by decide), fun _ => ⟨fun q => hN (fun o => o.1 q), fun q1 => ⟨fun q2 => ?_, fun q2 => hN (fun o => q2 o.2)⟩⟩⟩
  obtain ⟨M1, M2, h1, h2, h3, h4⟩ := hY ⟨q1, q2⟩
  refine cl_call (as := [cl_rf A 5 (nI 0), .int w]) (rest := []) (dd D28_ok 18 rfl) pl8_80 rfl (Nat.le_of_ble_eq_true rfl) (ms29 xs) rfl (by decide) hz.l3 (kk_layRoot (d := d) h hFL h1 h2 ⟨q1, q2⟩ hBD hK hB h3 _ (fun A' S' Wp' k1 k2 k3 k4 k5 k6 => ?_)) rfl
  show cl_wp xs Kp h0 (d + 801) Q' I28 34 [some (cl_rf A 8 0), some (.int w), some (cl_rf A 5 (nI 0))] [] A' S'
  have e5 : cl_rf A 5 (nI 0) = cl_rf A' 5 (nI 0) := by
    unfold cl_rf
    rw [k4]
  have e8 : cl_rf A 8 0 = cl_rf A' 8 0 := by
    unfold cl_rf
    rw [k3]
  rw [e5, e8]
  refine vc28_34 (d := d) ⟨(k1.1.2.1.2.2.2 0 hn0).1, ?_⟩
  have := h4 A' S' Wp' k1 k2 k3 k5
  rw [← k6] at this
  exact this
end LAY
