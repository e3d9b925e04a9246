/-! the class: the words of a text (by hand: wip/whole/gen/c21.py) -/
set_option maxHeartbeats 1000000 in
theorem vc79_0 {xs : List Int32} {K : Nat → Prop} {h0 : am_H} {d : Nat} {Q : Option Value → cl_A → cl_S → Prop} {A : cl_A} {S : cl_S} {x1 : Int32} {x2 : Int32}
    (k : cl_wp xs K h0 (d + 2) Q I79 2 [some (cl_rf A 3 0), some (cl_rf A 2 x1), some (cl_rf A 5 x2), some (.int 0), none] [] A S) :
    cl_wp xs K h0 (d + 2) Q I79 0 [some (cl_rf A 3 0), some (cl_rf A 2 x1), some (cl_rf A 5 x2), none, none] [] A S := by
  refine cl_iconst (v := 0) (dd D79_ok 0 rfl) (by decide) ?_
  refine cl_istore_n (dd D79_ok 1 rfl) (Nat.le_of_ble_eq_true rfl) ?_
  exact k
set_option maxHeartbeats 1000000 in
theorem vc79_2 {xs : List Int32} {K : Nat → Prop} {h0 : am_H} {d : Nat} {Q : Option Value → cl_A → cl_S → Prop} {A : cl_A} {S : cl_S} {x1 : Int32} {x2 : Int32} {x3 : Int32} {o4 : Option Value}
    (k : (cl_n S x2) ∧ ((((S.2.1 514 x2.toNatClampNeg) ≤ x3) → (¬ (S.2.1 508 x2.toNatClampNeg) = -1 → S.1 23 x2.toNatClampNeg) ∧ ((((nI (cl_bn S x2 (S.2.1 508 x2.toNatClampNeg))) ≤ 0) → Q none A S) ∧ (¬ ((nI (cl_bn S x2 (S.2.1 508 x2.toNatClampNeg))) ≤ 0) → (vp_in ((nI (cl_bn S x2 (S.2.1 508 x2.toNatClampNeg))) - 1) (cl_bn S x2 (S.2.1 508 x2.toNatClampNeg))) ∧ ((((g_blank S (S.2.1 2300 (120 * x2.toNatClampNeg + ((nI (cl_bn S x2 (S.2.1 508 x2.toNatClampNeg))) - 1).toNatClampNeg))) = 0) → Q none A S) ∧ (¬ ((g_blank S (S.2.1 2300 (120 * x2.toNatClampNeg + ((nI (cl_bn S x2 (S.2.1 508 x2.toNatClampNeg))) - 1).toNatClampNeg))) = 0) → (cl_f S x1) ∧ (Q none A (cl_up S 206 x1.toNatClampNeg 1))))))) ∧ (¬ ((S.2.1 514 x2.toNatClampNeg) ≤ x3) → (cl_z S) ∧ (cl_C xs K (d + 2) 45 [cl_rf A 3 0, .int ((S.2.1 513 x2.toNatClampNeg) + x3)] A S (fun v A' N1 => A' = A ∧ N1.1 = S.1 ∧ ∃ y1, v = some (cl_rf A 7 y1) ∧ (((¬ y1 = -1) → (cl_f N1 x1) ∧ ((((¬ (N1.2.1 206 x1.toNatClampNeg) = 0) → True) ∧ (¬ (¬ (N1.2.1 206 x1.toNatClampNeg) = 0) → (cl_w N1 y1) ∧ ((((N1.2.1 701 y1.toNatClampNeg) ≤ 0) → True) ∧ (¬ ((N1.2.1 701 y1.toNatClampNeg) ≤ 0) → True)))) ∧ (∀ s2 : Int32, s2 = (if ¬ (N1.2.1 206 x1.toNatClampNeg) = 0 then 1 else (if (N1.2.1 701 y1.toNatClampNeg) ≤ 0 then 0 else 1)) → ((am_fit .boolean (.int s2) = true) ∧ ((cl_w N1 y1) ∧ (cl_C xs K (d + 2) 80 [cl_rf A 3 0, cl_rf A 2 x1, cl_rf A 0 (60 + y1), .int (N1.2.1 2200 (9 * x2.toNatClampNeg + 8))] A (cl_up N1 206 x1.toNatClampNeg s2) (fun v A' N3 => A' = A ∧ N3.1 = N1.1 ∧ v = none ∧ (cl_wp xs K h0 (d + 2) Q I79 2 [some (cl_rf A 3 0), some (cl_rf A 2 x1), some (cl_rf A 5 x2), some (.int (x3 + 1)), some (cl_rf A 7 y1)] [] A N3)))))))) ∧ (¬ (¬ y1 = -1) → Q none A N1))))))) :
    cl_wp xs K h0 (d + 2) Q I79 2 [some (cl_rf A 3 0), some (cl_rf A 2 x1), some (cl_rf A 5 x2), some (.int x3), o4] [] A S := by
  refine cl_iload_n (dd D79_ok 2 rfl) rfl ?_
  refine cl_aload_n (dd D79_ok 3 rfl) rfl ?_
  refine cl_gI (g := 514) (e := S.2.1 514 x2.toNatClampNeg) (dd D79_ok 4 rfl) pl3_77 (by decide) (by decide) (by decide) rfl rfl k.1.l5 rfl ?_
  refine cl_icmp_ge (tgt := 75) (dd D79_ok 5 rfl) (by decide) (fun c1 => ?_) (fun c1 => ?_)
  · refine cl_aload_n (dd D79_ok 38 rfl) rfl ?_
    refine cl_gB (e := S.2.1 508 x2.toNatClampNeg) (dd D79_ok 39 rfl) pl3_92 (by decide) k.1.l5 rfl ?_
    refine cl_blen (dd D79_ok 40 rfl) (k.2.1 c1).1 ?_
    refine cl_istore_n (dd D79_ok 41 rfl) (Nat.le_of_ble_eq_true rfl) ?_
    refine cl_iload_n (dd D79_ok 42 rfl) rfl ?_
    refine cl_if_le (tgt := 104) (dd D79_ok 43 rfl) (by decide) (fun c2 => ?_) (fun c2 => ?_)
    · exact cl_vret (dd D79_ok 55 rfl) rfl ((k.2.1 c1).2.1 c2)
    · refine cl_aload_n (dd D79_ok 44 rfl) rfl ?_
      refine cl_gB (e := S.2.1 508 x2.toNatClampNeg) (dd D79_ok 45 rfl) pl3_92 (by decide) k.1.l5 rfl ?_
      refine cl_iload_n (dd D79_ok 46 rfl) rfl ?_
      refine cl_iconst (v := 1) (dd D79_ok 47 rfl) (by decide) ?_
      refine cl_isub (dd D79_ok 48 rfl) ?_
      refine cl_bld (e := S.2.1 2300 (120 * x2.toNatClampNeg + ((nI (cl_bn S x2 (S.2.1 508 x2.toNatClampNeg))) - 1).toNatClampNeg)) (dd D79_ok 49 rfl) (k.2.1 c1).1 ((k.2.1 c1).2.2 c2).1 rfl ?_
      refine cl_callsP (r := .int (g_blank S (S.2.1 2300 (120 * x2.toNatClampNeg + ((nI (cl_bn S x2 (S.2.1 508 x2.toNatClampNeg))) - 1).toNatClampNeg)))) (as := [.int (S.2.1 2300 (120 * x2.toNatClampNeg + ((nI (cl_bn S x2 (S.2.1 508 x2.toNatClampNeg))) - 1).toNatClampNeg))]) (rest := []) (dd D79_ok 50 rfl) pl3_96 rfl (Nat.le_of_ble_eq_true rfl) (cc_g_blank (S := S) ) rfl ?_
      refine cl_if_eq (tgt := 104) (dd D79_ok 51 rfl) (by decide) (fun c3 => ?_) (fun c3 => ?_)
      · exact cl_vret (dd D79_ok 55 rfl) rfl (((k.2.1 c1).2.2 c2).2.1 c3)
      · refine cl_aload_n (dd D79_ok 52 rfl) rfl ?_
        refine cl_iconst (v := 1) (dd D79_ok 53 rfl) (by decide) ?_
        refine cl_pI (g := 206) (dd D79_ok 54 rfl) pl3_294 (by decide) (by decide) rfl rfl rfl rfl rfl (((k.2.1 c1).2.2 c2).2.2 c3).1.l2 ?_
        exact cl_vret (dd D79_ok 55 rfl) rfl (((k.2.1 c1).2.2 c2).2.2 c3).2
  · refine cl_aload_n (dd D79_ok 6 rfl) rfl ?_
    refine cl_aload_n (dd D79_ok 7 rfl) rfl ?_
    refine cl_gI (g := 513) (e := S.2.1 513 x2.toNatClampNeg) (dd D79_ok 8 rfl) pl3_67 (by decide) (by decide) (by decide) rfl rfl k.1.l5 rfl ?_
    refine cl_iload_n (dd D79_ok 9 rfl) rfl ?_
    refine cl_iadd (dd D79_ok 10 rfl) ?_
    refine cl_call (as := [.int ((S.2.1 513 x2.toNatClampNeg) + x3)]) (rest := []) (v := 0) (dd D79_ok 11 rfl) pl3_112 rfl (Nat.le_of_ble_eq_true rfl) (ms45 xs) rfl (by decide) (k.2.2 c1).1.l3 (((k.2.2 c1).2).mono ?_) rfl
    rintro v A N1 ⟨rfl, e1, y1, rfl, w1⟩
    refine cl_astore (dd D79_ok 12 rfl) (Nat.le_of_ble_eq_true rfl) ?_
    refine cl_aload (dd D79_ok 13 rfl) rfl ?_
    refine cl_ifnonnull (tgt := 28) (dd D79_ok 14 rfl) (by decide) (fun c4 => ?_) (fun c4 => ?_)
    · refine cl_aload_n (dd D79_ok 16 rfl) rfl ?_
      refine cl_aload_n (dd D79_ok 17 rfl) rfl ?_
      refine cl_gI (g := 206) (e := N1.2.1 206 x1.toNatClampNeg) (dd D79_ok 18 rfl) pl3_294 (by decide) (by decide) (by decide) rfl rfl (w1.1 c4).1.l2 rfl ?_
      have J1 : ∀ s2 : Int32, s2 = (if ¬ (N1.2.1 206 x1.toNatClampNeg) = 0 then 1 else (if (N1.2.1 701 y1.toNatClampNeg) ≤ 0 then 0 else 1)) → cl_wp xs K h0 (d + 2) Q I79 49 [some (cl_rf A 3 0), some (cl_rf A 2 x1), some (cl_rf A 5 x2), some (.int x3), some (cl_rf A 7 y1)] [.int s2, cl_rf A 2 x1] A N1 := by
        intro s2 e_s2
        refine cl_pI (g := 206) (dd D79_ok 26 rfl) pl3_294 (by decide) (by decide) rfl rfl rfl ((w1.1 c4).2.2 s2 e_s2).1 rfl (w1.1 c4).1.l2 ?_
        refine cl_aload_n (dd D79_ok 27 rfl) rfl ?_
        refine cl_aload_n (dd D79_ok 28 rfl) rfl ?_
        refine cl_aload (dd D79_ok 29 rfl) rfl ?_
        refine cl_gW (dd D79_ok 30 rfl) pl3_128 (by decide) ((w1.1 c4).2.2 s2 e_s2).2.1 ?_
        refine cl_aload_n (dd D79_ok 31 rfl) rfl ?_
        refine cl_getO (g := 22) (dd D79_ok 32 rfl) pl3_46 (by decide) (by decide) (by decide) rfl (k.1.mv e1).l5 ?_
        refine cl_bipush (v := 8) (dd D79_ok 33 rfl) (by decide) ?_
        refine cl_hs (q := 8) (e := N1.2.1 2200 (9 * x2.toNatClampNeg + 8)) (dd D79_ok 34 rfl) (k.1.mv e1).l22 (md_vl (by decide)) (by decide) (by first | rfl | simp [cl_up]) ?_
        refine cl_call (as := [cl_rf A 2 x1, cl_rf A 0 (60 + y1), .int (N1.2.1 2200 (9 * x2.toNatClampNeg + 8))]) (rest := []) (v := 0) (dd D79_ok 35 rfl) pl3_284 rfl (Nat.le_of_ble_eq_true rfl) (ms80 xs) rfl (by decide) ((k.2.2 c1).1.mv e1).l3 ((((w1.1 c4).2.2 s2 e_s2).2.2).mono ?_) rfl
        rintro v A N3 ⟨rfl, e3, rfl, w3⟩
        refine cl_iinc (v := x3 + 1) (dd D79_ok 36 rfl) rfl rfl ?_
        refine cl_goto (tgt := 2) (dd D79_ok 37 rfl) (by decide) ?_
        exact w3
      refine cl_if_ne (tgt := 44) (dd D79_ok 19 rfl) (by decide) (fun c6 => ?_) (fun c6 => ?_)
      · refine cl_iconst (v := 1) (dd D79_ok 23 rfl) (by decide) ?_
        refine cl_goto (tgt := 49) (dd D79_ok 24 rfl) (by decide) ?_
        exact J1 _ (by first | rfl | (rw [if_pos c6]; done) | (rw [if_pos c6]; rfl) | simp only [if_pos c6])
      · refine cl_aload (dd D79_ok 20 rfl) rfl ?_
        refine cl_gI (g := 701) (e := N1.2.1 701 y1.toNatClampNeg) (dd D79_ok 21 rfl) pl3_122 (by decide) (by decide) (by decide) rfl rfl ((w1.1 c4).2.1.2 c6).1.l7 rfl ?_
        refine cl_if_le (tgt := 48) (dd D79_ok 22 rfl) (by decide) (fun c7 => ?_) (fun c7 => ?_)
        · refine cl_iconst (v := 0) (dd D79_ok 25 rfl) (by decide) ?_
          exact J1 _ (by first | rfl | (rw [if_neg c6, if_pos c7]; done) | (rw [if_neg c6, if_pos c7]; rfl) | simp only [if_neg c6, if_pos c7])
        · refine cl_iconst (v := 1) (dd D79_ok 23 rfl) (by decide) ?_
          refine cl_goto (tgt := 49) (dd D79_ok 24 rfl) (by decide) ?_
          exact J1 _ (by first | rfl | (rw [if_neg c6, if_neg c7]; done) | (rw [if_neg c6, if_neg c7]; rfl) | simp only [if_neg c6, if_neg c7])
    · exact cl_vret (dd D79_ok 15 rfl) rfl (w1.2 c4)
/-- blanks are known while a line is filled -/
def bkR (S : cl_S) (M : md_S) (f : Nat) (bl : List Nat) : Prop := (M.1 54 = 0 ∨ M.1 54 = 1) ∧ (¬ bl = [] → S.2.1 206 f = M.1 54)
/-- a text whose words stand in the pool from w0 on -/
def txt_ok (P : md_S) (W n w0 : Nat) : Prop := P.2 12 n = 6 ∧ P.2 28 n = nI w0 ∧ w0 + (ws_of P n).length ≤ W ∧ ∀ j r, (ws_of P n)[j]? = some r → P.2 30 (w0 + j) = nI n ∧ P.2 31 (w0 + j) = nI r.1
theorem ws_st {P M : md_S} {T : List Nat} (h : si_st P M T) (n : Nat) : ws_of M n = ws_of P n ∧ by_of M n = by_of P n := by
  refine ⟨ws_same (h.1 9 (by decide)) (h.1 10 (by decide)) (h.1 11 (by decide)) n, ?_⟩
  unfold by_of
  rw [h.1 10 (by decide), h.1 11 (by decide)]
theorem ws_lt (s : Int32) : ∀ (l : List Int32) (j : Nat), (∀ o r, o.1 ≤ j → r ∈ ws_A s l j (some o) → r.1 ≤ j + l.length) ∧ ∀ r ∈ ws_A s l j none, r.1 ≤ j + l.length := by
  intro l
  induction l with
  | nil =>
    intro j
    refine ⟨fun o r ho hr => ?_, fun r hr => by cases hr⟩
    simp only [ws_A, List.mem_singleton] at hr
    rw [hr]
    exact Nat.le_trans ho (by simp)
  | cons b l ih =>
    intro j
    obtain ⟨h1, h2⟩ := ih (j + 1)
    refine ⟨fun o r ho hr => ?_, fun r hr => ?_⟩
    · unfold ws_A at hr
      rw [List.length_cons]
      by_cases c : f_blank b = 0
      · rw [if_pos c] at hr
        have := h1 (o.1, o.2 + f_glyph b * s) r (by show o.1 ≤ j + 1; omega) hr
        omega
      · rw [if_neg c] at hr
        rcases List.mem_cons.mp hr with q | q
        · rw [q]
          show o.1 ≤ _
          omega
        · have := h2 r q
          omega
    · unfold ws_A at hr
      rw [List.length_cons]
      by_cases c : f_blank b = 0
      · rw [if_pos c] at hr
        have := h1 (j, 0 + f_glyph b * s) r (by show j ≤ j + 1; omega) hr
        omega
      · rw [if_neg c] at hr
        have := h2 r hr
        omega
theorem kk_words1 {xs : List Int32} {K : Nat → Prop} {h0 : am_H} {Q : Option Value → cl_A → cl_S → Prop} {A : cl_A} {P : md_S} {nn W i f D d : Nat} {T : List Nat} {ox oy : Int32} {V : List (Nat × bt)} {n w0 : Nat} {kn : bt} (hSP : SP P nn W) (hib : f_boxy P i) (hi : i < nn) (hf13 : f < 13) (hox : nb ((f + 1) * 67108864 + 59) ox) (hoy : nb ((f + 1) * 67108864 + 59) oy) (hn : n < nn) (hq : (n, kn) ∈ V) (ht : txt_ok P W n w0) (hV : V.length < 60) (hD : 21 ≤ D) (hd : D ≤ d) : ∀ (r j : Nat) (S : cl_S) (M : md_S) (l : List Nat) (wl : List (Nat × bt)) (bl : List Nat) (VW : List Nat) (B : Nat) (o4 : Option Value), j + r = (ws_of P n).length → SMl xs K A P nn W i f D T ox oy S M l wl bl [] V VW B → bkR S M f bl → (∀ w ∈ VW, ∀ k, j ≤ k → ¬ w = w0 + k) → B + csq P wl + 3000 * r ≤ 67108000 →
    (∀ S' l' wl' bl' VW' B', FR P W T T f S S' → SMl xs K A P nn W i f D T ox oy S' (g_fn (by_of P n) (g_lt (f_of P (nI n) 8) ((ws_of P n).drop j) (w0 + j) M)) l' wl' bl' [] V VW' B' → VW' = VW ++ List.range' (w0 + j) r → B' + csq P wl' ≤ B + csq P wl + 3000 * r → bkR S' (g_fn (by_of P n) (g_lt (f_of P (nI n) 8) ((ws_of P n).drop j) (w0 + j) M)) f bl' → (M.1 37).toInt ≤ ((g_fn (by_of P n) (g_lt (f_of P (nI n) 8) ((ws_of P n).drop j) (w0 + j) M)).1 37).toInt → Q none A S') → cl_wp xs K h0 (d + 2) Q I79 2 [some (cl_rf A 3 0), some (cl_rf A 2 (nI f)), some (cl_rf A 5 (nI n)), some (.int (nI j)), o4] [] A S := by
  have cf : (nI f).toNatClampNeg = f := nI_clamp (by omega)
  intro r
  induction r with
  | zero =>
    intro j S M l wl bl VW B o4 hj h hbk hvw hB hQ
    have hLa := h.1
    have hT := hLa.1
    have e514 := (hLa.2.1 n hn).2.2.2
    have hlw : l1_w P n = (ws_of P n).length := by unfold l1_w; rw [if_pos ht.1]
    have hd0 : (ws_of P n).drop j = [] := List.drop_of_length_le (by omega)
    rw [hd0] at hQ
    have hwl : (ws_of P n).length ≤ 3700 := by
      have := ht.2.2.1
      have := h.2.2.2.2.2.2.2.2.2.1.2.2.2.2.2.2.2.2.2.1
      omega
    have hb120 := hT.b120 hn
    refine vc79_2 ⟨hT.n hn, fun _ => ⟨fun c => ?_, fun c => ?_, fun c => ?_⟩, fun c => ?_⟩
    · rw [hT.cl hn] at c ⊢
      exact hT.by hn c
    · rw [hT.cl hn] at c
      have h0 : cl_bn S (nI n) (S.2.1 508 n) = 0 := by
        have h00 : ¬ 0 < cl_bn S (nI n) (S.2.1 508 n) := fun q => nI_ge (a := 0) q (by omega) c
        omega
      have he : by_of P n = [] := List.length_eq_zero_iff.mp (by rw [byc_len hT hn, h0])
      have hfn : ∀ N, g_fn (by_of P n) N = N := fun N => by rw [he]; rfl
      refine hQ S l wl bl VW B FR.rf ?_ (by simp) (by omega) ?_ (by rw [hfn]; exact Int.le_refl _)
      · rw [hfn]; exact h
      · rw [hfn]; exact hbk
    · rw [hT.cl hn] at c ⊢
      have hpos : 0 < cl_bn S (nI n) (S.2.1 508 n) := by
        rcases Nat.eq_zero_or_pos (cl_bn S (nI n) (S.2.1 508 n)) with q | q
        · rw [q] at c
          exact absurd (by decide) c
        · exact q
      have e1 : nI (cl_bn S (nI n) (S.2.1 508 n)) - 1 = nI (cl_bn S (nI n) (S.2.1 508 n) - 1) := pk_sub (b := 1) hpos
      rw [e1, nI_clamp (by omega)]
      have hlast : (by_of P n).getLast? = some (S.2.1 2300 (120 * n + (cl_bn S (nI n) (S.2.1 508 n) - 1))) := by
        rw [List.getLast?_eq_getElem?, byc_len hT hn, byc_get hT hn (by omega)]
      refine ⟨vp_nI (by omega) (by omega), fun c2 => ?_, fun c2 => ⟨hT.2.2.1 f hf13, ?_⟩⟩
      · have c2 : f_blank (S.2.1 2300 (120 * n + (cl_bn S (nI n) (S.2.1 508 n) - 1))) = 0 := c2
        have hfn : ∀ N, g_fn (by_of P n) N = N := fun N => by unfold g_fn; rw [hlast]; simp only [if_pos c2]
        refine hQ S l wl bl VW B FR.rf ?_ (by simp) (by omega) ?_ (by rw [hfn]; exact Int.le_refl _)
        · rw [hfn]; exact h
        · rw [hfn]; exact hbk
      · have c2 : ¬ f_blank (S.2.1 2300 (120 * n + (cl_bn S (nI n) (S.2.1 508 n) - 1))) = 0 := c2
        have hfn : ∀ N, g_fn (by_of P n) N = md_up1 N 54 1 := fun N => by unfold g_fn; rw [hlast]; simp only [if_neg c2]
        rw [cf]
        have hX := cl_up_X206 S f 1
        obtain ⟨F1, h1⟩ := h.fl hX.1 hX.2
        refine hQ _ l wl bl VW B F1 ?_ (by simp) (by omega) ?_ (by rw [hfn, md_up1_ne _ (by decide)]; exact Int.le_refl _)
        · rw [hfn]; exact h1.m54 1
        · rw [hfn]
          exact ⟨Or.inr (md_up1_at _ _ _), fun _ => by rw [cl_up_at]; exact (md_up1_at _ _ _).symm⟩
    · rw [hT.cl hn, e514, hlw, ← hj, Nat.add_zero] at c
      exact absurd (nI_le (Nat.le_refl _) (by omega)) c
  | succ r ih =>
    intro j S M l wl bl VW B o4 hj h hbk hvw hB hQ
    have hLa := h.1
    have hT := hLa.1
    have hlw : l1_w P n = (ws_of P n).length := by unfold l1_w; rw [if_pos ht.1]
    have hW37 := h.2.2.2.2.2.2.2.2.2.1.2.2.2.2.2.2.2.2.2.1
    obtain ⟨t1, t2, t3, t4⟩ := ht
    obtain ⟨rr, hr⟩ : ∃ rr, (ws_of P n)[j]? = some rr := ⟨_, List.getElem?_eq_getElem (by omega)⟩
    obtain ⟨t5, t6⟩ := t4 j rr hr
    have hwj : w0 + j < W := by omega
    obtain ⟨s1, s2, s3, _⟩ := hSP.2 (w0 + j) hwj
    obtain ⟨Wp, hp, hWp⟩ := hLa.2.2.1
    have h701 := hLa.2.2.2.2 (w0 + j) hwj
    refine vc79_2 ⟨hT.n hn, fun c => ?_, fun _ => ⟨hT.2.1, ?_⟩⟩
    · rw [hT.cl hn, (hLa.2.1 n hn).2.2.2, hlw, ← hj] at c
      exact absurd c (nI_ge (by omega) (by omega))
    · rw [hT.cl hn, (hLa.2.1 n hn).2.2.1, t2, nI_add]
      refine cl_C.le (d := 0 + 4) (by omega) (kk_wordAt hT.2.1 hp hWp hLa.2.2.2.1 _ (fun w hw ew => ⟨rfl, rfl, _, rfl, fun _ => ?_, fun c => absurd (nI_ne_m1 (by omega)) c⟩) (fun c => absurd ⟨w0 + j, hwj, rfl⟩ c))
      have ew : w0 + j = w := (nI_eq (by omega) (by omega)).mp ew
      subst ew
      have hcw := (hp.2.2.2.2 (w0 + j) (by omega)).2
      rw [cf, nI_clamp (show w0 + j < 2 ^ 31 by omega), h701.1, t6, nI_1, hT.h8 hn]
      refine ⟨hT.2.2.1 f hf13, ⟨fun _ => trivial, fun _ => ⟨hcw, fun _ => trivial, fun _ => trivial⟩⟩, fun s2' es => ?_⟩
      have hfit : am_fit .boolean (.int s2') = true := by
        rw [es]
        split
        · rfl
        · split <;> rfl
      refine ⟨hfit, hcw, ?_⟩
      have e60 : (60 : Int32) + nI (w0 + j) = nI (60 + (w0 + j)) := by
        show nI 60 + nI (w0 + j) = _
        rw [nI_add]
      rw [e60]
      -- the ghost: a blank ahead
      have hM1 : ∃ M1, M1 = (if 0 < rr.1 then md_up1 M 54 1 else M) := ⟨_, rfl⟩
      obtain ⟨M1, hM1⟩ := hM1
      have hrr : rr.1 ≤ 200 := by
        have e1 := (ws_lt (f_of P (nI n) 8) (by_of P n) 0).2 rr (List.mem_of_getElem? hr)
        rw [byc_len hT hn] at e1
        have := hT.b120 hn
        omega
      have hX := cl_up_X206 S f s2'
      obtain ⟨F1, h1⟩ := h.fl hX.1 hX.2
      have z1 : (cl_up S 206 f s2').2.1 206 f = s2' := cl_up_at _ _ _ _
      have h2 : SMl xs K A P nn W i f D T ox oy (cl_up S 206 f s2') M1 l wl bl [] V VW B := by
        rw [hM1]
        split
        · exact h1.m54 1
        · exact h1
      have hbk1 : ¬ bl = [] → (cl_up S 206 f s2').2.1 206 f = M1.1 54 := by
        intro hb
        rw [z1, es, hbk.2 hb, hM1]
        by_cases c : 0 < rr.1
        · have c' : ¬ nI rr.1 ≤ 0 := nI_ge (a := 0) c (by omega)
          rw [if_pos c, md_up1_at, if_neg c', ite_self]
        · have c' : nI rr.1 ≤ 0 := by
            rw [show rr.1 = 0 by omega]; decide
          rw [if_neg c, if_pos c']
          rcases hbk.1 with q | q
          · rw [q]; simp
          · rw [q]; simp
      have hnv : w0 + j ∉ VW := fun q => hvw _ q j (Nat.le_refl _) rfl
      have h3 := h2.addW hwj hnv hq t5 t1
      have hst1 := h2.2.1
      have hit : it_b W (nI (w0 + j)) (60 + (w0 + j)) := Or.inr ⟨_, hwj, rfl, rfl⟩
      have h0w : (0 : Int32) ≤ nI (w0 + j) := nI_le (a := 0) (by omega) (by omega)
      have hih : ∀ N, si_st P N T → f_itemHigh N (nI (w0 + j)) = f_itemHigh P (nI (w0 + j)) := by
        intro N hN
        unfold f_itemHigh
        rw [if_pos h0w, if_pos h0w, hN.1 30 (by decide), hN.of]
      have hP36 : f_itemHigh P (nI (w0 + j)) = P.2 36 (w0 + j) := by
        unfold f_itemHigh
        rw [if_pos h0w, nI_clamp (by omega), s3]
      have hs8 := (hSP.1 n hn).2.2.2.1
      have hw12 : (P.2 35 (w0 + j)).toInt + 12 ≤ ((3000 : Nat) : Int) := by
        have q := s1.2
        have e1 : ((3000 : Nat) : Int) = 3000 := rfl
        have e2 : ((2500 : Nat) : Int) = 2500 := rfl
        rw [e2] at q
        rw [e1]
        omega
      have hs84 : nz 4 (f_of P (nI n) 8) := ⟨by have := hs8.1; omega, hs8.2⟩
      have hBw : B + csq P wl + 3000 ≤ 67108000 := by
        have e : 3000 * (r + 1) = 3000 * r + 3000 := Nat.mul_succ _ _
        rw [e] at hB
        exact Nat.le_trans (Nat.add_le_add_left (Nat.le_add_left _ _) _) hB
      refine kk_addItem (C := 3000) (a := nI (w0 + j)) (w := P.2 35 (w0 + j)) hSP hib hi hf13 hox hoy h3 hbk1 hit (by rw [cl_up_ne1 _ _ _ _ (by decide)]; exact h701.2.1) (by rw [cl_up_ne1 _ _ _ _ (by decide), hP36]; exact h701.2.2) hih (nz_mono (B' := 250000) s1 (Nat.le_of_ble_eq_true rfl)) hw12 (by rw [hP36]; exact nz_mono (B' := 3000) s2 (Nat.le_of_ble_eq_true rfl)) hs84 hBw hV hD (by omega) _ (fun S2 l2 wl2 bl2 B2 F2 h4 hB2 hbl2 z2 m2 mo2 => ⟨rfl, F2.1.1, rfl, ?_⟩)
      have e35 : M.2 35 (w0 + j) = P.2 35 (w0 + j) := by rw [h.2.1.1 35 (by decide)]
      have hdrop : (ws_of P n).drop j = rr :: (ws_of P n).drop (j + 1) := by
        rw [List.drop_eq_getElem_cons (by omega)]
        congr 1
        exact Option.some.inj ((List.getElem?_eq_getElem (by omega)).symm.trans hr)
      have hg : g_lt (f_of P (nI n) 8) ((ws_of P n).drop j) (w0 + j) M = g_lt (f_of P (nI n) 8) ((ws_of P n).drop (j + 1)) (w0 + (j + 1)) (f_pi M1 (nI (w0 + j)) (P.2 35 (w0 + j)) (f_of P (nI n) 8)) := by
        rw [hdrop, hM1, ← e35]
        rfl
      rw [hg] at hQ
      refine ih (j + 1) S2 _ l2 wl2 bl2 (VW ++ [w0 + j]) B2 _ (by omega) h4 ⟨Or.inl m2, fun _ => by rw [z2, m2]⟩ ?_ (by omega) ?_
      · intro w hw k hk e
        rcases List.mem_append.mp hw with q | q
        · exact hvw w q k (by omega) e
        · rw [List.mem_singleton.mp q] at e
          omega
      · intro S' l' wl' bl' VW' B' F' h' hV' hB' hbk' mo'
        have e37 : M1.1 37 = M.1 37 := by
          rw [hM1]
          split
          · exact md_up1_ne _ (by decide) _
          · rfl
        rw [e37] at mo2
        refine hQ S' l' wl' bl' VW' B' ((F1.tr F2).tr F') h' ?_ (by omega) hbk' (Int.le_trans mo2 mo')
        rw [hV', List.range'_succ, List.append_assoc]
        rfl
