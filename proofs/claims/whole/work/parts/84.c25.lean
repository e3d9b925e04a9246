/-! the class: the way through what is on lines (by hand: wip/whole/gen/c25.py) -/
theorem bgn_eq {S : cl_S} {f : Nat} (h : S.2.1 205 f = 0) : bgn S f = S := by
  unfold bgn cl_up
  obtain ⟨a, c, r⟩ := S
  simp only
  congr 2
  funext g j
  have h : c 205 f = 0 := h
  by_cases c1 : g = 205 ∧ j = f
  · rw [if_pos c1, c1.1, c1.2, h]
  · rw [if_neg c1]
    by_cases c2 : g = 204 ∧ j = f
    · rw [if_pos c2, c2.1, c2.2, h, Int32.add_zero]
    · rw [if_neg c2]
def csF (P : md_S) (t : bt) : Nat := 600000 * (bt_pre t).length + 3000 * l1_ws P t
theorem csF_br (P : md_S) (j : Nat) (k s : bt) : csF P (.branch j k s) = cs P j k + csF P s := by
  unfold csF cs
  rw [l1_ws_br]
  simp only [bt_pre, List.length_cons, List.length_append]
  omega
/-- what the way through lines wants of a node -/
def nds (xs : List Int32) (K : Nat → Prop) (A : cl_A) (P : md_S) (nn W i f D : Nat) (T : List Nat) (j : Nat) (k : bt) : Prop := j < nn ∧ ¬ j = i ∧ (∀ x ∈ sub (j, k), x ∈ T) ∧ (¬ f_isBox P (nI j) = 0 → flt_ok xs K A P nn W i f D T (j, k)) ∧ (f_isBox P (nI j) = 0 → P.2 13 j = 0) ∧ (P.2 12 j = 4 → P.2 3 j = 3 ∧ (P.2 17 j = if ¬ f_told P (nI j) (f_inner P (nI i)) = -1 then f_told P (nI j) (f_inner P (nI i)) else 8) ∧ P.2 18 j = f_hv P j) ∧ (P.2 12 j = 5 → P.2 3 j = 2) ∧ (P.2 12 j = 6 → P.2 3 j = 1 ∧ ∃ w0, txt_ok P W j w0) ∧ (P.2 12 j = 3 → P.2 3 j = 0) ∧ (P.2 12 j = 0 ∨ P.2 12 j = 1 ∨ P.2 12 j = 2 ∨ P.2 12 j = 3 ∨ P.2 12 j = 4 ∨ P.2 12 j = 5 ∨ P.2 12 j = 6) ∧ (¬ P.2 3 j = 0 → P.2 5 j = -1)
def ndF (xs : List Int32) (K : Nat → Prop) (A : cl_A) (P : md_S) (nn W i f D : Nat) (T : List Nat) : bt → Prop
  | .leaf _ => True
  | .branch j k s => nds xs K A P nn W i f D T j k ∧ (P.2 12 j = 3 → ndF xs K A P nn W i f D T k) ∧ ndF xs K A P nn W i f D T s
/-- all that is directly in a forest has been visited -/
def cvF (P : md_S) (V : List (Nat × bt)) (VW : List Nat) : bt → Prop
  | .leaf _ => True
  | .branch j k s => (f_boxy P j → (j, k) ∈ V) ∧ (P.2 12 j = 6 → ∀ w0, w0 ≤ 3700 → P.2 28 j = nI w0 → ∀ m, m < (ws_of P j).length → w0 + m ∈ VW) ∧ (P.2 12 j = 3 → cvF P V VW k) ∧ cvF P V VW s
theorem cvF.mono {P : md_S} {V V' : List (Nat × bt)} {VW VW' : List Nat} (h1 : ∀ q ∈ V, q ∈ V') (h2 : ∀ w ∈ VW, w ∈ VW') : ∀ {t : bt}, cvF P V VW t → cvF P V' VW' t := by
  intro t
  induction t with
  | leaf u => intro _; trivial
  | branch j k s ihk ihs =>
    intro h
    exact ⟨fun c => h1 _ (h.1 c), fun c w0 h3 hw m hm => h2 _ (h.2.1 c w0 h3 hw m hm), fun c => ihk (h.2.2.1 c), ihs h.2.2.2⟩
section LNS
variable (xs : List Int32) (K : Nat → Prop) (h0 : am_H) (Q : Option Value → cl_A → cl_S → Prop) (A : cl_A) (P : md_S) (nn W i f D d : Nat) (T : List Nat) (ox oy : Int32)
/-- layDown goes on with thing x -/
def LD (S : cl_S) (x : Int32) : Prop := cl_wp xs K h0 (d + 2) Q I64 10 [some (cl_rf A 3 0), some (cl_rf A 2 (nI f)), some (cl_rf A 5 (nI i)), some (cl_rf A 5 x)] [] A S
/-- once this forest is on lines, it goes on with b -/
def LNp (t : bt) (W0 : Nat) (b : Int32) (S : cl_S) (wl : List (Nat × bt)) (V : List (Nat × bt)) (VW : List Nat) (B : Nat) (lo : Int) (M' : md_S) : Prop := ∀ S' l' wl' bl' V' VW' B', lo ≤ (M'.1 37).toInt → FR P W T T f S S' → SMl xs K A P nn W i f D T ox oy S' M' l' wl' bl' [] V' VW' B' → bkR S' M' f bl' → (∀ q ∈ V, q ∈ V') → (∀ q ∈ V', q ∈ V ∨ ∀ x ∈ sub q, x ∈ bt_pre t) → (∀ w ∈ VW, w ∈ VW') → (∀ w ∈ VW', w ∈ VW ∨ (W0 ≤ w ∧ w < W0 + l1_ws P t)) → cvF P V' VW' t → B' + csq P wl' ≤ B + csq P wl + csF P t → V'.length ≤ V.length + (bt_pre t).length → LD xs K h0 Q A i f d S' b
end LNS
set_option maxHeartbeats 1000000 in
theorem vc64_0 {xs : List Int32} {K : Nat → Prop} {h0 : am_H} {d : Nat} {Q : Option Value → cl_A → cl_S → Prop} {A : cl_A} {S : cl_S} {x1 : Int32}
    (k : (cl_f S x1) ∧ ((cl_n S (S.2.1 200 x1.toNatClampNeg)) ∧ (cl_wp xs K h0 (d + 2) Q I64 10 [some (cl_rf A 3 0), some (cl_rf A 2 x1), some (cl_rf A 5 (S.2.1 200 x1.toNatClampNeg)), some (cl_rf A 5 (S.2.1 505 (S.2.1 200 x1.toNatClampNeg).toNatClampNeg))] [] A S))) :
    cl_wp xs K h0 (d + 2) Q I64 0 [some (cl_rf A 3 0), some (cl_rf A 2 x1), none, none] [] A S := by
  refine cl_aload_n (dd D64_ok 0 rfl) rfl ?_
  refine cl_gR (g := 200) (f := 5) (e := S.2.1 200 x1.toNatClampNeg) (dd D64_ok 1 rfl) pl3_167 (by decide) (by decide) (by decide) rfl rfl k.1.l2 rfl ?_
  refine cl_astore_n (dd D64_ok 2 rfl) (Nat.le_of_ble_eq_true rfl) ?_
  refine cl_aload_n (dd D64_ok 3 rfl) rfl ?_
  refine cl_gR (g := 505) (f := 5) (e := S.2.1 505 (S.2.1 200 x1.toNatClampNeg).toNatClampNeg) (dd D64_ok 4 rfl) pl3_78 (by decide) (by decide) (by decide) rfl rfl k.2.1.l5 rfl ?_
  refine cl_astore_n (dd D64_ok 5 rfl) (Nat.le_of_ble_eq_true rfl) ?_
  exact k.2.2
set_option maxHeartbeats 1000000 in
theorem vc64_10 {xs : List Int32} {K : Nat → Prop} {h0 : am_H} {d : Nat} {Q : Option Value → cl_A → cl_S → Prop} {A : cl_A} {S : cl_S} {x1 : Int32} {x2 : Int32} {x3 : Int32}
    (k : ((x3 = -1) → (cl_z S) ∧ (cl_C xs K (d + 2) 83 [cl_rf A 3 0, cl_rf A 2 x1] A S (fun v A' N1 => A' = A ∧ N1.1 = S.1 ∧ v = none ∧ (cl_C xs K (d + 2) 90 [cl_rf A 5 x2, .int 1] A N1 (fun v A' N2 => A' = A ∧ N2.1 = N1.1 ∧ ∃ y2, v = some (cl_rf A 5 y2) ∧ (((y2 = -1) → (cl_f N2 x1) ∧ (Q (some (.int (g_ch N2 x1))) A N2)) ∧ (¬ (y2 = -1) → (cl_f N2 x1) ∧ (Q (some (.int (g_ch (cl_up N2 205 x1.toNatClampNeg 0) x1))) A (cl_up N2 205 x1.toNatClampNeg 0))))))))) ∧ (¬ (x3 = -1) → (cl_n S x3) ∧ (((¬ (S.2.1 509 x3.toNatClampNeg) = 3) → (((S.2.1 510 x3.toNatClampNeg) = 0) → ((¬ (S.2.1 509 x3.toNatClampNeg) = 1) → (cl_z S) ∧ (cl_C xs K (d + 2) 89 [cl_rf A 3 0, cl_rf A 2 x1, cl_rf A 5 x3] A S (fun v A' N3 => A' = A ∧ N3.1 = S.1 ∧ v = none ∧ (cl_C xs K (d + 2) 96 [cl_rf A 5 x3, cl_rf A 5 x2] A N3 (fun v A' N4 => A' = A ∧ N4.1 = N3.1 ∧ ∃ y4, v = some (cl_rf A 5 y4) ∧ (cl_wp xs K h0 (d + 2) Q I64 10 [some (cl_rf A 3 0), some (cl_rf A 2 x1), some (cl_rf A 5 x2), some (cl_rf A 5 y4)] [] A N4)))))) ∧ (¬ (¬ (S.2.1 509 x3.toNatClampNeg) = 1) → (cl_z S) ∧ (cl_C xs K (d + 2) 78 [cl_rf A 3 0, cl_rf A 2 x1, cl_rf A 5 x3] A S (fun v A' N5 => A' = A ∧ N5.1 = S.1 ∧ v = none ∧ (cl_C xs K (d + 2) 96 [cl_rf A 5 x3, cl_rf A 5 x2] A N5 (fun v A' N6 => A' = A ∧ N6.1 = N5.1 ∧ ∃ y6, v = some (cl_rf A 5 y6) ∧ (cl_wp xs K h0 (d + 2) Q I64 10 [some (cl_rf A 3 0), some (cl_rf A 2 x1), some (cl_rf A 5 x2), some (cl_rf A 5 y6)] [] A N6))))))) ∧ (¬ ((S.2.1 510 x3.toNatClampNeg) = 0) → (cl_z S) ∧ (cl_C xs K (d + 2) 65 [cl_rf A 3 0, cl_rf A 2 x1, cl_rf A 5 x3] A S (fun v A' N7 => A' = A ∧ N7.1 = S.1 ∧ v = none ∧ (cl_C xs K (d + 2) 96 [cl_rf A 5 x3, cl_rf A 5 x2] A N7 (fun v A' N8 => A' = A ∧ N8.1 = N7.1 ∧ ∃ y8, v = some (cl_rf A 5 y8) ∧ (cl_wp xs K h0 (d + 2) Q I64 10 [some (cl_rf A 3 0), some (cl_rf A 2 x1), some (cl_rf A 5 x2), some (cl_rf A 5 y8)] [] A N8))))))) ∧ (¬ (¬ (S.2.1 509 x3.toNatClampNeg) = 3) → cl_C xs K (d + 2) 96 [cl_rf A 5 x3, cl_rf A 5 x2] A S (fun v A' N9 => A' = A ∧ N9.1 = S.1 ∧ ∃ y9, v = some (cl_rf A 5 y9) ∧ (cl_wp xs K h0 (d + 2) Q I64 10 [some (cl_rf A 3 0), some (cl_rf A 2 x1), some (cl_rf A 5 x2), some (cl_rf A 5 y9)] [] A N9)))))) :
    cl_wp xs K h0 (d + 2) Q I64 10 [some (cl_rf A 3 0), some (cl_rf A 2 x1), some (cl_rf A 5 x2), some (cl_rf A 5 x3)] [] A S := by
  refine cl_aload_n (dd D64_ok 6 rfl) rfl ?_
  refine cl_ifnull (tgt := 73) (dd D64_ok 7 rfl) (by decide) (fun c1 => ?_) (fun c1 => ?_)
  · refine cl_aload_n (dd D64_ok 39 rfl) rfl ?_
    refine cl_aload_n (dd D64_ok 40 rfl) rfl ?_
    refine cl_call (as := [cl_rf A 2 x1]) (rest := []) (v := 0) (dd D64_ok 41 rfl) pl3_206 rfl (Nat.le_of_ble_eq_true rfl) (ms83 xs) rfl (by decide) (k.1 c1).1.l3 (((k.1 c1).2).mono ?_) rfl
    rintro v A N1 ⟨rfl, e1, rfl, w1⟩
    refine cl_aload_n (dd D64_ok 42 rfl) rfl ?_
    refine cl_iconst (v := 1) (dd D64_ok 43 rfl) (by decide) ?_
    refine cl_calls (as := [cl_rf A 5 x2, .int 1]) (rest := []) (dd D64_ok 44 rfl) pl3_210 rfl (Nat.le_of_ble_eq_true rfl) ((w1).mono ?_) rfl
    rintro v A N2 ⟨rfl, e2, y2, rfl, w2⟩
    refine cl_ifnull (tgt := 91) (dd D64_ok 45 rfl) (by decide) (fun c2 => ?_) (fun c2 => ?_)
    · refine cl_aload_n (dd D64_ok 49 rfl) rfl ?_
      refine cl_callP (r := .int (g_ch N2 x1)) (as := []) (rest := []) (v := x1) (dd D64_ok 50 rfl) pl3_219 rfl (Nat.le_of_ble_eq_true rfl) (ms97 xs) rfl (by decide) (w2.1 c2).1.l2 (cc_g_ch (S := N2) (w2.1 c2).1) rfl ?_
      exact cl_iret (dd D64_ok 51 rfl) rfl (w2.1 c2).2
    · refine cl_aload_n (dd D64_ok 46 rfl) rfl ?_
      refine cl_iconst (v := 0) (dd D64_ok 47 rfl) (by decide) ?_
      refine cl_pI (g := 205) (dd D64_ok 48 rfl) pl3_216 (by decide) (by decide) rfl rfl rfl rfl rfl (w2.2 c2).1.l2 ?_
      refine cl_aload_n (dd D64_ok 49 rfl) rfl ?_
      refine cl_callP (r := .int (g_ch (cl_up N2 205 x1.toNatClampNeg 0) x1)) (as := []) (rest := []) (v := x1) (dd D64_ok 50 rfl) pl3_219 rfl (Nat.le_of_ble_eq_true rfl) (ms97 xs) rfl (by decide) (w2.2 c2).1.l2 (cc_g_ch (S := cl_up N2 205 x1.toNatClampNeg 0) (w2.2 c2).1) rfl ?_
      exact cl_iret (dd D64_ok 51 rfl) rfl (w2.2 c2).2
  · refine cl_aload_n (dd D64_ok 8 rfl) rfl ?_
    refine cl_gI (g := 509) (e := S.2.1 509 x3.toNatClampNeg) (dd D64_ok 9 rfl) pl3_60 (by decide) (by decide) (by decide) rfl rfl (k.2 c1).1.l5 rfl ?_
    refine cl_iconst (v := 3) (dd D64_ok 10 rfl) (by decide) ?_
    refine cl_icmp_ne (tgt := 25) (dd D64_ok 11 rfl) (by decide) (fun c3 => ?_) (fun c3 => ?_)
    · refine cl_aload_n (dd D64_ok 13 rfl) rfl ?_
      refine cl_gI (g := 510) (e := S.2.1 510 x3.toNatClampNeg) (dd D64_ok 14 rfl) pl3_86 (by decide) (by decide) (by decide) rfl rfl (k.2 c1).1.l5 rfl ?_
      refine cl_if_eq (tgt := 41) (dd D64_ok 15 rfl) (by decide) (fun c4 => ?_) (fun c4 => ?_)
      · refine cl_aload_n (dd D64_ok 21 rfl) rfl ?_
        refine cl_gI (g := 509) (e := S.2.1 509 x3.toNatClampNeg) (dd D64_ok 22 rfl) pl3_60 (by decide) (by decide) (by decide) rfl rfl (k.2 c1).1.l5 rfl ?_
        refine cl_iconst (v := 1) (dd D64_ok 23 rfl) (by decide) ?_
        refine cl_icmp_ne (tgt := 58) (dd D64_ok 24 rfl) (by decide) (fun c5 => ?_) (fun c5 => ?_)
        · refine cl_aload_n (dd D64_ok 30 rfl) rfl ?_
          refine cl_aload_n (dd D64_ok 31 rfl) rfl ?_
          refine cl_aload_n (dd D64_ok 32 rfl) rfl ?_
          refine cl_call (as := [cl_rf A 2 x1, cl_rf A 5 x3]) (rest := []) (v := 0) (dd D64_ok 33 rfl) pl3_199 rfl (Nat.le_of_ble_eq_true rfl) (ms89 xs) rfl (by decide) ((((k.2 c1).2.1 c3).1 c4).1 c5).1.l3 ((((((k.2 c1).2.1 c3).1 c4).1 c5).2).mono ?_) rfl
          rintro v A N3 ⟨rfl, e3, rfl, w3⟩
          refine cl_aload_n (dd D64_ok 34 rfl) rfl ?_
          refine cl_aload_n (dd D64_ok 35 rfl) rfl ?_
          refine cl_calls (as := [cl_rf A 5 x3, cl_rf A 5 x2]) (rest := []) (dd D64_ok 36 rfl) pl3_202 rfl (Nat.le_of_ble_eq_true rfl) ((w3).mono ?_) rfl
          rintro v A N4 ⟨rfl, e4, y4, rfl, w4⟩
          refine cl_astore_n (dd D64_ok 37 rfl) (Nat.le_of_ble_eq_true rfl) ?_
          refine cl_goto (tgt := 10) (dd D64_ok 38 rfl) (by decide) ?_
          exact w4
        · refine cl_aload_n (dd D64_ok 25 rfl) rfl ?_
          refine cl_aload_n (dd D64_ok 26 rfl) rfl ?_
          refine cl_aload_n (dd D64_ok 27 rfl) rfl ?_
          refine cl_call (as := [cl_rf A 2 x1, cl_rf A 5 x3]) (rest := []) (v := 0) (dd D64_ok 28 rfl) pl3_196 rfl (Nat.le_of_ble_eq_true rfl) (ms78 xs) rfl (by decide) ((((k.2 c1).2.1 c3).1 c4).2 c5).1.l3 ((((((k.2 c1).2.1 c3).1 c4).2 c5).2).mono ?_) rfl
          rintro v A N5 ⟨rfl, e5, rfl, w5⟩
          refine cl_goto (tgt := 64) (dd D64_ok 29 rfl) (by decide) ?_
          refine cl_aload_n (dd D64_ok 34 rfl) rfl ?_
          refine cl_aload_n (dd D64_ok 35 rfl) rfl ?_
          refine cl_calls (as := [cl_rf A 5 x3, cl_rf A 5 x2]) (rest := []) (dd D64_ok 36 rfl) pl3_202 rfl (Nat.le_of_ble_eq_true rfl) ((w5).mono ?_) rfl
          rintro v A N6 ⟨rfl, e6, y6, rfl, w6⟩
          refine cl_astore_n (dd D64_ok 37 rfl) (Nat.le_of_ble_eq_true rfl) ?_
          refine cl_goto (tgt := 10) (dd D64_ok 38 rfl) (by decide) ?_
          exact w6
      · refine cl_aload_n (dd D64_ok 16 rfl) rfl ?_
        refine cl_aload_n (dd D64_ok 17 rfl) rfl ?_
        refine cl_aload_n (dd D64_ok 18 rfl) rfl ?_
        refine cl_call (as := [cl_rf A 2 x1, cl_rf A 5 x3]) (rest := []) (v := 0) (dd D64_ok 19 rfl) pl3_192 rfl (Nat.le_of_ble_eq_true rfl) (ms65 xs) rfl (by decide) (((k.2 c1).2.1 c3).2 c4).1.l3 (((((k.2 c1).2.1 c3).2 c4).2).mono ?_) rfl
        rintro v A N7 ⟨rfl, e7, rfl, w7⟩
        refine cl_goto (tgt := 64) (dd D64_ok 20 rfl) (by decide) ?_
        refine cl_aload_n (dd D64_ok 34 rfl) rfl ?_
        refine cl_aload_n (dd D64_ok 35 rfl) rfl ?_
        refine cl_calls (as := [cl_rf A 5 x3, cl_rf A 5 x2]) (rest := []) (dd D64_ok 36 rfl) pl3_202 rfl (Nat.le_of_ble_eq_true rfl) ((w7).mono ?_) rfl
        rintro v A N8 ⟨rfl, e8, y8, rfl, w8⟩
        refine cl_astore_n (dd D64_ok 37 rfl) (Nat.le_of_ble_eq_true rfl) ?_
        refine cl_goto (tgt := 10) (dd D64_ok 38 rfl) (by decide) ?_
        exact w8
    · refine cl_goto (tgt := 64) (dd D64_ok 12 rfl) (by decide) ?_
      refine cl_aload_n (dd D64_ok 34 rfl) rfl ?_
      refine cl_aload_n (dd D64_ok 35 rfl) rfl ?_
      refine cl_calls (as := [cl_rf A 5 x3, cl_rf A 5 x2]) (rest := []) (dd D64_ok 36 rfl) pl3_202 rfl (Nat.le_of_ble_eq_true rfl) ((((k.2 c1).2.2 c3)).mono ?_) rfl
      rintro v A N9 ⟨rfl, e9, y9, rfl, w9⟩
      refine cl_astore_n (dd D64_ok 37 rfl) (Nat.le_of_ble_eq_true rfl) ?_
      refine cl_goto (tgt := 10) (dd D64_ok 38 rfl) (by decide) ?_
      exact w9
section LNT
variable {xs : List Int32} {K : Nat → Prop} {h0 : am_H} {Q : Option Value → cl_A → cl_S → Prop} {A : cl_A} {P : md_S} {nn W i f D d : Nat} {T : List Nat} {ox oy : Int32}
/-- one node on the lines, all that it holds with it -/
theorem kk_nd {j : Nat} {k : bt} {W0 : Nat} {b : Int32} {S : cl_S} {M : md_S} {l : List Nat} {wl : List (Nat × bt)} {bl : List Nat} {V : List (Nat × bt)} {VW : List Nat} {B : Nat} (hSP : SP P nn W) (hib : f_boxy P i) (hi : i < nn) (hf13 : f < 13) (hox : nb ((f + 1) * 67108864 + 59) ox) (hoy : nb ((f + 1) * 67108864 + 59) oy) (hD : 21 ≤ D) (hDd : D + 4 ≤ d)
    (hm0 : ¬ P.2 12 j = 0) (ihk : P.2 12 j = 3 → LNp xs K h0 Q A P nn W i f D d T ox oy k W0 b (bgn S f) wl V VW B (M.1 37).toInt (f_ln k M) → LD xs K h0 Q A i f d (bgn S f) (bt_hd b k))
    (hnd : nds xs K A P nn W i f D T j k) (hfk : P.2 5 j = bt_hd (-1) k) (hRk : bt_R (P.2 4) (P.2 5) (P.2 7) (nI j) k) (h28 : P.2 28 j = nI W0) (hW0 : W0 ≤ 3700) (hap : ∀ q ∈ V, ∀ x ∈ sub (j, k), x ∉ sub q) (hvw : ∀ w ∈ VW, w < W0) (hbh : bhc (P.2 4) (P.2 7) nn (nI i) (nI j) b) (hLa : la_T S P nn W) (h : SMl xs K A P nn W i f D T ox oy (bgn S f) M l wl bl [] V VW B) (hbk : bkR (bgn S f) M f bl) (hB : B + csq P wl + cs P j k ≤ 67108000) (hV : V.length + (1 + (bt_pre k).length) ≤ 59)
    (hQ : LNp xs K h0 Q A P nn W i f D d T ox oy (.branch j k (.leaf ())) W0 b S wl V VW B (M.1 37).toInt (f_nd M j (f_ln k M))) (hB13 : ¬ f_isBox P (nI j) = 0 → ¬ P.2 13 j = 0) : LD xs K h0 Q A i f d S (nI j) := by
  obtain ⟨n1, n2, n3, n4, n5, n6, n7, n8, n9, n10, n11⟩ := hnd
  have hT0 := hLa.1
  have h60 := hT0.1
  have cj : (nI j).toNatClampNeg = j := hT0.cl n1
  have e509 := (hLa.2.1 j n1).1
  have e510 := (hLa.2.1 j n1).2.1
  have e206 : (bgn S f).2.1 206 = S.2.1 206 := (bgn_X S f).2.2 206 (by decide)
  have hst := h.2.1
  have m12 : M.2 12 j = P.2 12 j := by rw [hst.1 12 (by decide)]
  have hbx : f_isBox M (nI j) = f_isBox P (nI j) := by unfold f_isBox; rw [hst.1 12 (by decide)]
  have hapq : apart V (j, k) := fun q hq => ⟨hap q hq, fun x hx hx' => hap q hq x hx' hx⟩
  have hfol : ∀ (S' : cl_S), la_T S' P nn W → ∀ r, r = (if ro (P.2 12 j) = 1 then (if P.2 5 j = -1 then b else P.2 5 j) else b) → ∀ Q', Q' (some (cl_rf A 5 r)) A S' → cl_C xs K (d + 2) 96 [cl_rf A 5 (nI j), cl_rf A 5 (nI i)] A S' Q' := by
    intro S' hL' r hr
    have e := (hL'.2.1 j n1).1
    exact kk_follow hL'.1 n1 hi hbh (by rw [e]; exact hr)
  have hcsF : csF P (.branch j k (.leaf ())) = cs P j k := by
    rw [csF_br]
    show cs P j k + (600000 * 0 + 3000 * 0) = _
    omega
  have hpre : bt_pre (.branch j k (.leaf ())) = j :: bt_pre k := by simp [bt_pre]
  have hws : l1_ws P (.branch j k (.leaf ())) = l1_w P j + l1_ws P k := by
    rw [l1_ws_br]
    show l1_w P j + l1_ws P k + 0 = _
    omega
  unfold LD
  refine vc64_10 ⟨fun c => absurd c (nI_ne_m1 (by omega)), fun _ => ⟨hT0.n n1, ?_⟩⟩
  rw [cj, e509, e510]
  have hro : ∀ m, P.2 12 j = m → ro (P.2 12 j) = ro m := fun m e => by rw [e]
  have hz := hT0.2.1
  rcases n10 with m | m | m | m | m | m | m
  · exact absurd m hm0
  · -- a float
    have hb1 : ¬ f_isBox P (nI j) = 0 := (isBox_m (by omega)).mpr (Or.inl m)
    rw [hro _ m]
    refine ⟨fun _ => ⟨fun c => absurd c (hB13 hb1), fun _ => ⟨hz, ?_⟩⟩, fun c => absurd (show ¬ ro 1 = 3 by decide) c⟩
    refine kk_addFloat (q := (j, k)) hSP hib hi hf13 hox hoy h n3 hapq (n4 hb1) (by omega) hB hD (by omega) _ (fun S1 l1 wl1 B1 F1 h1 hB1 z1 => ⟨rfl, F1.1.1, rfl, ?_⟩)
    refine hfol S1 h1.1 b (by rw [hro _ m]; rfl) _ ⟨rfl, rfl, _, rfl, ?_⟩
    have e : f_nd M j (f_ln k M) = if M.1 41 ≤ 0 then f_putFloat_M M (M.1 46).toNatClampNeg j else f_wait M j := by
      unfold f_nd
      rw [hbx, if_neg hb1]
    rw [e] at hQ
    have e37 : (if M.1 41 ≤ 0 then f_putFloat_M M (M.1 46).toNatClampNeg j else f_wait M j).1 37 = M.1 37 := by
      split
      · exact pf_1 _ _ _ (by decide)
      · unfold f_wait
        rw [md_up1_ne _ (by decide)]
        rfl
    refine hQ S1 l1 wl1 bl (V ++ [(j, k)]) VW B1 (by rw [e37]; exact Int.le_refl _) F1 h1 ?_ (fun q hq => List.mem_append_left _ hq) (fun q hq => ?_) (fun w hw => hw) (fun w hw => Or.inl hw) ⟨fun _ => by simp, fun c => ?_, fun c => ?_, trivial⟩ (by rw [hcsF]; exact hB1) (by rw [hpre]; simp)
    · have e54 : (if M.1 41 ≤ 0 then f_putFloat_M M (M.1 46).toNatClampNeg j else f_wait M j).1 54 = M.1 54 := by
        split
        · exact pf_1 _ _ _ (by decide)
        · unfold f_wait
          rw [md_up1_ne _ (by decide)]
          rfl
      refine ⟨by rw [e54]; exact hbk.1, fun c => by rw [z1, e54, ← e206]; exact hbk.2 c⟩
    · rcases List.mem_append.mp hq with r | r
      · exact Or.inl r
      · rw [List.mem_singleton.mp r, hpre]; exact Or.inr (fun x hx => hx)
    · rw [m] at c; exact absurd c (by decide)
    · rw [m] at c; exact absurd c (by decide)
  · -- a float that is a row
    have hb1 : ¬ f_isBox P (nI j) = 0 := (isBox_m (by omega)).mpr (Or.inr m)
    rw [hro _ m]
    refine ⟨fun _ => ⟨fun c => absurd c (hB13 hb1), fun _ => ⟨hz, ?_⟩⟩, fun c => absurd (show ¬ ro 2 = 3 by decide) c⟩
    refine kk_addFloat (q := (j, k)) hSP hib hi hf13 hox hoy h n3 hapq (n4 hb1) (by omega) hB hD (by omega) _ (fun S1 l1 wl1 B1 F1 h1 hB1 z1 => ⟨rfl, F1.1.1, rfl, ?_⟩)
    refine hfol S1 h1.1 b (by rw [hro _ m]; rfl) _ ⟨rfl, rfl, _, rfl, ?_⟩
    have e : f_nd M j (f_ln k M) = if M.1 41 ≤ 0 then f_putFloat_M M (M.1 46).toNatClampNeg j else f_wait M j := by
      unfold f_nd
      rw [hbx, if_neg hb1]
    rw [e] at hQ
    have e37 : (if M.1 41 ≤ 0 then f_putFloat_M M (M.1 46).toNatClampNeg j else f_wait M j).1 37 = M.1 37 := by
      split
      · exact pf_1 _ _ _ (by decide)
      · unfold f_wait
        rw [md_up1_ne _ (by decide)]
        rfl
    refine hQ S1 l1 wl1 bl (V ++ [(j, k)]) VW B1 (by rw [e37]; exact Int.le_refl _) F1 h1 ?_ (fun q hq => List.mem_append_left _ hq) (fun q hq => ?_) (fun w hw => hw) (fun w hw => Or.inl hw) ⟨fun _ => by simp, fun c => ?_, fun c => ?_, trivial⟩ (by rw [hcsF]; exact hB1) (by rw [hpre]; simp)
    · have e54 : (if M.1 41 ≤ 0 then f_putFloat_M M (M.1 46).toNatClampNeg j else f_wait M j).1 54 = M.1 54 := by
        split
        · exact pf_1 _ _ _ (by decide)
        · unfold f_wait
          rw [md_up1_ne _ (by decide)]
          rfl
      refine ⟨by rw [e54]; exact hbk.1, fun c => by rw [z1, e54, ← e206]; exact hbk.2 c⟩
    · rcases List.mem_append.mp hq with r | r
      · exact Or.inl r
      · rw [List.mem_singleton.mp r, hpre]; exact Or.inr (fun x hx => hx)
    · rw [m] at c; exact absurd c (by decide)
    · rw [m] at c; exact absurd c (by decide)
  all_goals
    have hb0 : f_isBox P (nI j) = 0 := by unfold f_isBox; rw [cj, m]; rfl
    have h13 := n5 hb0
    rw [hro _ m, h13]
    refine ⟨fun _ => ⟨fun _ => ⟨fun c => absurd (by decide) c, fun _ => ⟨hz, ?_⟩⟩, fun c => absurd rfl c⟩, fun c => absurd (by decide) c⟩
  · -- an inline element
    refine kk_inl3 (q := (j, k)) hf13 hLa n1 (n9 m) (by omega) _ ⟨rfl, (bgn_X S f).1, rfl, ?_⟩
    refine hfol (bgn S f) h.1 (bt_hd b k) ?_ _ ⟨rfl, rfl, _, rfl, ?_⟩
    · rw [hro _ m, if_pos (by decide), hfk]
      exact bt_hd_m1 hRk
    · have e : f_nd M j (f_ln k M) = f_ln k M := by
        unfold f_nd
        rw [hbx, hb0, m12, m]
        simp
      rw [e] at hQ
      refine ihk m (fun S' l' wl' bl' V' VW' B' mo' F' h' hbk' v1 v2 v3 v4 v5 v6 v7 => hQ S' l' wl' bl' V' VW' B' mo' ((bgn_FR S f).tr F') h' hbk' v1 (fun q hq => (v2 q hq).imp id (fun r x hx => by rw [hpre]; exact List.mem_cons_of_mem _ (r x hx))) v3 (fun w hw => (v4 w hw).imp id (fun r => ⟨r.1, by rw [hws]; omega⟩)) ⟨fun c => ?_, fun c => ?_, fun _ => v5, trivial⟩ ?_ (by rw [hpre, List.length_cons]; omega))
      · rcases c with c | c
        · exact absurd hb0 c
        · rw [m] at c; exact absurd c (by decide)
      · rw [m] at c; exact absurd c (by decide)
      · rw [hcsF]
        have : csF P k ≤ cs P j k := by
          unfold csF cs
          rw [Nat.mul_add, Nat.mul_add]
          omega
        omega
  · -- a piece
    obtain ⟨o1, o2, o3⟩ := n6 m
    refine kk_inl4 (q := (j, k)) hSP hib hi hf13 hox hoy h hbk n3 hapq o1 m o2 o3 (by omega) hB hD (by omega) _ (fun S1 l1 wl1 bl1 B1 F1 h1 hB1 hb1 mo1 => ⟨rfl, F1.1.1, rfl, ?_⟩)
    refine hfol S1 h1.1 b (by rw [hro _ m, if_pos (by decide), if_pos (n11 (by rw [o1]; decide))]) _ ⟨rfl, rfl, _, rfl, ?_⟩
    have e : f_nd M j (f_ln k M) = f_pi M (-1 - nI j) (M.2 17 j) (f_of M (nI j) 8) := by
      unfold f_nd
      rw [hbx, hb0, m12, m]
      simp
    rw [e] at hQ
    refine hQ S1 l1 wl1 bl1 (V ++ [(j, k)]) VW B1 mo1 F1 h1 hb1 (fun q hq => List.mem_append_left _ hq) (fun q hq => ?_) (fun w hw => hw) (fun w hw => Or.inl hw) ⟨fun _ => by simp, fun c => ?_, fun c => ?_, trivial⟩ (by rw [hcsF]; exact hB1) (by rw [hpre]; simp)
    · rcases List.mem_append.mp hq with r | r
      · exact Or.inl r
      · rw [List.mem_singleton.mp r, hpre]; exact Or.inr (fun x hx => hx)
    · rw [m] at c; exact absurd c (by decide)
    · rw [m] at c; exact absurd c (by decide)
  · -- a break
    have o1 := n7 m
    refine kk_inl5 (q := (j, k)) hSP hib hi hf13 hox hoy h n3 o1 (by omega) hB hD (by omega) _ (fun S1 l1 B1 F1 h1 hB1 hb1 mo1 => ⟨rfl, F1.1.1, rfl, ?_⟩)
    refine hfol S1 h1.1 b (by rw [hro _ m, if_pos (by decide), if_pos (n11 (by rw [o1]; decide))]) _ ⟨rfl, rfl, _, rfl, ?_⟩
    have e : f_nd M j (f_ln k M) = f_brk M j := by
      unfold f_nd
      rw [hbx, hb0, m12, m]
      simp
    rw [e] at hQ
    refine hQ S1 l1 [] [] V VW B1 mo1 F1 h1 hb1 (fun q hq => hq) (fun q hq => Or.inl hq) (fun w hw => hw) (fun w hw => Or.inl hw) ⟨fun c => ?_, fun c => ?_, fun c => ?_, trivial⟩ (by rw [hcsF]; simp [csq] at hB1 ⊢; omega) (by omega)
    · rcases c with c | c
      · exact absurd hb0 c
      · rw [m] at c; exact absurd c (by decide)
    · rw [m] at c; exact absurd c (by decide)
    · rw [m] at c; exact absurd c (by decide)
  · -- a text
    obtain ⟨o1, w0, o2⟩ := n8 m
    have hw0 : w0 = W0 := by
      have e1 := o2.2.1
      have e2 := o2.2.2.1
      have e3 := h.2.2.2.2.2.2.2.2.2.1.2.2.2.2.2.2.2.2.2.1
      exact (nI_eq (by omega) (by omega)).mp (e1.symm.trans h28)
    subst hw0
    refine kk_inl6 (q := (j, k)) hSP hib hi hf13 hox hoy h hbk n3 hapq o1 o2 (fun w hw m' e => by have := hvw w hw; omega) (by omega) hB hD (by omega) _ (fun S1 l1 wl1 bl1 B1 F1 h1 hB1 hb1 mo1 => ⟨rfl, F1.1.1, rfl, ?_⟩)
    refine hfol S1 h1.1 b (by rw [hro _ m, if_pos (by decide), if_pos (n11 (by rw [o1]; decide))]) _ ⟨rfl, rfl, _, rfl, ?_⟩
    have e : f_nd M j (f_ln k M) = f_lineText_M M j (M.2 28 j).toNatClampNeg := by
      unfold f_nd
      rw [hbx, hb0, m12, m]
      simp
    rw [e] at hQ
    have hl1 : l1_w P j = (ws_of P j).length := by unfold l1_w; rw [if_pos m]
    refine hQ S1 l1 wl1 bl1 (V ++ [(j, k)]) _ B1 mo1 F1 h1 hb1 (fun q hq => List.mem_append_left _ hq) (fun q hq => ?_) (fun w hw => List.mem_append_left _ hw) (fun w hw => ?_) ⟨fun c => ?_, fun _ w1 hw13 hw1 m' hm' => ?_, fun c => ?_, trivial⟩ (by rw [hcsF]; exact hB1) (by rw [hpre]; simp)
    · rcases List.mem_append.mp hq with r | r
      · exact Or.inl r
      · rw [List.mem_singleton.mp r, hpre]; exact Or.inr (fun x hx => hx)
    · rcases List.mem_append.mp hw with r | r
      · exact Or.inl r
      · rw [List.mem_range'_1] at r
        have r : w0 ≤ w ∧ w < w0 + (ws_of P j).length := r
        exact Or.inr ⟨r.1, by rw [hws, hl1]; omega⟩
    · rcases c with c | c
      · exact absurd hb0 c
      · rw [m] at c; exact absurd c (by decide)
    · have : w1 = w0 := (nI_eq (by omega) (by omega)).mp (hw1.symm.trans h28)
      rw [this]
      exact List.mem_append_right _ (List.mem_range'_1.mpr ⟨by omega, by show _ < w0 + (ws_of P j).length; omega⟩)
    · rw [m] at c; exact absurd c (by decide)
/-- a node that is gone -/
theorem kk_gone {j : Nat} {b : Int32} {S : cl_S} (hi : i < nn) (hLa : la_T S P nn W) (hj : j < nn) (hm0 : P.2 12 j = 0) (hbh : bhc (P.2 4) (P.2 7) nn (nI i) (nI j) b) (hQ : LD xs K h0 Q A i f d S b) : LD xs K h0 Q A i f d S (nI j) := by
  have hT0 := hLa.1
  have h60 := hT0.1
  have cj : (nI j).toNatClampNeg = j := hT0.cl hj
  have e509 := (hLa.2.1 j hj).1
  unfold LD
  refine vc64_10 ⟨fun c => absurd c (nI_ne_m1 (by omega)), fun _ => ⟨hT0.n hj, ?_⟩⟩
  rw [cj, e509, hm0]
  refine ⟨fun c => absurd (show ro 0 = 3 from rfl) c, fun _ => ?_⟩
  exact kk_follow hT0 hj hi hbh (by rw [e509, hm0]; rfl) _ ⟨rfl, rfl, _, rfl, hQ⟩
end LNT
