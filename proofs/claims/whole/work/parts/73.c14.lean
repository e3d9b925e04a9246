/-! the class: a float is put (by hand: wip/whole/gen/c14.py) -/
/-- the numbers of a node are small -/
def SPn (P : md_S) (i : Nat) : Prop := nz 50 (f_of P (nI i) 4) ∧ nz 9 (f_of P (nI i) 5) ∧ nz 50 (f_of P (nI i) 6) ∧ (1 ≤ (f_of P (nI i) 8).toInt ∧ (f_of P (nI i) 8).toInt ≤ 4) ∧ (-1 ≤ (f_of P (nI i) 2).toInt ∧ (f_of P (nI i) 2).toInt ≤ 1100) ∧ (-1 ≤ (f_of P (nI i) 3).toInt ∧ (f_of P (nI i) 3).toInt ≤ 400) ∧ (f_boxy P i → nz 250000 (P.2 17 i)) ∧ (P.2 12 i = 4 → nz 400 (P.2 18 i)) ∧ nz 2 (f_of P (nI i) 7)
def SP (P : md_S) (nn W : Nat) : Prop := (∀ i, i < nn → SPn P i) ∧ ∀ w, w < W → nz 2500 (P.2 35 w) ∧ nz 28 (P.2 36 w) ∧ P.2 36 w = 7 * f_of P (P.2 30 w) 8 ∧ ∃ n, n < nn ∧ P.2 30 w = nI n
/-- what a subtree may cost -/
def cs (P : md_S) (n : Nat) (k : bt) : Nat := 600000 * (1 + (bt_pre k).length) + 3000 * (l1_w P n + l1_ws P k)
theorem edges_nz {P : md_S} {i : Nat} (h : SPn P i) : nz 59 (f_edges P (nI i)) := by
  unfold f_edges
  have h1 := h.2.1
  have h2 := h.2.2.1
  unfold nz at *
  rw [off_toInt ⟨by omega, by omega⟩ ⟨by omega, by omega⟩]
  omega
theorem two_toInt {x : Int32} (h : nb 1000000 x) : (2 * x).toInt = 2 * x.toInt := by
  unfold nb at h
  rw [Int32.toInt_mul, show (2 : Int32).toInt = 2 by decide]
  exact bmod_small (by omega) (by omega)
theorem inner_nz {P : md_S} {i : Nat} (h : SPn P i) (hi : i < 60) (hb : f_boxy P i) : nz 250000 (f_inner P (nI i)) := by
  unfold f_inner
  have h1 := h.2.2.2.2.2.2.1 hb
  have h2 := edges_nz h
  rw [nI_clamp (by omega)]
  unfold nz at *
  have e : (2 * f_edges P (nI i)).toInt = 2 * (f_edges P (nI i)).toInt := two_toInt ⟨by omega, by omega⟩
  rw [more_toInt, off_sub ⟨by omega, by omega⟩ ⟨by omega, by omega⟩, show (0 : Int32).toInt = 0 by decide]
  omega
theorem told_ne {P : md_S} {i : Nat} {x : Int32} (h : SPn P i) (hx : nz 250000 x) : f_told P (nI i) x = -1 ↔ f_of P (nI i) 2 = -1 := by
  unfold f_told
  by_cases c : f_of P (nI i) 2 < 1000
  · rw [if_pos c]
  · rw [if_neg c]
    have hm1 : (-1 : Int32).toInt = -1 := by decide
    have h1000 : (1000 : Int32).toInt = 1000 := by decide
    have h2 := h.2.2.2.2.1
    rw [Int32.lt_iff_toInt_lt, h1000] at c
    refine ⟨fun q => ?_, fun q => ?_⟩
    · have q := congrArg Int32.toInt q
      have e1 : (f_of P (nI i) 2 - 1000).toInt = (f_of P (nI i) 2).toInt - 1000 := by
        rw [off_sub ⟨by omega, by omega⟩ ⟨by rw [h1000]; omega, by rw [h1000]; omega⟩, h1000]
      have hp : 0 ≤ x.toInt * ((f_of P (nI i) 2).toInt - 1000) := Int.mul_nonneg (by omega) (by omega)
      have hp2 : x.toInt * ((f_of P (nI i) 2).toInt - 1000) ≤ 250000 * 100 := Int.mul_le_mul (by omega) (by omega) (by omega) (by omega)
      have e2 : (x * (f_of P (nI i) 2 - 1000)).toInt = x.toInt * ((f_of P (nI i) 2).toInt - 1000) := by
        rw [Int32.toInt_mul, e1]
        exact bmod_small (by omega) (by omega)
      rw [Int32.toInt_div, e2, show (100 : Int32).toInt = 100 by decide, hm1] at q
      have h3 : 0 ≤ (x.toInt * ((f_of P (nI i) 2).toInt - 1000)).tdiv 100 := Int.tdiv_nonneg hp (by omega)
      have h4 : (x.toInt * ((f_of P (nI i) 2).toInt - 1000)).tdiv 100 ≤ x.toInt * ((f_of P (nI i) 2).toInt - 1000) := Int.tdiv_le_self _ hp
      rw [bmod_small (by omega) (by omega)] at q
      omega
    · rw [q, hm1] at c
      omega
theorem g_told_eq {S : cl_S} {P : md_S} {nn i : Nat} {x u : Int32} (hT : cl_T S P nn) (hi : i < nn) (h : SPn P i) (hx : nz 250000 x) : g_told S (nI i) x u = if f_told P (nI i) x = -1 then u else f_told P (nI i) x := by
  have hne := told_ne h hx
  unfold g_told
  rw [hT.cl hi, hT.h2 hi]
  by_cases c : f_of P (nI i) 2 = -1
  · rw [if_neg (fun q => q c), if_pos (hne.mpr c)]
  · rw [if_pos c, if_neg (fun q => c (hne.mp q))]
    unfold f_told
    by_cases c2 : f_of P (nI i) 2 < 1000
    · rw [if_pos c2, if_neg (Int32.not_le.mpr c2)]
    · rw [if_neg c2, if_pos (Int32.not_lt.mp c2)]
theorem less_comm (a b : Int32) : f_less a b = f_less b a := by
  apply Int32.toInt_inj.mp
  rw [less_toInt, less_toInt]
  omega
theorem nb_add {A C E : Nat} {a c : Int32} (ha : nb A a) (hc : nb C c) (hE : A + C ≤ E) (hA : A ≤ 1073741823) (hC : C ≤ 1073741823) : nb E (a + c) := by
  unfold nb at *
  rw [off_toInt ⟨by omega, by omega⟩ ⟨by omega, by omega⟩]
  omega
theorem nz_add {A C E : Nat} {a c : Int32} (ha : nz A a) (hc : nz C c) (hE : A + C ≤ E) (hA : A ≤ 1073741823) (hC : C ≤ 1073741823) : nz E (a + c) := by
  unfold nz at *
  rw [off_toInt ⟨by omega, by omega⟩ ⟨by omega, by omega⟩]
  omega
theorem nb_sub {A C E : Nat} {a c : Int32} (ha : nb A a) (hc : nb C c) (hE : A + C ≤ E) (hA : A ≤ 1073741823) (hC : C ≤ 1073741823) : nb E (a - c) := by
  unfold nb at *
  rw [off_sub ⟨by omega, by omega⟩ ⟨by omega, by omega⟩]
  omega
theorem dep_le {f en : Nat} (h : f < en) : (f + 1) * 67108864 + 67108864 ≤ (en + 1) * 67108864 := by
  have h1 := Nat.mul_le_mul_right 67108864 (show f + 2 ≤ en + 1 by omega)
  have h2 : (f + 1) * 67108864 + 67108864 = (f + 2) * 67108864 := (Nat.succ_mul (f + 1) 67108864).symm
  rw [h2]
  exact h1
theorem dep_12 {f : Nat} (h : f < 13) : (f + 1) * 67108864 + 59 ≤ 1073741823 := by
  have h1 := Nat.mul_le_mul_right 67108864 (show f + 1 ≤ 13 by omega)
  exact Nat.le_trans (Nat.add_le_add_right h1 59) (by decide)
/-- a box n with kids kn, its box is i; flow f -/
def chd (P : md_S) (nn i f n : Nat) (kn : bt) : Prop := n < nn ∧ ¬ n = 0 ∧ bt_R (P.2 4) (P.2 5) (P.2 7) (nI n) kn ∧ P.2 5 n = bt_hd (-1) kn ∧ (∀ x ∈ bt_pre kn, x < nn) ∧ n ∉ bt_pre kn ∧ (bt_pre kn).length ≤ 60 ∧ P.2 14 n = nI i ∧ P.2 11 n = 0 ∧ ¬ f_isBox P (nI n) = 0 ∧ P.2 17 n = f_wv P n kn ∧ ∃ en, P.2 8 n = nI en ∧ f < en ∧ en ≤ 12
theorem boxy_n4 {P : md_S} {n : Nat} (hn : n < 60) (h : ¬ f_isBox P (nI n) = 0) : ¬ P.2 12 n = 4 := by
  intro q
  unfold f_isBox at h
  rw [nI_clamp (by omega), q] at h
  exact h rfl
/-- layElement -/
def LE (xs : List Int32) (K : Nat → Prop) (A : cl_A) (P : md_S) (nn W : Nat) (n : Nat) (k : bt) : Prop := ∀ (D e : Nat) (S : cl_S) (X Y : Int32), 30 + 12 * bt_ht k ≤ D → P.2 8 n = nI e → e < 13 → la_T S P nn W → nb ((e + 1) * 67108864) X → nb ((e + 1) * 67108864) Y → ∀ Q', (∀ S', FR P W (n :: bt_pre k) (bt_pre k) e S S' → S'.2.1 0 n = X → S'.2.1 1 n = Y → S'.2.1 2 n = P.2 17 n → S'.2.1 3 n = P.2 18 n → S'.2.1 511 n = 1 → lo_F P W S' k (X + f_edges P (nI n)) (Y + f_edges P (nI n)) → nz (cs P n k - 300000) (P.2 18 n) → Q' none A S') → cl_C xs K D 51 [cl_rf A 3 0, cl_rf A 5 (nI n), .int X, .int Y, .int (P.2 17 n)] A S Q'
section PF
variable (M : md_S) (c n : Nat)
theorem pf_46 : (f_putFloat_M M c n).1 46 = nI (c + 1) := by
  unfold f_putFloat_M
  rw [md_up2_1, md_up2_1, md_up1_at]
theorem pf_1 {g : Nat} (h : g ∉ [38, 39, 46]) : (f_putFloat_M M c n).1 g = M.1 g := by
  simp only [List.mem_cons, List.not_mem_nil, or_false, not_or] at h
  unfold f_putFloat_M
  rw [md_up2_1, md_up2_1, md_up1_ne _ h.2.2, md_up2_1, md_up2_1, md_up2_1, md_up2_1, md_up2_1, f_edgesAt_ne M _ h.1 h.2.1]
theorem pf_2 {a : Nat} (h : a ∉ [15, 16, 47, 48, 49, 50, 51]) : (f_putFloat_M M c n).2 a = M.2 a := by
  simp only [List.mem_cons, List.not_mem_nil, or_false, not_or] at h
  unfold f_putFloat_M
  rw [md_up2_ne _ h.2.1, md_up2_ne _ h.1, md_up1_2, md_up2_ne _ h.2.2.2.2.2.2, md_up2_ne _ h.2.2.2.2.2.1, md_up2_ne _ h.2.2.2.2.1, md_up2_ne _ h.2.2.2.1, md_up2_ne _ h.2.2.1, f_edgesAt_2]
theorem pf_15 : (f_putFloat_M M c n).2 15 n = f_pfLeft M c n + f_of M (nI n) 4 := by
  unfold f_putFloat_M
  rw [md_up2_ne _ (by decide), md_up2_at]
theorem pf_16 : (f_putFloat_M M c n).2 16 n = f_pfAt M c n + f_of M (nI n) 4 := by
  unfold f_putFloat_M
  rw [md_up2_at]
theorem pf_15o {j : Nat} (h : ¬ j = n) : (f_putFloat_M M c n).2 15 j = M.2 15 j ∧ (f_putFloat_M M c n).2 16 j = M.2 16 j := by
  unfold f_putFloat_M
  refine ⟨?_, ?_⟩
  · rw [md_up2_ne _ (by decide), md_up2_off _ _ h, md_up1_2, md_up2_ne _ (by decide), md_up2_ne _ (by decide), md_up2_ne _ (by decide), md_up2_ne _ (by decide), md_up2_ne _ (by decide), f_edgesAt_2]
  · rw [md_up2_off _ _ h, md_up2_ne _ (by decide), md_up1_2, md_up2_ne _ (by decide), md_up2_ne _ (by decide), md_up2_ne _ (by decide), md_up2_ne _ (by decide), md_up2_ne _ (by decide), f_edgesAt_2]
/-- the new float -/
def pf_new : sp_fl := (f_pfLeft M c n, f_pfLeft M c n + (M.2 17 n + 2 * f_of M (nI n) 4), f_pfAt M c n, f_pfAt M c n + M.2 18 n + 2 * f_of M (nI n) 4, f_of M (nI n) 1)
theorem pf_flt {j : Nat} (h : ¬ j = c) : md_flt (f_putFloat_M M c n) j = md_flt M j := by
  unfold md_flt f_putFloat_M
  simp only [md_up2, md_up1_2, f_edgesAt_2]
  simp [h]
theorem pf_fltc : md_flt (f_putFloat_M M c n) c = pf_new M c n := by
  unfold md_flt f_putFloat_M pf_new
  simp [md_up2, md_up1_2]
theorem pf_flts : md_flts (f_putFloat_M M c n) (c + 1) = md_flts M c ++ [pf_new M c n] := by
  unfold md_flts
  rw [List.range_succ, List.map_append]
  congr 1
  · apply List.map_congr_left
    intro j hj
    have := List.mem_range.mp hj
    exact pf_flt M c n (by omega)
  · simp only [List.map_cons, List.map_nil, pf_fltc]
end PF
/-- the ghost agrees with the reference on all that stays -/
def si_st (P M : md_S) (T : List Nat) : Prop := (∀ a, a ∉ X_C → M.2 a = P.2 a) ∧ ∀ n ∈ T, M.2 18 n = P.2 18 n
theorem si_st.of {P M : md_S} {T : List Nat} (h : si_st P M T) (a b : Int32) : f_of M a b = f_of P a b := of_same (h.1 9 (by decide)) a b
def si_fw (S : cl_S) (P M : md_S) (i f : Nat) (ox oy : Int32) : Prop := S.2.1 200 f = nI i ∧ S.2.1 201 f = ox ∧ S.2.1 202 f = oy ∧ S.2.1 203 f = M.1 55 ∧ M.1 55 = f_inner P (nI i) ∧ M.1 43 = f_of P (nI i) 7 ∧ S.2.1 100 f = ox ∧ S.2.1 101 f = M.1 55 + ox
def si_fl (S : cl_S) (P M : md_S) (f : Nat) (ox oy : Int32) (l : List Nat) (B : Nat) : Prop := M.1 46 = nI l.length ∧ l.length < 60 ∧ chn (S.2.1 515) l (S.2.1 102 f) ∧ S.2.1 103 f = lst l ∧ fl_L S P ox oy l (md_flts M l.length) ∧ S.2.1 104 f = sp_tops (md_flts M l.length) 0 + oy ∧ S.2.1 105 f = lb_end (md_flts M l.length) 0 + oy ∧ ∀ q ∈ md_flts M l.length, fl_b B q
set_option maxHeartbeats 1000000 in
theorem vc68_0 {xs : List Int32} {K : Nat → Prop} {h0 : am_H} {d : Nat} {Q : Option Value → cl_A → cl_S → Prop} {A : cl_A} {S : cl_S} {x1 : Int32} {x2 : Int32}
    (k : (cl_n S x2) ∧ ((cl_z S) ∧ (cl_C xs K (d + 2) 59 [cl_rf A 3 0, cl_rf A 5 x2] A S (fun v A' N1 => A' = A ∧ N1.1 = S.1 ∧ ∃ y1, v = some (.int y1) ∧ ((cl_f N1 x1) ∧ (cl_C xs K (d + 2) 69 [cl_rf A 1 x1, .int ((g_fw N1 x2 (N1.2.1 203 x1.toNatClampNeg) (f_less y1 ((N1.2.1 203 x1.toNatClampNeg) - (2 * (S.2.1 2200 (9 * x2.toNatClampNeg + 4)))))) + (2 * (S.2.1 2200 (9 * x2.toNatClampNeg + 4)))), .int (f_more (N1.2.1 204 x1.toNatClampNeg) (N1.2.1 104 x1.toNatClampNeg))] A N1 (fun v A' N2 => A' = A ∧ N2.1 = N1.1 ∧ ∃ y2, v = some (.int y2) ∧ (((¬ (N2.2.1 2200 (9 * x2.toNatClampNeg + 1)) = 1) → cl_C xs K (d + 2) 74 [cl_rf A 1 x1, .int y2] A N2 (fun v A' N3 => A' = A ∧ N3.1 = N2.1 ∧ ∃ y3, v = some (.int y3) ∧ (cl_C xs K (d + 2) 51 [cl_rf A 3 0, cl_rf A 5 x2, .int ((y3 - (S.2.1 2200 (9 * x2.toNatClampNeg + 4))) - (g_fw N1 x2 (N1.2.1 203 x1.toNatClampNeg) (f_less y1 ((N1.2.1 203 x1.toNatClampNeg) - (2 * (S.2.1 2200 (9 * x2.toNatClampNeg + 4))))))), .int (y2 + (S.2.1 2200 (9 * x2.toNatClampNeg + 4))), .int (g_fw N1 x2 (N1.2.1 203 x1.toNatClampNeg) (f_less y1 ((N1.2.1 203 x1.toNatClampNeg) - (2 * (S.2.1 2200 (9 * x2.toNatClampNeg + 4))))))] A N3 (fun v A' N4 => A' = A ∧ N4.1 = N3.1 ∧ v = none ∧ (cl_C xs K (d + 2) 76 [cl_rf A 1 x1, cl_rf A 5 x2] A N4 (fun v A' N5 => A' = A ∧ N5.1 = N4.1 ∧ v = none ∧ (Q none A N5))))))) ∧ (¬ (¬ (N2.2.1 2200 (9 * x2.toNatClampNeg + 1)) = 1) → cl_C xs K (d + 2) 75 [cl_rf A 1 x1, .int y2] A N2 (fun v A' N6 => A' = A ∧ N6.1 = N2.1 ∧ ∃ y6, v = some (.int y6) ∧ (cl_C xs K (d + 2) 51 [cl_rf A 3 0, cl_rf A 5 x2, .int (y6 + (S.2.1 2200 (9 * x2.toNatClampNeg + 4))), .int (y2 + (S.2.1 2200 (9 * x2.toNatClampNeg + 4))), .int (g_fw N1 x2 (N1.2.1 203 x1.toNatClampNeg) (f_less y1 ((N1.2.1 203 x1.toNatClampNeg) - (2 * (S.2.1 2200 (9 * x2.toNatClampNeg + 4))))))] A N6 (fun v A' N7 => A' = A ∧ N7.1 = N6.1 ∧ v = none ∧ (cl_C xs K (d + 2) 76 [cl_rf A 1 x1, cl_rf A 5 x2] A N7 (fun v A' N8 => A' = A ∧ N8.1 = N7.1 ∧ v = none ∧ (Q none A N8))))))))))))))) :
    cl_wp xs K h0 (d + 2) Q I68 0 [some (cl_rf A 3 0), some (cl_rf A 2 x1), some (cl_rf A 5 x2), none, none, none, none, none, none] [] A S := by
  refine cl_aload_n (dd D68_ok 0 rfl) rfl ?_
  refine cl_getO (g := 22) (dd D68_ok 1 rfl) pl3_46 (by decide) (by decide) (by decide) rfl k.1.l5 ?_
  refine cl_iconst (v := 4) (dd D68_ok 2 rfl) (by decide) ?_
  refine cl_hs (q := 4) (e := S.2.1 2200 (9 * x2.toNatClampNeg + 4)) (dd D68_ok 3 rfl) k.1.l22 (md_vl (by decide)) (by decide) rfl ?_
  refine cl_istore_n (dd D68_ok 4 rfl) (Nat.le_of_ble_eq_true rfl) ?_
  refine cl_aload_n (dd D68_ok 5 rfl) rfl ?_
  refine cl_aload_n (dd D68_ok 6 rfl) rfl ?_
  refine cl_call (as := [cl_rf A 5 x2]) (rest := []) (v := 0) (dd D68_ok 7 rfl) pl3_179 rfl (Nat.le_of_ble_eq_true rfl) (ms59 xs) rfl (by decide) k.2.1.l3 ((k.2.2).mono ?_) rfl
  rintro v A N1 ⟨rfl, e1, y1, rfl, w1⟩
  refine cl_aload_n (dd D68_ok 8 rfl) rfl ?_
  refine cl_gI (g := 203) (e := N1.2.1 203 x1.toNatClampNeg) (dd D68_ok 9 rfl) pl3_170 (by decide) (by decide) (by decide) rfl rfl w1.1.l2 rfl ?_
  refine cl_iconst (v := 2) (dd D68_ok 10 rfl) (by decide) ?_
  refine cl_iload_n (dd D68_ok 11 rfl) rfl ?_
  refine cl_imul (dd D68_ok 12 rfl) ?_
  refine cl_isub (dd D68_ok 13 rfl) ?_
  refine cl_min (dd D68_ok 14 rfl) pl3_258 (Nat.le_of_ble_eq_true rfl) ?_
  rw [← f_less_lt]
  refine cl_istore (dd D68_ok 15 rfl) (Nat.le_of_ble_eq_true rfl) ?_
  refine cl_aload_n (dd D68_ok 16 rfl) rfl ?_
  refine cl_aload_n (dd D68_ok 17 rfl) rfl ?_
  refine cl_gI (g := 203) (e := N1.2.1 203 x1.toNatClampNeg) (dd D68_ok 18 rfl) pl3_170 (by decide) (by decide) (by decide) rfl rfl w1.1.l2 rfl ?_
  refine cl_iload (dd D68_ok 19 rfl) rfl ?_
  refine cl_callP (r := .int (g_fw N1 x2 (N1.2.1 203 x1.toNatClampNeg) (f_less y1 ((N1.2.1 203 x1.toNatClampNeg) - (2 * (S.2.1 2200 (9 * x2.toNatClampNeg + 4))))))) (as := [.int (N1.2.1 203 x1.toNatClampNeg), .int (f_less y1 ((N1.2.1 203 x1.toNatClampNeg) - (2 * (S.2.1 2200 (9 * x2.toNatClampNeg + 4)))))]) (rest := []) (v := x2) (dd D68_ok 20 rfl) pl3_183 rfl (Nat.le_of_ble_eq_true rfl) (ms63 xs) rfl (by decide) (k.1.mv e1).l5 (cc_g_fw (S := N1) (k.1.mv e1)) rfl ?_
  refine cl_istore (dd D68_ok 21 rfl) (Nat.le_of_ble_eq_true rfl) ?_
  refine cl_aload_n (dd D68_ok 22 rfl) rfl ?_
  refine cl_getO (g := 1) (dd D68_ok 23 rfl) pl3_230 (by decide) (by decide) (by decide) rfl w1.1.l2 ?_
  refine cl_astore (dd D68_ok 24 rfl) (Nat.le_of_ble_eq_true rfl) ?_
  refine cl_aload (dd D68_ok 25 rfl) rfl ?_
  refine cl_iload (dd D68_ok 26 rfl) rfl ?_
  refine cl_iconst (v := 2) (dd D68_ok 27 rfl) (by decide) ?_
  refine cl_iload_n (dd D68_ok 28 rfl) rfl ?_
  refine cl_imul (dd D68_ok 29 rfl) ?_
  refine cl_iadd (dd D68_ok 30 rfl) ?_
  refine cl_aload_n (dd D68_ok 31 rfl) rfl ?_
  refine cl_gI (g := 204) (e := N1.2.1 204 x1.toNatClampNeg) (dd D68_ok 32 rfl) pl3_229 (by decide) (by decide) (by decide) rfl rfl w1.1.l2 rfl ?_
  refine cl_aload (dd D68_ok 33 rfl) rfl ?_
  refine cl_gI (g := 104) (e := N1.2.1 104 x1.toNatClampNeg) (dd D68_ok 34 rfl) pl3_261 (by decide) (by decide) (by decide) rfl rfl w1.1.l1 rfl ?_
  refine cl_max (dd D68_ok 35 rfl) pl3_187 (Nat.le_of_ble_eq_true rfl) ?_
  rw [← f_more_lt]
  refine cl_call (as := [.int ((g_fw N1 x2 (N1.2.1 203 x1.toNatClampNeg) (f_less y1 ((N1.2.1 203 x1.toNatClampNeg) - (2 * (S.2.1 2200 (9 * x2.toNatClampNeg + 4)))))) + (2 * (S.2.1 2200 (9 * x2.toNatClampNeg + 4)))), .int (f_more (N1.2.1 204 x1.toNatClampNeg) (N1.2.1 104 x1.toNatClampNeg))]) (rest := []) (v := x1) (dd D68_ok 36 rfl) pl3_264 rfl (Nat.le_of_ble_eq_true rfl) (ms69 xs) rfl (by decide) w1.1.l1 ((w1.2).mono ?_) rfl
  rintro v A N2 ⟨rfl, e2, y2, rfl, w2⟩
  refine cl_istore (dd D68_ok 37 rfl) (Nat.le_of_ble_eq_true rfl) ?_
  refine cl_aload_n (dd D68_ok 38 rfl) rfl ?_
  refine cl_getO (g := 22) (dd D68_ok 39 rfl) pl3_46 (by decide) (by decide) (by decide) rfl ((k.1.mv e1).mv e2).l5 ?_
  refine cl_iconst (v := 1) (dd D68_ok 40 rfl) (by decide) ?_
  refine cl_hs (q := 1) (e := N2.2.1 2200 (9 * x2.toNatClampNeg + 1)) (dd D68_ok 41 rfl) ((k.1.mv e1).mv e2).l22 (md_vl (by decide)) (by decide) rfl ?_
  refine cl_iconst (v := 1) (dd D68_ok 42 rfl) (by decide) ?_
  refine cl_icmp_ne (tgt := 90) (dd D68_ok 43 rfl) (by decide) (fun c1 => ?_) (fun c1 => ?_)
  · refine cl_aload (dd D68_ok 50 rfl) rfl ?_
    refine cl_iload (dd D68_ok 51 rfl) rfl ?_
    refine cl_call (as := [.int y2]) (rest := []) (v := x1) (dd D68_ok 52 rfl) pl3_270 rfl (Nat.le_of_ble_eq_true rfl) (ms74 xs) rfl (by decide) (w1.1.mv e2).l1 (((w2.1 c1)).mono ?_) rfl
    rintro v A N3 ⟨rfl, e3, y3, rfl, w3⟩
    refine cl_iload_n (dd D68_ok 53 rfl) rfl ?_
    refine cl_isub (dd D68_ok 54 rfl) ?_
    refine cl_iload (dd D68_ok 55 rfl) rfl ?_
    refine cl_isub (dd D68_ok 56 rfl) ?_
    refine cl_istore (dd D68_ok 57 rfl) (Nat.le_of_ble_eq_true rfl) ?_
    refine cl_aload_n (dd D68_ok 58 rfl) rfl ?_
    refine cl_aload_n (dd D68_ok 59 rfl) rfl ?_
    refine cl_iload (dd D68_ok 60 rfl) rfl ?_
    refine cl_iload (dd D68_ok 61 rfl) rfl ?_
    refine cl_iload_n (dd D68_ok 62 rfl) rfl ?_
    refine cl_iadd (dd D68_ok 63 rfl) ?_
    refine cl_iload (dd D68_ok 64 rfl) rfl ?_
    refine cl_call (as := [cl_rf A 5 x2, .int ((y3 - (S.2.1 2200 (9 * x2.toNatClampNeg + 4))) - (g_fw N1 x2 (N1.2.1 203 x1.toNatClampNeg) (f_less y1 ((N1.2.1 203 x1.toNatClampNeg) - (2 * (S.2.1 2200 (9 * x2.toNatClampNeg + 4))))))), .int (y2 + (S.2.1 2200 (9 * x2.toNatClampNeg + 4))), .int (g_fw N1 x2 (N1.2.1 203 x1.toNatClampNeg) (f_less y1 ((N1.2.1 203 x1.toNatClampNeg) - (2 * (S.2.1 2200 (9 * x2.toNatClampNeg + 4))))))]) (rest := []) (v := 0) (dd D68_ok 65 rfl) pl3_56 rfl (Nat.le_of_ble_eq_true rfl) (ms51 xs) rfl (by decide) (((k.2.1.mv e1).mv e2).mv e3).l3 ((w3).mono ?_) rfl
    rintro v A N4 ⟨rfl, e4, rfl, w4⟩
    refine cl_aload (dd D68_ok 66 rfl) rfl ?_
    refine cl_aload_n (dd D68_ok 67 rfl) rfl ?_
    refine cl_call (as := [cl_rf A 5 x2]) (rest := []) (v := x1) (dd D68_ok 68 rfl) pl3_273 rfl (Nat.le_of_ble_eq_true rfl) (ms76 xs) rfl (by decide) (((w1.1.mv e2).mv e3).mv e4).l1 ((w4).mono ?_) rfl
    rintro v A N5 ⟨rfl, e5, rfl, w5⟩
    exact cl_vret (dd D68_ok 69 rfl) rfl w5
  · refine cl_aload (dd D68_ok 44 rfl) rfl ?_
    refine cl_iload (dd D68_ok 45 rfl) rfl ?_
    refine cl_call (as := [.int y2]) (rest := []) (v := x1) (dd D68_ok 46 rfl) pl3_267 rfl (Nat.le_of_ble_eq_true rfl) (ms75 xs) rfl (by decide) (w1.1.mv e2).l1 (((w2.2 c1)).mono ?_) rfl
    rintro v A N6 ⟨rfl, e6, y6, rfl, w6⟩
    refine cl_iload_n (dd D68_ok 47 rfl) rfl ?_
    refine cl_iadd (dd D68_ok 48 rfl) ?_
    refine cl_goto (tgt := 102) (dd D68_ok 49 rfl) (by decide) ?_
    refine cl_istore (dd D68_ok 57 rfl) (Nat.le_of_ble_eq_true rfl) ?_
    refine cl_aload_n (dd D68_ok 58 rfl) rfl ?_
    refine cl_aload_n (dd D68_ok 59 rfl) rfl ?_
    refine cl_iload (dd D68_ok 60 rfl) rfl ?_
    refine cl_iload (dd D68_ok 61 rfl) rfl ?_
    refine cl_iload_n (dd D68_ok 62 rfl) rfl ?_
    refine cl_iadd (dd D68_ok 63 rfl) ?_
    refine cl_iload (dd D68_ok 64 rfl) rfl ?_
    refine cl_call (as := [cl_rf A 5 x2, .int (y6 + (S.2.1 2200 (9 * x2.toNatClampNeg + 4))), .int (y2 + (S.2.1 2200 (9 * x2.toNatClampNeg + 4))), .int (g_fw N1 x2 (N1.2.1 203 x1.toNatClampNeg) (f_less y1 ((N1.2.1 203 x1.toNatClampNeg) - (2 * (S.2.1 2200 (9 * x2.toNatClampNeg + 4))))))]) (rest := []) (v := 0) (dd D68_ok 65 rfl) pl3_56 rfl (Nat.le_of_ble_eq_true rfl) (ms51 xs) rfl (by decide) (((k.2.1.mv e1).mv e2).mv e6).l3 ((w6).mono ?_) rfl
    rintro v A N7 ⟨rfl, e7, rfl, w7⟩
    refine cl_aload (dd D68_ok 66 rfl) rfl ?_
    refine cl_aload_n (dd D68_ok 67 rfl) rfl ?_
    refine cl_call (as := [cl_rf A 5 x2]) (rest := []) (v := x1) (dd D68_ok 68 rfl) pl3_273 rfl (Nat.le_of_ble_eq_true rfl) (ms76 xs) rfl (by decide) (((w1.1.mv e2).mv e6).mv e7).l1 ((w7).mono ?_) rfl
    rintro v A N8 ⟨rfl, e8, rfl, w8⟩
    exact cl_vret (dd D68_ok 69 rfl) rfl w8
theorem lit_0 : (0 : Int32).toInt = 0 := by decide
theorem nz_le {B : Nat} {x : Int32} (h : nz B x) : 0 ≤ x := by
  rw [Int32.le_iff_toInt_le, lit_0]
  exact h.1
/-- putFloat -/
theorem kk_putFloat {xs : List Int32} {K : Nat → Prop} {A : cl_A} {S : cl_S} {P M : md_S} {nn W i f n D B : Nat} {kn : bt} {ox oy : Int32} {l T : List Nat} (hLa : la_T S P nn W) (hSP : SP P nn W) (hst : si_st P M T) (hnT : n ∈ T) (hfw : si_fw S P M i f ox oy) (hib : f_boxy P i) (hi : i < nn) (hfl : si_fl S P M f ox oy l B) (hl59 : l.length < 59) (hlm : ∀ m ∈ l, m < nn) (hld : l.Nodup) (hdis : ∀ m ∈ l, m ∉ n :: bt_pre kn) (hy : S.2.1 204 f = M.1 37 + oy) (hyB : nz B (M.1 37)) (hbw : nb B (M.1 55)) (hc : chd P nn i f n kn) (h13 : ¬ P.2 13 n = 0) (hs : f_of P (nI n) 1 = 1 ∨ f_of P (nI n) 1 = 2) (hf13 : f < 13) (hox : nb ((f + 1) * 67108864 + 59) ox) (hoy : nb ((f + 1) * 67108864 + 59) oy) (hB : B + cs P n kn ≤ 67108000) (hLE : LE xs K A P nn W n kn) (hD : 31 + 12 * bt_ht kn ≤ D) : ∀ Q', (∀ S', FR P W (n :: bt_pre kn) (n :: (l ++ bt_pre kn)) f S S' → (∀ g, 100 ≤ g → g < 500 → g ∉ [102, 103, 104, 105] → S'.2.1 g f = S.2.1 g f) → si_fl S' P (f_putFloat_M M l.length n) f ox oy (l ++ [n]) (B + cs P n kn) → (S'.2.1 0 n = (f_putFloat_M M l.length n).2 15 n + ox ∧ S'.2.1 1 n = (f_putFloat_M M l.length n).2 16 n + oy ∧ S'.2.1 2 n = P.2 17 n ∧ S'.2.1 3 n = P.2 18 n ∧ S'.2.1 511 n = 1 ∧ lo_F P W S' kn ((f_putFloat_M M l.length n).2 15 n + ox + f_edges P (nI n)) ((f_putFloat_M M l.length n).2 16 n + oy + f_edges P (nI n))) → Q' none A S') → cl_C xs K D 68 [cl_rf A 3 0, cl_rf A 2 (nI f), cl_rf A 5 (nI n)] A S Q' := by
  intro Q' hQ
  obtain ⟨c1, c2, c3, c4, c5, c6, c7, c8, c9, c10, c11, en, c12, c13, c14⟩ := hc
  have hT := hLa.1
  have h60 := hT.1
  have cn : (nI n).toNatClampNeg = n := hT.cl c1
  have cf : (nI f).toNatClampNeg = f := nI_clamp (by omega)
  have hSPn := hSP.1 n c1
  have hSPi := hSP.1 i hi
  have hbn : f_boxy P n := Or.inl c10
  have hw := hSPn.2.2.2.2.2.2.1 hbn
  have hm := hSPn.1
  have hsz : ¬ f_of P (nI n) 8 = 0 := by
    intro q
    have := hSPn.2.2.2.1
    rw [q, lit_0] at this
    omega
  have hin := inner_nz hSPi (by omega) hib
  have hm2 : (2 * f_of P (nI n) 4).toInt = 2 * (f_of P (nI n) 4).toInt := two_toInt ⟨by omega, by omega⟩
  have hdep := dep_12 hf13
  have hbox : bd ox := nb_bd hox hdep
  have hboy : bd oy := nb_bd hoy hdep
  obtain ⟨f1, f2, f3, f4, f5, f6, f7, f8⟩ := hfl
  obtain ⟨w1, w2, w3, w4, w5, w6, w7, w8⟩ := hfw
  obtain ⟨d', rfl⟩ : ∃ d', D = d' + 2 + 1 := ⟨D - 3, by omega⟩
  refine cl_intro (ms68 xs) (Nat.le_of_ble_eq_true rfl) (fun h0 => vc68_0 ⟨hT.n c1, hT.2.1, ?_⟩)
  refine kk_textWidth hT c1 c3 c4 c5 c7 c9 hsz (by omega) _ (fun e => ⟨rfl, rfl, _, rfl, (hT.2.2.1 f hf13).mv rfl, ?_⟩)
  have hF1 : FR P W (n :: bt_pre kn) (n :: (l ++ bt_pre kn)) f S (cl_ru S e) := cl_ru_FR e
  have hX1 := cl_ru_X S e
  have hLa1 : la_T (cl_ru S e) P nn W := hLa.fr hF1
  have eq : ∀ g, g ≠ 600 → g ≠ 601 → (cl_ru S e).2.1 g = S.2.1 g := fun g h1 h2 => hX1.2.2 g (by simp [h1, h2])
  generalize cl_ru S e = S1 at hF1 hX1 hLa1 eq
  have hT1 := hLa1.1
  rw [cf, cn, hT.h4 c1, eq 203 (by decide) (by decide), eq 204 (by decide) (by decide), eq 104 (by decide) (by decide), w4, w5]
  have hwide : g_fw S1 (nI n) (f_inner P (nI i)) (f_less (f_ol P n kn + 2 * f_edges P (nI n)) (f_inner P (nI i) - 2 * f_of P (nI n) 4)) = P.2 17 n := by
    unfold g_fw
    rw [g_told_eq hT1 c1 hSPn hin, hT1.frame c1, c11]
    unfold f_wv
    rw [if_pos (boxy_n4 (by omega) c10)]
    congr 1
    unfold f_wideOf
    rw [c8]
    by_cases q : f_told P (nI n) (f_inner P (nI i)) = -1
    · rw [if_pos q, if_neg (fun r => r q), if_neg h13, less_comm]
    · rw [if_neg q, if_pos q]
  simp only [hwide]
  have htops : nz B (sp_tops (md_flts M l.length) (M.1 37)) := fold_nz (g := fun q => q.2.2.1) _ _ (fun q hq => (f8 q hq).2.2.1) hyB
  have htops0 : nz B (sp_tops (md_flts M l.length) 0) := fold_nz (g := fun q => q.2.2.1) _ _ (fun q hq => (f8 q hq).2.2.1) ⟨by rw [lit_0]; omega, by rw [lit_0]; omega⟩
  have hrw : f_more (S.2.1 204 f) (S.2.1 104 f) = sp_tops (md_flts M l.length) (M.1 37) + oy := by
    rw [hy, f6, off_more (nz_bd hyB (by omega)) (nz_bd htops0 (by omega)) hboy, ← sp_tops_0 hyB.1]
  rw [hrw]
  have hwm : nz 250100 (P.2 17 n + 2 * f_of P (nI n) 4) := by
    unfold nz at *
    rw [off_toInt ⟨by omega, by omega⟩ ⟨by omega, by omega⟩]
    omega
  have hch1 : chn (S1.2.1 515) l (S1.2.1 102 f) := by rw [eq 515 (by decide) (by decide), eq 102 (by decide) (by decide)]; exact f3
  have hfl1 : fl_L S1 P ox oy l (md_flts M l.length) := fl_L_mv (fun m _ => by rw [eq 0 (by decide) (by decide), eq 1 (by decide) (by decide), eq 2 (by decide) (by decide), eq 3 (by decide) (by decide)]; exact ⟨rfl, rfl, rfl, rfl⟩) f5
  have he0 : S1.2.1 100 f = ox := by rw [eq 100 (by decide) (by decide)]; exact w7
  have he1 : S1.2.1 101 f = M.1 55 + ox := by rw [eq 101 (by decide) (by decide)]; exact w8
  have hbdw : bd (M.1 55) := nb_bd hbw (by omega)
  refine cl_C.le (d := 0 + 4) (by omega) (kk_room hT1 hf13 (nz_bd hwm (by decide)) hbdw hbox hboy hch1 hfl1 hlm he0 he1 (nz_bd htops (by omega)) (nz_le htops) (by omega) _ ⟨rfl, rfl, _, rfl, ?_⟩)
  have eAt : sp_room (M.1 55) (P.2 17 n + 2 * f_of P (nI n) 4) (md_flts M l.length) (sp_tops (md_flts M l.length) (M.1 37)) = f_pfAt M l.length n := by
    unfold f_pfAt
    rw [hst.of, hst.1 17 (by decide)]
  rw [eAt]
  have hAt : nz B (f_pfAt M l.length n) := by
    rw [← eAt]
    exact room_nz f8 _ _ htops
  have hed := edges_nb (y := f_pfAt M l.length n) (md_flts M l.length) (0, M.1 55) f8 ⟨by show _ ≤ (0 : Int32).toInt; rw [lit_0]; omega, by show (0 : Int32).toInt ≤ _; rw [lit_0]; omega⟩ hbw
  have hed : nb B (sp_edges (M.1 55) (f_pfAt M l.length n) (md_flts M l.length)).1 ∧ nb B (sp_edges (M.1 55) (f_pfAt M l.length n) (md_flts M l.length)).2 := hed
  rw [hT1.h1 c1]
  have hcs : 600000 ≤ cs P n kn := by unfold cs; omega
  -- what is left once x is known
  have fin : ∀ (X : Int32), X = f_pfLeft M l.length n + f_of P (nI n) 4 + ox → nb (B + 250100) (f_pfLeft M l.length n) → cl_C xs K (d' + 2) 51 [cl_rf A 3 0, cl_rf A 5 (nI n), .int X, .int (f_pfAt M l.length n + oy + f_of P (nI n) 4), .int (P.2 17 n)] A S1 (fun v A' N4 => A' = A ∧ N4.1 = S1.1 ∧ v = none ∧ (cl_C xs K (d' + 2) 76 [cl_rf A 1 (nI f), cl_rf A 5 (nI n)] A N4 (fun v A' N5 => A' = A ∧ N5.1 = N4.1 ∧ v = none ∧ (Q' none A N5)))) := by
    intro X hX hLb
    have hY : f_pfAt M l.length n + oy + f_of P (nI n) 4 = f_pfAt M l.length n + f_of P (nI n) 4 + oy := by grind
    have hde := dep_le c13
    have hXb : nb ((en + 1) * 67108864) X := by
      rw [hX]
      refine nb_add (nb_add hLb (nz_nb hm) (Nat.le_refl _) (by omega) (by omega)) hox ?_ (by omega) hdep
      omega
    have hYb : nb ((en + 1) * 67108864) (f_pfAt M l.length n + oy + f_of P (nI n) 4) := by
      rw [hY]
      refine nb_add (nb_add (nz_nb hAt) (nz_nb hm) (Nat.le_refl _) (by omega) (by omega)) hoy ?_ (by omega) hdep
      omega
    refine hLE (d' + 2) en S1 _ _ (by omega) c12 (by omega) hLa1 hXb hYb _ (fun S2 g1 g2 g3 g4 g5 g6 g7 g8 => ⟨rfl, g1.1.1, rfl, ?_⟩)
    have hLa2 : la_T S2 P nn W := hLa1.fr g1
    have hT2 := hLa2.1
    have nlT : ∀ m ∈ l, ¬ inT P W (n :: bt_pre kn) m := by
      intro m hm q
      rcases q with q | ⟨w, m', q1, _⟩
      · exact hdis m hm q
      · have := hlm m hm; omega
    have hfl2 : fl_L S2 P ox oy l (md_flts M l.length) := fl_L_mv (fun m hm => ⟨g1.2.1 m (nlT m hm) 0 (by decide), g1.2.1 m (nlT m hm) 1 (by decide), g1.2.1 m (nlT m hm) 2 (by decide), g1.2.1 m (nlT m hm) 3 (by decide)⟩) hfl1
    have ef : ∀ g, 100 ≤ g → g < 500 → S2.2.1 g f = S.2.1 g f := fun g a1 a2 => by rw [g1.2.2.2.2.2 g a1 a2 f c13, eq g (by omega) (by omega)]
    have e515 : ∀ m ∈ l, S2.2.1 515 m = S.2.1 515 m := fun m hm => by
      rw [g1.2.2.2.2.1 m (fun q => hdis m hm (List.mem_cons_of_mem _ q)), eq 515 (by decide) (by decide)]
    have hch2 : chn (S2.2.1 515) l (S2.2.1 102 f) := by
      rw [ef 102 (by decide) (by decide)]
      exact chn_mv e515 f3
    refine cl_C.le (d := 0 + 2) (by omega) (kk_fadd (hT2.2.2.1 f hf13) hf13 (hT2.n c1) (by omega) (fun m hm => ⟨by have := hlm m hm; omega, hT2.n (hlm m hm)⟩) hld (fun q => hdis n q (by simp)) hch2 (by rw [ef 103 (by decide) (by decide)]; exact f4) _ (fun S3 k1 k2 k3 k4 k5 k6 k7 => ⟨rfl, k1.1, rfl, ?_⟩))
    have eq3 : ∀ g, g ∉ [102, 103, 104, 105, 515] → S3.2.1 g = S2.2.1 g := k1.2.2
    have hF3 : FR P W (n :: bt_pre kn) (n :: (l ++ bt_pre kn)) f S2 S3 := by
      refine ⟨k1.sub (by decide), fun b _ g hg => by rw [eq3 g (by simp; omega)], fun b _ => by rw [eq3 2 (by decide), eq3 3 (by decide)]; exact ⟨rfl, rfl⟩, fun m _ => by rw [eq3 511 (by decide)], fun m hm => ?_, fun g a1 a2 f' hf' => ?_⟩
      · simp only [List.mem_cons, List.mem_append, not_or] at hm
        exact k3 m hm.1 hm.2.1
      · by_cases q : g = 102 ∨ g = 103 ∨ g = 104 ∨ g = 105
        · exact k2 g q f' (by omega)
        · rw [eq3 g (by simp; omega)]
    have hF : FR P W (n :: bt_pre kn) (n :: (l ++ bt_pre kn)) f S S3 := (hF1.tr (g1.sub (fun x hx => hx) (fun x hx => by simp [hx]) (by omega))).tr hF3
    have e15 : (f_putFloat_M M l.length n).2 15 n = f_pfLeft M l.length n + f_of P (nI n) 4 := by rw [pf_15, hst.of]
    have e16 : (f_putFloat_M M l.length n).2 16 n = f_pfAt M l.length n + f_of P (nI n) 4 := by rw [pf_16, hst.of]
    have b0 : S3.2.1 0 n = X := by rw [eq3 0 (by decide)]; exact g2
    have b1 : S3.2.1 1 n = f_pfAt M l.length n + oy + f_of P (nI n) 4 := by rw [eq3 1 (by decide)]; exact g3
    have b2 : S3.2.1 2 n = P.2 17 n := by rw [eq3 2 (by decide)]; exact g4
    have b3 : S3.2.1 3 n = P.2 18 n := by rw [eq3 3 (by decide)]; exact g5
    have ht2 : g_top S2 (nI n) = f_pfAt M l.length n + oy := by
      unfold g_top
      rw [hT2.cl c1, hT2.h4 c1, g3]
      grind
    have hend : g_end S2 (nI n) = f_pfAt M l.length n + P.2 18 n + 2 * f_of P (nI n) 4 + oy := by
      unfold g_end
      rw [hT2.cl c1, hT2.h4 c1, g3, g5]
      grind
    have hh18 : nz (cs P n kn - 300000) (P.2 18 n) := g8
    have hm2z : nz 100 (2 * f_of P (nI n) 4) := by
      unfold nz at *
      omega
    have hnew : pf_new M l.length n = (f_pfLeft M l.length n, f_pfLeft M l.length n + (P.2 17 n + 2 * f_of P (nI n) 4), f_pfAt M l.length n, f_pfAt M l.length n + P.2 18 n + 2 * f_of P (nI n) 4, f_of P (nI n) 1) := by
      unfold pf_new
      simp only [hst.of, hst.1 17 (by decide), hst.2 n hnT]
    have hnewb : fl_b (B + cs P n kn) (pf_new M l.length n) := by
      rw [hnew]
      refine ⟨nb_mono hLb (by omega), nb_add hLb (nz_nb hwm) (by omega) (by omega) (by decide), nz_mono hAt (by omega), nz_add (nz_add hAt hh18 (Nat.le_refl _) (by omega) (by omega)) hm2z (by omega) (by omega) (by decide)⟩
    have hlen : (l ++ [n]).length = l.length + 1 := by simp
    refine hQ S3 hF ?_ ?_ ?_
    · intro g a1 a2 a3
      rw [eq3 g (by simp at a3 ⊢; omega), ef g a1 a2]
    · rw [si_fl, hlen, pf_flts]
      refine ⟨pf_46 M _ n, by omega, k4, by rw [lst_app]; exact k5, fl_L_app (fl_L_mv (fun m _ => by rw [eq3 0 (by decide), eq3 1 (by decide), eq3 2 (by decide), eq3 3 (by decide)]; exact ⟨rfl, rfl, rfl, rfl⟩) hfl2) ⟨?_, trivial⟩, ?_, ?_, ?_⟩
      · unfold fl_R
        have hb' := hnewb
        rw [hnew] at hb' ⊢
        obtain ⟨p1, p2, p3, p4⟩ := hb'
        refine ⟨?_, ?_, ?_, ?_, rfl, hs, nb_bd p1 (by omega), nb_bd p2 (by omega), nz_bd p3 (by omega), nz_bd p4 (by omega)⟩
        · rw [b0, hX]; grind
        · rw [b0, hX, b2]; grind
        · rw [b1]; grind
        · rw [b1, b3]; grind
      · rw [k6, ef 104 (by decide) (by decide), f6, ht2, sp_tops_app, hnew, off_more (nz_bd htops0 (by omega)) (nz_bd hAt (by omega)) hboy]
      · have hends : nz B (lb_end (md_flts M l.length) 0) := fold_nz (g := fun q => q.2.2.2.1) _ _ (fun q hq => (f8 q hq).2.2.2) ⟨by rw [lit_0]; omega, by rw [lit_0]; omega⟩
        rw [k7, ef 105 (by decide) (by decide), f7, hend, lb_end_app, hnew]
        have hb' := hnewb
        rw [hnew] at hb'
        exact off_more (nz_bd hends (by omega)) (nz_bd hb'.2.2.2 (by omega)) hboy
      · intro q hq
        rcases List.mem_append.mp hq with hq | hq
        · exact (f8 q hq).mono (by omega)
        · rw [List.mem_singleton.mp hq]
          exact hnewb
    · rw [e15, e16]
      refine ⟨by rw [b0, hX], by rw [b1]; grind, b2, b3, by rw [eq3 511 (by decide)]; exact g6, ?_⟩
      rw [← hX, ← hY]
      exact lo_F.mv (fun b _ => by rw [eq3 0 (by decide), eq3 1 (by decide), eq3 2 (by decide), eq3 3 (by decide)]; exact ⟨rfl, rfl, rfl, rfl⟩) (fun m _ => by rw [eq3 511 (by decide)]) g7
  refine ⟨fun c => ?_, fun c => ?_⟩
  · refine cl_C.le (d := 0 + 3) (by omega) (kk_right hT1 hf13 (nz_bd hAt (by omega)) hbdw hbox hboy hch1 hfl1 hlm he1 _ ⟨rfl, rfl, _, rfl, ?_⟩)
    have eL : f_pfLeft M l.length n = (sp_edges (M.1 55) (f_pfAt M l.length n) (md_flts M l.length)).2 - (P.2 17 n + 2 * f_of P (nI n) 4) := by
      unfold f_pfLeft
      rw [hst.of, hst.of, if_pos c, hst.1 17 (by decide)]
    refine fin _ ?_ ?_
    · rw [eL]; grind
    · rw [eL]
      exact nb_sub hed.2 (nz_nb hwm) (Nat.le_refl _) (by omega) (by decide)
  · refine cl_C.le (d := 0 + 3) (by omega) (kk_left hT1 hf13 (nz_bd hAt (by omega)) hbdw hbox hboy hch1 hfl1 hlm he0 _ ⟨rfl, rfl, _, rfl, ?_⟩)
    have eL : f_pfLeft M l.length n = (sp_edges (M.1 55) (f_pfAt M l.length n) (md_flts M l.length)).1 := by
      unfold f_pfLeft
      rw [hst.of, if_neg c]
    refine fin _ ?_ ?_
    · rw [eL]; grind
    · rw [eL]
      exact nb_mono hed.1 (by omega)
