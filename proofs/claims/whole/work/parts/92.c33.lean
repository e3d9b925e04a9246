/-! the class: layElement, its beginning (by hand: wip/whole/gen/c33.py) -/
set_option maxHeartbeats 1000000 in
theorem vc51_0 {xs : List Int32} {K : Nat → Prop} {h0 : am_H} {d : Nat} {Q : Option Value → cl_A → cl_S → Prop} {A : cl_A} {S : cl_S} {x1 : Int32} {x2 : Int32} {x3 : Int32} {x4 : Int32}
    (k : (cl_n S x1) ∧ ((((S.2.1 503 x1.toNatClampNeg) < 0) → Q none A (cl_up (cl_up (cl_up (cl_up S 511 x1.toNatClampNeg 1) 0 x1.toNatClampNeg x2) 1 x1.toNatClampNeg x3) 2 x1.toNatClampNeg x4)) ∧ (¬ ((S.2.1 503 x1.toNatClampNeg) < 0) → (cl_z S) ∧ ((((S.2.1 503 x1.toNatClampNeg) < 13) → (vp_in (S.2.1 503 x1.toNatClampNeg) 13) ∧ ((cl_f S (S.2.1 503 x1.toNatClampNeg)) ∧ (cl_C xs K (d + 2) 52 [cl_rf A 2 (S.2.1 503 x1.toNatClampNeg), cl_rf A 5 x1] A (cl_up (cl_up (cl_up (cl_up S 511 x1.toNatClampNeg 1) 0 x1.toNatClampNeg x2) 1 x1.toNatClampNeg x3) 2 x1.toNatClampNeg x4) (fun v A' N1 => A' = A ∧ N1.1 = S.1 ∧ v = none ∧ (((¬ (N1.2.1 509 x1.toNatClampNeg) = 2) → cl_C xs K (d + 2) 64 [cl_rf A 3 0, cl_rf A 2 (S.2.1 503 x1.toNatClampNeg)] A N1 (fun v A' N2 => A' = A ∧ N2.1 = N1.1 ∧ ∃ y2, v = some (.int y2) ∧ (Q none A (cl_up N2 3 x1.toNatClampNeg (g_fh N2 x1 y2))))) ∧ (¬ (¬ (N1.2.1 509 x1.toNatClampNeg) = 2) → cl_C xs K (d + 2) 56 [cl_rf A 3 0, cl_rf A 2 (S.2.1 503 x1.toNatClampNeg)] A N1 (fun v A' N3 => A' = A ∧ N3.1 = N1.1 ∧ ∃ y3, v = some (.int y3) ∧ (Q none A (cl_up N3 3 x1.toNatClampNeg (g_fh N3 x1 y3)))))))))) ∧ (¬ ((S.2.1 503 x1.toNatClampNeg) < 13) → Q none A (cl_up (cl_up (cl_up (cl_up S 511 x1.toNatClampNeg 1) 0 x1.toNatClampNeg x2) 1 x1.toNatClampNeg x3) 2 x1.toNatClampNeg x4)))))) :
    cl_wp xs K h0 (d + 2) Q I51 0 [some (cl_rf A 3 0), some (cl_rf A 5 x1), some (.int x2), some (.int x3), some (.int x4), none, none] [] A S := by
  refine cl_aload_n (dd D51_ok 0 rfl) rfl ?_
  refine cl_iconst (v := 1) (dd D51_ok 1 rfl) (by decide) ?_
  refine cl_pI (g := 511) (dd D51_ok 2 rfl) pl3_63 (by decide) (by decide) rfl rfl rfl rfl rfl k.1.l5 ?_
  refine cl_aload_n (dd D51_ok 3 rfl) rfl ?_
  refine cl_getO (g := 0) (dd D51_ok 4 rfl) pl3_140 (by decide) (by decide) (by decide) rfl k.1.l5 ?_
  refine cl_iload_n (dd D51_ok 5 rfl) rfl ?_
  refine cl_pI (g := 0) (dd D51_ok 6 rfl) pl3_141 (by decide) (by decide) rfl rfl rfl rfl rfl k.1.l0 ?_
  refine cl_aload_n (dd D51_ok 7 rfl) rfl ?_
  refine cl_getO (g := 0) (dd D51_ok 8 rfl) pl3_140 (by decide) (by decide) (by decide) rfl k.1.l5 ?_
  refine cl_iload_n (dd D51_ok 9 rfl) rfl ?_
  refine cl_pI (g := 1) (dd D51_ok 10 rfl) pl3_144 (by decide) (by decide) rfl rfl rfl rfl rfl k.1.l0 ?_
  refine cl_aload_n (dd D51_ok 11 rfl) rfl ?_
  refine cl_getO (g := 0) (dd D51_ok 12 rfl) pl3_140 (by decide) (by decide) (by decide) rfl k.1.l5 ?_
  refine cl_iload (dd D51_ok 13 rfl) rfl ?_
  refine cl_pI (g := 2) (dd D51_ok 14 rfl) pl3_132 (by decide) (by decide) rfl rfl rfl rfl rfl k.1.l0 ?_
  refine cl_aload_n (dd D51_ok 15 rfl) rfl ?_
  refine cl_gI (g := 503) (e := S.2.1 503 x1.toNatClampNeg) (dd D51_ok 16 rfl) pl3_147 (by decide) (by decide) (by decide) rfl rfl k.1.l5 (by first | rfl | simp [cl_up]) ?_
  refine cl_if_lt (tgt := 49) (dd D51_ok 17 rfl) (by decide) (fun c1 => ?_) (fun c1 => ?_)
  · exact cl_vret (dd D51_ok 24 rfl) rfl (k.2.1 c1)
  · refine cl_aload_n (dd D51_ok 18 rfl) rfl ?_
    refine cl_gI (g := 503) (e := S.2.1 503 x1.toNatClampNeg) (dd D51_ok 19 rfl) pl3_147 (by decide) (by decide) (by decide) rfl rfl k.1.l5 (by first | rfl | simp [cl_up]) ?_
    refine cl_aload_n (dd D51_ok 20 rfl) rfl ?_
    refine cl_getO (g := 24) (dd D51_ok 21 rfl) pl3_20 (by decide) (by decide) (by decide) rfl (k.2.2 c1).1.l3 ?_
    refine cl_len (f := 24) (n := 13) (dd D51_ok 22 rfl) (by decide) (k.2.2 c1).1.l24 (Or.inr (Or.inr (Or.inr ⟨_, by decide, rfl⟩))) (by show ((List.range 13).map _).length = 13; simp) ?_
    rw [show (nI 13 : Int32) = 13 from rfl]
    refine cl_icmp_lt (tgt := 50) (dd D51_ok 23 rfl) (by decide) (fun c2 => ?_) (fun c2 => ?_)
    · refine cl_aload_n (dd D51_ok 25 rfl) rfl ?_
      refine cl_getO (g := 24) (dd D51_ok 26 rfl) pl3_20 (by decide) (by decide) (by decide) rfl (k.2.2 c1).1.l3 ?_
      refine cl_aload_n (dd D51_ok 27 rfl) rfl ?_
      refine cl_gI (g := 503) (e := S.2.1 503 x1.toNatClampNeg) (dd D51_ok 28 rfl) pl3_147 (by decide) (by decide) (by decide) rfl rfl k.1.l5 (by first | rfl | simp [cl_up]) ?_
      refine cl_flv (dd D51_ok 29 rfl) (k.2.2 c1).1 ((k.2.2 c1).2.1 c2).1 ?_
      refine cl_astore (dd D51_ok 30 rfl) (Nat.le_of_ble_eq_true rfl) ?_
      refine cl_aload (dd D51_ok 31 rfl) rfl ?_
      refine cl_aload_n (dd D51_ok 32 rfl) rfl ?_
      refine cl_call (as := [cl_rf A 5 x1]) (rest := []) (v := S.2.1 503 x1.toNatClampNeg) (dd D51_ok 33 rfl) pl3_150 rfl (Nat.le_of_ble_eq_true rfl) (ms52 xs) rfl (by decide) ((k.2.2 c1).2.1 c2).2.1.l2 ((((k.2.2 c1).2.1 c2).2.2).mono ?_) rfl
      rintro v A N1 ⟨rfl, e1, rfl, w1⟩
      refine cl_aload_n (dd D51_ok 34 rfl) rfl ?_
      refine cl_gI (g := 509) (e := N1.2.1 509 x1.toNatClampNeg) (dd D51_ok 35 rfl) pl3_60 (by decide) (by decide) (by decide) rfl rfl (k.1.mv e1).l5 rfl ?_
      refine cl_iconst (v := 2) (dd D51_ok 36 rfl) (by decide) ?_
      refine cl_icmp_ne (tgt := 84) (dd D51_ok 37 rfl) (by decide) (fun c3 => ?_) (fun c3 => ?_)
      · refine cl_aload_n (dd D51_ok 42 rfl) rfl ?_
        refine cl_aload (dd D51_ok 43 rfl) rfl ?_
        refine cl_call (as := [cl_rf A 2 (S.2.1 503 x1.toNatClampNeg)]) (rest := []) (v := 0) (dd D51_ok 44 rfl) pl3_157 rfl (Nat.le_of_ble_eq_true rfl) (ms64 xs) rfl (by decide) ((k.2.2 c1).1.mv e1).l3 (((w1.1 c3)).mono ?_) rfl
        rintro v A N2 ⟨rfl, e2, y2, rfl, w2⟩
        refine cl_istore (dd D51_ok 45 rfl) (Nat.le_of_ble_eq_true rfl) ?_
        refine cl_aload_n (dd D51_ok 46 rfl) rfl ?_
        refine cl_getO (g := 0) (dd D51_ok 47 rfl) pl3_140 (by decide) (by decide) (by decide) rfl ((k.1.mv e1).mv e2).l5 ?_
        refine cl_aload_n (dd D51_ok 48 rfl) rfl ?_
        refine cl_iload (dd D51_ok 49 rfl) rfl ?_
        refine cl_callP (r := .int (g_fh N2 x1 y2)) (as := [.int y2]) (rest := [cl_rf A 0 x1]) (v := x1) (dd D51_ok 50 rfl) pl3_160 rfl (Nat.le_of_ble_eq_true rfl) (ms98 xs) rfl (by decide) ((k.1.mv e1).mv e2).l5 (cc_g_fh (S := N2) ((k.1.mv e1).mv e2)) rfl ?_
        refine cl_pI (g := 3) (dd D51_ok 51 rfl) pl3_137 (by decide) (by decide) rfl rfl rfl rfl rfl ((k.1.mv e1).mv e2).l0 ?_
        exact cl_vret (dd D51_ok 52 rfl) rfl w2
      · refine cl_aload_n (dd D51_ok 38 rfl) rfl ?_
        refine cl_aload (dd D51_ok 39 rfl) rfl ?_
        refine cl_call (as := [cl_rf A 2 (S.2.1 503 x1.toNatClampNeg)]) (rest := []) (v := 0) (dd D51_ok 40 rfl) pl3_153 rfl (Nat.le_of_ble_eq_true rfl) (ms56 xs) rfl (by decide) ((k.2.2 c1).1.mv e1).l3 (((w1.2 c3)).mono ?_) rfl
        rintro v A N3 ⟨rfl, e3, y3, rfl, w3⟩
        refine cl_goto (tgt := 90) (dd D51_ok 41 rfl) (by decide) ?_
        refine cl_istore (dd D51_ok 45 rfl) (Nat.le_of_ble_eq_true rfl) ?_
        refine cl_aload_n (dd D51_ok 46 rfl) rfl ?_
        refine cl_getO (g := 0) (dd D51_ok 47 rfl) pl3_140 (by decide) (by decide) (by decide) rfl ((k.1.mv e1).mv e3).l5 ?_
        refine cl_aload_n (dd D51_ok 48 rfl) rfl ?_
        refine cl_iload (dd D51_ok 49 rfl) rfl ?_
        refine cl_callP (r := .int (g_fh N3 x1 y3)) (as := [.int y3]) (rest := [cl_rf A 0 x1]) (v := x1) (dd D51_ok 50 rfl) pl3_160 rfl (Nat.le_of_ble_eq_true rfl) (ms98 xs) rfl (by decide) ((k.1.mv e1).mv e3).l5 (cc_g_fh (S := N3) ((k.1.mv e1).mv e3)) rfl ?_
        refine cl_pI (g := 3) (dd D51_ok 51 rfl) pl3_137 (by decide) (by decide) rfl rfl rfl rfl rfl ((k.1.mv e1).mv e3).l0 ?_
        exact cl_vret (dd D51_ok 52 rfl) rfl w3
    · exact cl_vret (dd D51_ok 24 rfl) rfl ((k.2.2 c1).2.2 c2)
/-- what Flow.begin leaves -/
def bS (S : cl_S) (x0 x1 : Int32) : cl_S := cl_up (cl_up (cl_up (cl_up (cl_up (cl_up (cl_up (cl_up (cl_up (cl_up (cl_up (cl_up (cl_up (cl_up (cl_up (cl_up (cl_up (cl_up S 200 x0.toNatClampNeg x1) 201 x0.toNatClampNeg ((S.2.1 0 x1.toNatClampNeg) + (g_frame S x1))) 202 x0.toNatClampNeg ((S.2.1 1 x1.toNatClampNeg) + (g_frame S x1))) 203 x0.toNatClampNeg (f_more 0 ((S.2.1 2 x1.toNatClampNeg) - (2 * (g_frame S x1))))) 204 x0.toNatClampNeg ((S.2.1 1 x1.toNatClampNeg) + (g_frame S x1))) 205 x0.toNatClampNeg 0) 206 x0.toNatClampNeg 0) 207 x0.toNatClampNeg (-1)) 208 x0.toNatClampNeg (-1)) 100 x0.toNatClampNeg ((S.2.1 0 x1.toNatClampNeg) + (g_frame S x1))) 101 x0.toNatClampNeg (((S.2.1 0 x1.toNatClampNeg) + (g_frame S x1)) + (f_more 0 ((S.2.1 2 x1.toNatClampNeg) - (2 * (g_frame S x1)))))) 102 x0.toNatClampNeg (-1)) 103 x0.toNatClampNeg (-1)) 104 x0.toNatClampNeg ((S.2.1 1 x1.toNatClampNeg) + (g_frame S x1))) 105 x0.toNatClampNeg ((S.2.1 1 x1.toNatClampNeg) + (g_frame S x1))) 400 x0.toNatClampNeg (-1)) 401 x0.toNatClampNeg (-1)) 404 x0.toNatClampNeg 0
theorem bS_200 {S : cl_S} {i e : Nat} {x0 x1 : Int32} (h0 : x0.toNatClampNeg = e) (h1 : x1.toNatClampNeg = i) : (bS S x0 x1).2.1 200 e = x1 := by
  subst h0 h1
  simp [bS, cl_up]
theorem bS_201 {S : cl_S} {i e : Nat} {x0 x1 : Int32} (h0 : x0.toNatClampNeg = e) (h1 : x1.toNatClampNeg = i) : (bS S x0 x1).2.1 201 e = S.2.1 0 i + g_frame S x1 := by
  subst h0 h1
  simp [bS, cl_up]
theorem bS_202 {S : cl_S} {i e : Nat} {x0 x1 : Int32} (h0 : x0.toNatClampNeg = e) (h1 : x1.toNatClampNeg = i) : (bS S x0 x1).2.1 202 e = S.2.1 1 i + g_frame S x1 := by
  subst h0 h1
  simp [bS, cl_up]
theorem bS_203 {S : cl_S} {i e : Nat} {x0 x1 : Int32} (h0 : x0.toNatClampNeg = e) (h1 : x1.toNatClampNeg = i) : (bS S x0 x1).2.1 203 e = f_more 0 (S.2.1 2 i - 2 * g_frame S x1) := by
  subst h0 h1
  simp [bS, cl_up]
theorem bS_204 {S : cl_S} {i e : Nat} {x0 x1 : Int32} (h0 : x0.toNatClampNeg = e) (h1 : x1.toNatClampNeg = i) : (bS S x0 x1).2.1 204 e = S.2.1 1 i + g_frame S x1 := by
  subst h0 h1
  simp [bS, cl_up]
theorem bS_205 {S : cl_S} {i e : Nat} {x0 x1 : Int32} (h0 : x0.toNatClampNeg = e) (h1 : x1.toNatClampNeg = i) : (bS S x0 x1).2.1 205 e = 0 := by
  subst h0 h1
  simp [bS, cl_up]
theorem bS_207 {S : cl_S} {i e : Nat} {x0 x1 : Int32} (h0 : x0.toNatClampNeg = e) (h1 : x1.toNatClampNeg = i) : (bS S x0 x1).2.1 207 e = -1 := by
  subst h0 h1
  simp [bS, cl_up]
theorem bS_208 {S : cl_S} {i e : Nat} {x0 x1 : Int32} (h0 : x0.toNatClampNeg = e) (h1 : x1.toNatClampNeg = i) : (bS S x0 x1).2.1 208 e = -1 := by
  subst h0 h1
  simp [bS, cl_up]
theorem bS_100 {S : cl_S} {i e : Nat} {x0 x1 : Int32} (h0 : x0.toNatClampNeg = e) (h1 : x1.toNatClampNeg = i) : (bS S x0 x1).2.1 100 e = S.2.1 0 i + g_frame S x1 := by
  subst h0 h1
  simp [bS, cl_up]
theorem bS_101 {S : cl_S} {i e : Nat} {x0 x1 : Int32} (h0 : x0.toNatClampNeg = e) (h1 : x1.toNatClampNeg = i) : (bS S x0 x1).2.1 101 e = S.2.1 0 i + g_frame S x1 + f_more 0 (S.2.1 2 i - 2 * g_frame S x1) := by
  subst h0 h1
  simp [bS, cl_up]
theorem bS_102 {S : cl_S} {i e : Nat} {x0 x1 : Int32} (h0 : x0.toNatClampNeg = e) (h1 : x1.toNatClampNeg = i) : (bS S x0 x1).2.1 102 e = -1 := by
  subst h0 h1
  simp [bS, cl_up]
theorem bS_103 {S : cl_S} {i e : Nat} {x0 x1 : Int32} (h0 : x0.toNatClampNeg = e) (h1 : x1.toNatClampNeg = i) : (bS S x0 x1).2.1 103 e = -1 := by
  subst h0 h1
  simp [bS, cl_up]
theorem bS_104 {S : cl_S} {i e : Nat} {x0 x1 : Int32} (h0 : x0.toNatClampNeg = e) (h1 : x1.toNatClampNeg = i) : (bS S x0 x1).2.1 104 e = S.2.1 1 i + g_frame S x1 := by
  subst h0 h1
  simp [bS, cl_up]
theorem bS_105 {S : cl_S} {i e : Nat} {x0 x1 : Int32} (h0 : x0.toNatClampNeg = e) (h1 : x1.toNatClampNeg = i) : (bS S x0 x1).2.1 105 e = S.2.1 1 i + g_frame S x1 := by
  subst h0 h1
  simp [bS, cl_up]
theorem bS_400 {S : cl_S} {i e : Nat} {x0 x1 : Int32} (h0 : x0.toNatClampNeg = e) (h1 : x1.toNatClampNeg = i) : (bS S x0 x1).2.1 400 e = -1 := by
  subst h0 h1
  simp [bS, cl_up]
theorem bS_401 {S : cl_S} {i e : Nat} {x0 x1 : Int32} (h0 : x0.toNatClampNeg = e) (h1 : x1.toNatClampNeg = i) : (bS S x0 x1).2.1 401 e = -1 := by
  subst h0 h1
  simp [bS, cl_up]
theorem bS_404 {S : cl_S} {i e : Nat} {x0 x1 : Int32} (h0 : x0.toNatClampNeg = e) (h1 : x1.toNatClampNeg = i) : (bS S x0 x1).2.1 404 e = 0 := by
  subst h0 h1
  simp [bS, cl_up]
theorem bS_X (S : cl_S) (x0 x1 : Int32) : cl_X [200, 201, 202, 203, 204, 205, 206, 207, 208, 100, 101, 102, 103, 104, 105, 400, 401, 404] S (bS S x0 x1) := by
  unfold bS
  repeat (refine cl_X.up ?_ (by decide) _ _)
  exact cl_X.rf
theorem bS_fl {S : cl_S} {x0 x1 : Int32} {g f' : Nat} (hm : ¬ f' = x0.toNatClampNeg) : (bS S x0 x1).2.1 g f' = S.2.1 g f' := by
  unfold bS
  rw [cl_up_ne2 _ _ _ _ hm, cl_up_ne2 _ _ _ _ hm, cl_up_ne2 _ _ _ _ hm, cl_up_ne2 _ _ _ _ hm, cl_up_ne2 _ _ _ _ hm, cl_up_ne2 _ _ _ _ hm, cl_up_ne2 _ _ _ _ hm, cl_up_ne2 _ _ _ _ hm, cl_up_ne2 _ _ _ _ hm, cl_up_ne2 _ _ _ _ hm, cl_up_ne2 _ _ _ _ hm, cl_up_ne2 _ _ _ _ hm, cl_up_ne2 _ _ _ _ hm, cl_up_ne2 _ _ _ _ hm, cl_up_ne2 _ _ _ _ hm, cl_up_ne2 _ _ _ _ hm, cl_up_ne2 _ _ _ _ hm, cl_up_ne2 _ _ _ _ hm]
