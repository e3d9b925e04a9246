/-! the class: a row (by hand: wip/whole/gen/c35.py) -/
set_option maxHeartbeats 1000000 in
theorem vc56_0 {xs : List Int32} {K : Nat → Prop} {h0 : am_H} {d : Nat} {Q : Option Value → cl_A → cl_S → Prop} {A : cl_A} {S : cl_S} {x1 : Int32}
    (k : (cl_f S x1) ∧ ((cl_n S (S.2.1 200 x1.toNatClampNeg)) ∧ (cl_wp xs K h0 (d + 2) Q I56 16 [some (cl_rf A 3 0), some (cl_rf A 2 x1), some (.int (S.2.1 201 x1.toNatClampNeg)), some (.int 0), some (cl_rf A 5 (S.2.1 505 (S.2.1 200 x1.toNatClampNeg).toNatClampNeg)), none, none] [] A S))) :
    cl_wp xs K h0 (d + 2) Q I56 0 [some (cl_rf A 3 0), some (cl_rf A 2 x1), none, none, none, none, none] [] A S := by
  refine cl_aload_n (dd D56_ok 0 rfl) rfl ?_
  refine cl_gI (g := 201) (e := S.2.1 201 x1.toNatClampNeg) (dd D56_ok 1 rfl) pl3_164 (by decide) (by decide) (by decide) rfl rfl k.1.l2 rfl ?_
  refine cl_istore_n (dd D56_ok 2 rfl) (Nat.le_of_ble_eq_true rfl) ?_
  refine cl_iconst (v := 0) (dd D56_ok 3 rfl) (by decide) ?_
  refine cl_istore_n (dd D56_ok 4 rfl) (Nat.le_of_ble_eq_true rfl) ?_
  refine cl_aload_n (dd D56_ok 5 rfl) rfl ?_
  refine cl_gR (g := 200) (f := 5) (e := S.2.1 200 x1.toNatClampNeg) (dd D56_ok 6 rfl) pl3_167 (by decide) (by decide) (by decide) rfl rfl k.1.l2 rfl ?_
  refine cl_gR (g := 505) (f := 5) (e := S.2.1 505 (S.2.1 200 x1.toNatClampNeg).toNatClampNeg) (dd D56_ok 7 rfl) pl3_78 (by decide) (by decide) (by decide) rfl rfl k.2.1.l5 rfl ?_
  refine cl_astore (dd D56_ok 8 rfl) (Nat.le_of_ble_eq_true rfl) ?_
  exact k.2.2
set_option maxHeartbeats 1000000 in
theorem vc56_16 {xs : List Int32} {K : Nat → Prop} {h0 : am_H} {d : Nat} {Q : Option Value → cl_A → cl_S → Prop} {A : cl_A} {S : cl_S} {x1 : Int32} {x2 : Int32} {x3 : Int32} {x4 : Int32} {o5 : Option Value} {o6 : Option Value}
    (k : ((x4 = -1) → Q (some (.int x3)) A S) ∧ (¬ (x4 = -1) → (cl_n S x4) ∧ (((¬ (S.2.1 509 x4.toNatClampNeg) = 3) → ((¬ (S.2.1 501 x4.toNatClampNeg) = 3) → (cl_f S x1) ∧ ((cl_z S) ∧ (cl_C xs K (d + 2) 59 [cl_rf A 3 0, cl_rf A 5 x4] A S (fun v A' N1 => A' = A ∧ N1.1 = S.1 ∧ ∃ y1, v = some (.int y1) ∧ (cl_C xs K (d + 2) 51 [cl_rf A 3 0, cl_rf A 5 x4, .int (x2 + (S.2.1 2200 (9 * x4.toNatClampNeg + 4))), .int ((N1.2.1 202 x1.toNatClampNeg) + (S.2.1 2200 (9 * x4.toNatClampNeg + 4))), .int (g_fw N1 x4 (S.2.1 203 x1.toNatClampNeg) y1)] A N1 (fun v A' N2 => A' = A ∧ N2.1 = N1.1 ∧ v = none ∧ (cl_wp xs K h0 (d + 2) Q I56 16 [some (cl_rf A 3 0), some (cl_rf A 2 x1), some (.int (x2 + ((N2.2.1 2 x4.toNatClampNeg) + (2 * (S.2.1 2200 (9 * x4.toNatClampNeg + 4)))))), some (.int (f_more x3 ((N2.2.1 3 x4.toNatClampNeg) + (2 * (S.2.1 2200 (9 * x4.toNatClampNeg + 4)))))), some (cl_rf A 5 (N2.2.1 507 x4.toNatClampNeg)), some (.int (S.2.1 2200 (9 * x4.toNatClampNeg + 4))), some (.int (g_fw N1 x4 (S.2.1 203 x1.toNatClampNeg) y1))] [] A N2))))))) ∧ (¬ (¬ (S.2.1 501 x4.toNatClampNeg) = 3) → (cl_f S x1) ∧ ((cl_z S) ∧ (cl_wp xs K h0 (d + 2) Q I56 16 [some (cl_rf A 3 0), some (cl_rf A 2 x1), some (.int (x2 + ((g_told S x4 (S.2.1 203 x1.toNatClampNeg) 8) + (2 * (S.2.1 2200 (9 * x4.toNatClampNeg + 4)))))), some (.int (f_more x3 ((if ¬ (S.2.1 2200 (9 * x4.toNatClampNeg + 3)) = (-1) then (S.2.1 2200 (9 * x4.toNatClampNeg + 3)) else 8) + (2 * (S.2.1 2200 (9 * x4.toNatClampNeg + 4)))))), some (cl_rf A 5 (S.2.1 507 x4.toNatClampNeg)), some (.int (S.2.1 2200 (9 * x4.toNatClampNeg + 4))), o6] [] A (cl_up (cl_up (cl_up (cl_up (cl_up S 511 x4.toNatClampNeg 1) 2 x4.toNatClampNeg (g_told S x4 (S.2.1 203 x1.toNatClampNeg) 8)) 3 x4.toNatClampNeg (if ¬ (S.2.1 2200 (9 * x4.toNatClampNeg + 3)) = (-1) then (S.2.1 2200 (9 * x4.toNatClampNeg + 3)) else 8)) 0 x4.toNatClampNeg (x2 + (S.2.1 2200 (9 * x4.toNatClampNeg + 4)))) 1 x4.toNatClampNeg ((S.2.1 202 x1.toNatClampNeg) + (S.2.1 2200 (9 * x4.toNatClampNeg + 4)))))))) ∧ (¬ (¬ (S.2.1 509 x4.toNatClampNeg) = 3) → cl_wp xs K h0 (d + 2) Q I56 16 [some (cl_rf A 3 0), some (cl_rf A 2 x1), some (.int x2), some (.int x3), some (cl_rf A 5 (S.2.1 507 x4.toNatClampNeg)), o5, o6] [] A S)))) :
    cl_wp xs K h0 (d + 2) Q I56 16 [some (cl_rf A 3 0), some (cl_rf A 2 x1), some (.int x2), some (.int x3), some (cl_rf A 5 x4), o5, o6] [] A S := by
  refine cl_aload (dd D56_ok 9 rfl) rfl ?_
  refine cl_ifnull (tgt := 171) (dd D56_ok 10 rfl) (by decide) (fun c1 => ?_) (fun c1 => ?_)
  · refine cl_iload_n (dd D56_ok 87 rfl) rfl ?_
    exact cl_iret (dd D56_ok 88 rfl) rfl (k.1 c1)
  · refine cl_aload (dd D56_ok 11 rfl) rfl ?_
    refine cl_gI (g := 509) (e := S.2.1 509 x4.toNatClampNeg) (dd D56_ok 12 rfl) pl3_60 (by decide) (by decide) (by decide) rfl rfl (k.2 c1).1.l5 rfl ?_
    refine cl_iconst (v := 3) (dd D56_ok 13 rfl) (by decide) ?_
    refine cl_icmp_ne (tgt := 33) (dd D56_ok 14 rfl) (by decide) (fun c2 => ?_) (fun c2 => ?_)
    · refine cl_aload (dd D56_ok 16 rfl) rfl ?_
      refine cl_getO (g := 22) (dd D56_ok 17 rfl) pl3_46 (by decide) (by decide) (by decide) rfl (k.2 c1).1.l5 ?_
      refine cl_iconst (v := 4) (dd D56_ok 18 rfl) (by decide) ?_
      refine cl_hs (q := 4) (e := S.2.1 2200 (9 * x4.toNatClampNeg + 4)) (dd D56_ok 19 rfl) (k.2 c1).1.l22 (md_vl (by decide)) (by decide) rfl ?_
      refine cl_istore (dd D56_ok 20 rfl) (Nat.le_of_ble_eq_true rfl) ?_
      refine cl_aload (dd D56_ok 21 rfl) rfl ?_
      refine cl_gI (g := 501) (e := S.2.1 501 x4.toNatClampNeg) (dd D56_ok 22 rfl) pl3_70 (by decide) (by decide) (by decide) rfl rfl (k.2 c1).1.l5 rfl ?_
      refine cl_iconst (v := 3) (dd D56_ok 23 rfl) (by decide) ?_
      refine cl_icmp_ne (tgt := 91) (dd D56_ok 24 rfl) (by decide) (fun c3 => ?_) (fun c3 => ?_)
      · refine cl_aload (dd D56_ok 44 rfl) rfl ?_
        refine cl_aload_n (dd D56_ok 45 rfl) rfl ?_
        refine cl_gI (g := 203) (e := S.2.1 203 x1.toNatClampNeg) (dd D56_ok 46 rfl) pl3_170 (by decide) (by decide) (by decide) rfl rfl (((k.2 c1).2.1 c2).1 c3).1.l2 rfl ?_
        refine cl_aload_n (dd D56_ok 47 rfl) rfl ?_
        refine cl_aload (dd D56_ok 48 rfl) rfl ?_
        refine cl_call (as := [cl_rf A 5 x4]) (rest := [.int (S.2.1 203 x1.toNatClampNeg), cl_rf A 5 x4]) (v := 0) (dd D56_ok 49 rfl) pl3_179 rfl (Nat.le_of_ble_eq_true rfl) (ms59 xs) rfl (by decide) (((k.2 c1).2.1 c2).1 c3).2.1.l3 (((((k.2 c1).2.1 c2).1 c3).2.2).mono ?_) rfl
        rintro v A N1 ⟨rfl, e1, y1, rfl, w1⟩
        refine cl_callP (r := .int (g_fw N1 x4 (S.2.1 203 x1.toNatClampNeg) y1)) (as := [.int (S.2.1 203 x1.toNatClampNeg), .int y1]) (rest := []) (v := x4) (dd D56_ok 50 rfl) pl3_183 rfl (Nat.le_of_ble_eq_true rfl) (ms63 xs) rfl (by decide) ((k.2 c1).1.mv e1).l5 (cc_g_fw (S := N1) ((k.2 c1).1.mv e1)) rfl ?_
        refine cl_istore (dd D56_ok 51 rfl) (Nat.le_of_ble_eq_true rfl) ?_
        refine cl_aload_n (dd D56_ok 52 rfl) rfl ?_
        refine cl_aload (dd D56_ok 53 rfl) rfl ?_
        refine cl_iload_n (dd D56_ok 54 rfl) rfl ?_
        refine cl_iload (dd D56_ok 55 rfl) rfl ?_
        refine cl_iadd (dd D56_ok 56 rfl) ?_
        refine cl_aload_n (dd D56_ok 57 rfl) rfl ?_
        refine cl_gI (g := 202) (e := N1.2.1 202 x1.toNatClampNeg) (dd D56_ok 58 rfl) pl3_176 (by decide) (by decide) (by decide) rfl rfl ((((k.2 c1).2.1 c2).1 c3).1.mv e1).l2 rfl ?_
        refine cl_iload (dd D56_ok 59 rfl) rfl ?_
        refine cl_iadd (dd D56_ok 60 rfl) ?_
        refine cl_iload (dd D56_ok 61 rfl) rfl ?_
        refine cl_call (as := [cl_rf A 5 x4, .int (x2 + (S.2.1 2200 (9 * x4.toNatClampNeg + 4))), .int ((N1.2.1 202 x1.toNatClampNeg) + (S.2.1 2200 (9 * x4.toNatClampNeg + 4))), .int (g_fw N1 x4 (S.2.1 203 x1.toNatClampNeg) y1)]) (rest := []) (v := 0) (dd D56_ok 62 rfl) pl3_56 rfl (Nat.le_of_ble_eq_true rfl) (ms51 xs) rfl (by decide) ((((k.2 c1).2.1 c2).1 c3).2.1.mv e1).l3 ((w1).mono ?_) rfl
        rintro v A N2 ⟨rfl, e2, rfl, w2⟩
        refine cl_iload_n (dd D56_ok 63 rfl) rfl ?_
        refine cl_aload (dd D56_ok 64 rfl) rfl ?_
        refine cl_getO (g := 0) (dd D56_ok 65 rfl) pl3_140 (by decide) (by decide) (by decide) rfl (((k.2 c1).1.mv e1).mv e2).l5 ?_
        refine cl_gI (g := 2) (e := N2.2.1 2 x4.toNatClampNeg) (dd D56_ok 66 rfl) pl3_132 (by decide) (by decide) (by decide) rfl rfl (((k.2 c1).1.mv e1).mv e2).l0 rfl ?_
        refine cl_iconst (v := 2) (dd D56_ok 67 rfl) (by decide) ?_
        refine cl_iload (dd D56_ok 68 rfl) rfl ?_
        refine cl_imul (dd D56_ok 69 rfl) ?_
        refine cl_iadd (dd D56_ok 70 rfl) ?_
        refine cl_iadd (dd D56_ok 71 rfl) ?_
        refine cl_istore_n (dd D56_ok 72 rfl) (Nat.le_of_ble_eq_true rfl) ?_
        refine cl_iload_n (dd D56_ok 73 rfl) rfl ?_
        refine cl_aload (dd D56_ok 74 rfl) rfl ?_
        refine cl_getO (g := 0) (dd D56_ok 75 rfl) pl3_140 (by decide) (by decide) (by decide) rfl (((k.2 c1).1.mv e1).mv e2).l5 ?_
        refine cl_gI (g := 3) (e := N2.2.1 3 x4.toNatClampNeg) (dd D56_ok 76 rfl) pl3_137 (by decide) (by decide) (by decide) rfl rfl (((k.2 c1).1.mv e1).mv e2).l0 rfl ?_
        refine cl_iconst (v := 2) (dd D56_ok 77 rfl) (by decide) ?_
        refine cl_iload (dd D56_ok 78 rfl) rfl ?_
        refine cl_imul (dd D56_ok 79 rfl) ?_
        refine cl_iadd (dd D56_ok 80 rfl) ?_
        refine cl_max (dd D56_ok 81 rfl) pl3_187 (Nat.le_of_ble_eq_true rfl) ?_
        rw [← f_more_lt]
        refine cl_istore_n (dd D56_ok 82 rfl) (Nat.le_of_ble_eq_true rfl) ?_
        refine cl_aload (dd D56_ok 83 rfl) rfl ?_
        refine cl_gR (g := 507) (f := 5) (e := N2.2.1 507 x4.toNatClampNeg) (dd D56_ok 84 rfl) pl3_89 (by decide) (by decide) (by decide) rfl rfl (((k.2 c1).1.mv e1).mv e2).l5 rfl ?_
        refine cl_astore (dd D56_ok 85 rfl) (Nat.le_of_ble_eq_true rfl) ?_
        refine cl_goto (tgt := 16) (dd D56_ok 86 rfl) (by decide) ?_
        exact w2
      · refine cl_aload_n (dd D56_ok 25 rfl) rfl ?_
        refine cl_aload (dd D56_ok 26 rfl) rfl ?_
        refine cl_aload_n (dd D56_ok 27 rfl) rfl ?_
        refine cl_gI (g := 203) (e := S.2.1 203 x1.toNatClampNeg) (dd D56_ok 28 rfl) pl3_170 (by decide) (by decide) (by decide) rfl rfl (((k.2 c1).2.1 c2).2 c3).1.l2 rfl ?_
        refine cl_callU (as := [cl_rf A 5 x4, .int (S.2.1 203 x1.toNatClampNeg)]) (rest := []) (v := 0) (dd D56_ok 29 rfl) pl3_173 rfl (Nat.le_of_ble_eq_true rfl) (ms57 xs) rfl (by decide) (((k.2 c1).2.1 c2).2 c3).2.1.l3 (cc_piece (S := S) (k.2 c1).1) rfl ?_
        refine cl_aload (dd D56_ok 30 rfl) rfl ?_
        refine cl_getO (g := 0) (dd D56_ok 31 rfl) pl3_140 (by decide) (by decide) (by decide) rfl (k.2 c1).1.l5 ?_
        refine cl_iload_n (dd D56_ok 32 rfl) rfl ?_
        refine cl_iload (dd D56_ok 33 rfl) rfl ?_
        refine cl_iadd (dd D56_ok 34 rfl) ?_
        refine cl_pI (g := 0) (dd D56_ok 35 rfl) pl3_141 (by decide) (by decide) rfl rfl rfl rfl rfl (k.2 c1).1.l0 ?_
        refine cl_aload (dd D56_ok 36 rfl) rfl ?_
        refine cl_getO (g := 0) (dd D56_ok 37 rfl) pl3_140 (by decide) (by decide) (by decide) rfl (k.2 c1).1.l5 ?_
        refine cl_aload_n (dd D56_ok 38 rfl) rfl ?_
        refine cl_gI (g := 202) (e := S.2.1 202 x1.toNatClampNeg) (dd D56_ok 39 rfl) pl3_176 (by decide) (by decide) (by decide) rfl rfl (((k.2 c1).2.1 c2).2 c3).1.l2 (by first | rfl | simp [cl_up]) ?_
        refine cl_iload (dd D56_ok 40 rfl) rfl ?_
        refine cl_iadd (dd D56_ok 41 rfl) ?_
        refine cl_pI (g := 1) (dd D56_ok 42 rfl) pl3_144 (by decide) (by decide) rfl rfl rfl rfl rfl (k.2 c1).1.l0 ?_
        refine cl_goto (tgt := 127) (dd D56_ok 43 rfl) (by decide) ?_
        refine cl_iload_n (dd D56_ok 63 rfl) rfl ?_
        refine cl_aload (dd D56_ok 64 rfl) rfl ?_
        refine cl_getO (g := 0) (dd D56_ok 65 rfl) pl3_140 (by decide) (by decide) (by decide) rfl (k.2 c1).1.l5 ?_
        refine cl_gI (g := 2) (e := g_told S x4 (S.2.1 203 x1.toNatClampNeg) 8) (dd D56_ok 66 rfl) pl3_132 (by decide) (by decide) (by decide) rfl rfl (k.2 c1).1.l0 (by first | rfl | simp [cl_up]) ?_
        refine cl_iconst (v := 2) (dd D56_ok 67 rfl) (by decide) ?_
        refine cl_iload (dd D56_ok 68 rfl) rfl ?_
        refine cl_imul (dd D56_ok 69 rfl) ?_
        refine cl_iadd (dd D56_ok 70 rfl) ?_
        refine cl_iadd (dd D56_ok 71 rfl) ?_
        refine cl_istore_n (dd D56_ok 72 rfl) (Nat.le_of_ble_eq_true rfl) ?_
        refine cl_iload_n (dd D56_ok 73 rfl) rfl ?_
        refine cl_aload (dd D56_ok 74 rfl) rfl ?_
        refine cl_getO (g := 0) (dd D56_ok 75 rfl) pl3_140 (by decide) (by decide) (by decide) rfl (k.2 c1).1.l5 ?_
        refine cl_gI (g := 3) (e := (if ¬ (S.2.1 2200 (9 * x4.toNatClampNeg + 3)) = (-1) then (S.2.1 2200 (9 * x4.toNatClampNeg + 3)) else 8)) (dd D56_ok 76 rfl) pl3_137 (by decide) (by decide) (by decide) rfl rfl (k.2 c1).1.l0 (by first | rfl | simp [cl_up]) ?_
        refine cl_iconst (v := 2) (dd D56_ok 77 rfl) (by decide) ?_
        refine cl_iload (dd D56_ok 78 rfl) rfl ?_
        refine cl_imul (dd D56_ok 79 rfl) ?_
        refine cl_iadd (dd D56_ok 80 rfl) ?_
        refine cl_max (dd D56_ok 81 rfl) pl3_187 (Nat.le_of_ble_eq_true rfl) ?_
        rw [← f_more_lt]
        refine cl_istore_n (dd D56_ok 82 rfl) (Nat.le_of_ble_eq_true rfl) ?_
        refine cl_aload (dd D56_ok 83 rfl) rfl ?_
        refine cl_gR (g := 507) (f := 5) (e := S.2.1 507 x4.toNatClampNeg) (dd D56_ok 84 rfl) pl3_89 (by decide) (by decide) (by decide) rfl rfl (k.2 c1).1.l5 (by first | rfl | simp [cl_up]) ?_
        refine cl_astore (dd D56_ok 85 rfl) (Nat.le_of_ble_eq_true rfl) ?_
        refine cl_goto (tgt := 16) (dd D56_ok 86 rfl) (by decide) ?_
        exact (((k.2 c1).2.1 c2).2 c3).2.2
    · refine cl_goto (tgt := 161) (dd D56_ok 15 rfl) (by decide) ?_
      refine cl_aload (dd D56_ok 83 rfl) rfl ?_
      refine cl_gR (g := 507) (f := 5) (e := S.2.1 507 x4.toNatClampNeg) (dd D56_ok 84 rfl) pl3_89 (by decide) (by decide) (by decide) rfl rfl (k.2 c1).1.l5 rfl ?_
      refine cl_astore (dd D56_ok 85 rfl) (Nat.le_of_ble_eq_true rfl) ?_
      refine cl_goto (tgt := 16) (dd D56_ok 86 rfl) (by decide) ?_
      exact ((k.2 c1).2.2 c2)
/-- what a row wants of its children -/
def rwF (xs : List Int32) (K : Nat → Prop) (A : cl_A) (P : md_S) (nn W i f D : Nat) : bt → Prop
  | .leaf _ => True
  | .branch j k s => (j < nn ∧ (P.2 12 j = 0 ∨ P.2 12 j = 1 ∨ P.2 12 j = 2 ∨ P.2 12 j = 4) ∧ (P.2 12 j = 0 → ∀ x ∈ bt_pre k, x < 60 ∧ P.2 12 x = 0) ∧ (P.2 12 j = 4 → (∃ u, k = .leaf u) ∧ P.2 3 j = 3 ∧ (P.2 17 j = if ¬ f_told P (nI j) (f_inner P (nI i)) = -1 then f_told P (nI j) (f_inner P (nI i)) else 8) ∧ P.2 18 j = f_hv P j) ∧ (¬ f_isBox P (nI j) = 0 → chd P nn i f j k ∧ P.2 13 j = 0 ∧ P.2 3 j = 0 ∧ LE xs K A P nn W j k ∧ 31 + 12 * bt_ht k ≤ D)) ∧ rwF xs K A P nn W i f D s
theorem f_lf_off {j : Nat} : ∀ (t : bt) (a r : Int32) (M : md_S), (∀ q ∈ bt_rt t, ¬ q.1 = j) → (f_lf t a r M).2.2 15 j = M.2 15 j ∧ (f_lf t a r M).2.2 16 j = M.2 16 j := by
  intro t
  induction t with
  | leaf u => intro a r M _; exact ⟨rfl, rfl⟩
  | branch n k s _ ihs =>
    intro a r M h
    have hn : ¬ j = n := fun e => h (n, k) (List.mem_cons_self ..) e.symm
    unfold f_lf
    by_cases c : f_boxy M n
    · rw [if_pos c]
      obtain ⟨h1, h2⟩ := ihs (a + (M.2 17 n + 2 * f_of M (nI n) 4)) (f_more r (M.2 18 n + 2 * f_of M (nI n) 4)) (md_up2 (md_up2 M 15 n (a + f_of M (nI n) 4)) 16 n (f_of M (nI n) 4)) (fun q hq => h q (List.mem_cons_of_mem _ hq))
      rw [h1, h2, md_up2_ne _ (by decide), md_up2_off _ _ hn, md_up2_off _ _ hn, md_up2_ne _ (by decide)]
      exact ⟨rfl, rfl⟩
    · rw [if_neg c]
      exact ihs a r M (fun q hq => h q (List.mem_cons_of_mem _ hq))
theorem kk_row {xs : List Int32} {K : Nat → Prop} {h0 : am_H} {Q : Option Value → cl_A → cl_S → Prop} {A : cl_A} {P : md_S} {nn W i f D d : Nat} {ox oy : Int32} (hSP : SP P nn W) (hWO : WO P W) (hi : i < nn) (hib : P.2 12 i = 2) (hf13 : f < 13) (hox : nb ((f + 1) * 67108864 + 59) ox) (hoy : nb ((f + 1) * 67108864 + 59) oy) (hDd : D ≤ d) (hD : 31 ≤ D) {F : md_S} (h15 : ∀ n, n < 60 → f_boxy P n → P.2 14 n = nI i → P.2 15 n = F.2 15 n ∧ P.2 16 n = F.2 16 n) : ∀ (t : bt) (a r : Int32) (M : md_S) (S : cl_S) (Ba Br : Nat) (o5 o6 : Option Value) (p : Int32), rwF xs K A P nn W i f D t → bt_R (P.2 4) (P.2 5) (P.2 7) p t → (bt_pre t).Nodup → (∀ x ∈ bt_pre t, x < nn ∧ ¬ x = i) → (∀ q ∈ bt_rt t, P.2 14 q.1 = nI i) → (∀ b, b ∉ X_C → M.2 b = P.2 b) → (∀ n ∈ bt_pre t, M.2 18 n = P.2 18 n) → (f_lf t a r M).2 = F → la_T S P nn W → S.2.1 202 f = oy → S.2.1 203 f = f_inner P (nI i) → nz Ba a → nz Br r → Ba + csF P t ≤ 67000000 → Br + csF P t ≤ 67000000 →
    (∀ S', FR P W (bt_pre t) (bt_pre t) (f + 1) S S' → lo_F P W S' t ox oy → nz (Br + csF P t) (f_lf t a r M).1 → Q (some (.int (f_lf t a r M).1)) A S') → cl_wp xs K h0 (d + 2) Q I56 16 [some (cl_rf A 3 0), some (cl_rf A 2 (nI f)), some (.int (a + ox)), some (.int r), some (cl_rf A 5 (bt_hd (-1) t)), o5, o6] [] A S := by
  have cf : (nI f).toNatClampNeg = f := nI_clamp (by omega)
  intro t
  induction t with
  | leaf u =>
    intro a r M S Ba Br o5 o6 p _ _ _ _ _ _ _ _ _ _ _ _ hr _ _ hQ
    have hc : csF P (.leaf u) = 0 := rfl
    rw [hc] at hQ
    exact vc56_16 ⟨fun _ => hQ S FR.rf trivial hr, fun c => absurd rfl c⟩
  | branch j k s _ ihs =>
    intro a r M S Ba Br o5 o6 p hrw hR hnd hx h14 hM h18 hF hLa h202 h203 ha hr hBa hBr hQ
    obtain ⟨⟨n1, n2, n3, n4, n5⟩, hrs⟩ := hrw
    have hT0 := hLa.1
    have h60 := hT0.1
    have cj : (nI j).toNatClampNeg = j := hT0.cl n1
    have hSPj := hSP.1 j n1
    have hin := inner_nz (hSP.1 i hi) (by omega) (show f_boxy P i from Or.inl ((isBox_m (by omega)).mpr (Or.inr hib)))
    rw [csF_br] at hBa hBr
    have hpre : bt_pre (.branch j k s) = j :: (bt_pre k ++ bt_pre s) := rfl
    rw [hpre] at hnd hx h18
    obtain ⟨a1, a2⟩ := List.nodup_cons.mp hnd
    rw [List.nodup_append] at a2
    have e509 := (hLa.2.1 j n1).1
    have hcs := cs_ge P j k
    have hdep := dep_12 hf13
    have hm := hSPj.1
    have hm2 : (2 * f_of P (nI j) 4).toInt = 2 * (f_of P (nI j) 4).toInt := two_toInt ⟨by omega, by omega⟩
    have hm2z : nz 100 (2 * f_of P (nI j) 4) := by unfold nz at *; omega
    have e7 : bt_hd (-1) s = P.2 7 j := hR.2.2.2.1.symm
    have hj14 : P.2 14 j = nI i := h14 (j, k) (List.mem_cons_self ..)
    have hsx : ∀ x ∈ bt_pre s, x < nn ∧ ¬ x = i := fun x hx' => hx x (List.mem_cons_of_mem _ (List.mem_append_right _ hx'))
    have hs18 : ∀ n ∈ bt_pre s, M.2 18 n = P.2 18 n := fun n hn => h18 n (List.mem_cons_of_mem _ (List.mem_append_right _ hn))
    have hs14 : ∀ q ∈ bt_rt s, P.2 14 q.1 = nI i := fun q hq => h14 q (List.mem_cons_of_mem _ hq)
    have hbM : f_boxy M j ↔ f_boxy P j := by unfold f_boxy f_isBox; rw [hM 12 (by decide)]
    have sub60 : ∀ x ∈ j :: bt_pre k, x < 60 := fun x hx' => by
      have := (hx x (by
        rcases List.mem_cons.mp hx' with c | c
        · exact List.mem_cons.mpr (Or.inl c)
        · exact List.mem_cons_of_mem _ (List.mem_append_left _ c))).1
      omega
    have s60 : ∀ x ∈ bt_pre s, x < 60 := fun x hx' => by have := (hsx x hx').1; omega
    have apS : ∀ x ∈ j :: bt_pre k, x ∉ bt_pre s := by
      intro x hx' hx''
      rcases List.mem_cons.mp hx' with c | c
      · exact a1 (by rw [← c]; exact List.mem_append_right _ hx'')
      · exact a2.2.2 x c x hx'' rfl
    -- a child that is placed: the rest of the row, and all together
    have rest : f_boxy P j → ∀ (S1 : cl_S) (o5 o6 : Option Value), FR P W (j :: bt_pre k) (j :: bt_pre k) (f + 1) S S1 → S1.2.1 0 j = a + f_of P (nI j) 4 + ox → S1.2.1 1 j = f_of P (nI j) 4 + oy → S1.2.1 2 j = P.2 17 j → S1.2.1 3 j = P.2 18 j → S1.2.1 511 j = 1 → lo_F P W S1 k (if f_isBox P (nI j) = 0 then ox else a + f_of P (nI j) 4 + ox + f_edges P (nI j)) (if f_isBox P (nI j) = 0 then oy else f_of P (nI j) 4 + oy + f_edges P (nI j)) → nz (cs P j k - 300000) (P.2 18 j) → ∀ x2 x3 x4, x2 = a + (P.2 17 j + 2 * f_of P (nI j) 4) + ox → x3 = f_more r (P.2 18 j + 2 * f_of P (nI j) 4) → x4 = P.2 7 j → cl_wp xs K h0 (d + 2) Q I56 16 [some (cl_rf A 3 0), some (cl_rf A 2 (nI f)), some (.int x2), some (.int x3), some (cl_rf A 5 x4), o5, o6] [] A S1 := by
      rintro hbx S1 o5 o6 F1 b0 b1 b2 b3 b5 hlk hz18 x2 x3 x4 rfl rfl rfl
      have hL1 := hLa.fr F1
      have hw := hSPj.2.2.2.2.2.2.1 hbx
      have eF : f_lf (.branch j k s) a r M = f_lf s (a + (P.2 17 j + 2 * f_of P (nI j) 4)) (f_more r (P.2 18 j + 2 * f_of P (nI j) 4)) (md_up2 (md_up2 M 15 j (a + f_of P (nI j) 4)) 16 j (f_of P (nI j) 4)) := by
        rw [f_lf, if_pos (hbM.mpr hbx), hM 17 (by decide), h18 j (by simp), of_same (hM 9 (by decide))]
      rw [eF] at hF hQ
      have hFj : P.2 15 j = a + f_of P (nI j) 4 ∧ P.2 16 j = f_of P (nI j) 4 := by
        obtain ⟨c1, c2⟩ := h15 j (by omega) hbx hj14
        have hoff := f_lf_off (j := j) s (a + (P.2 17 j + 2 * f_of P (nI j) 4)) (f_more r (P.2 18 j + 2 * f_of P (nI j) 4)) (md_up2 (md_up2 M 15 j (a + f_of P (nI j) 4)) 16 j (f_of P (nI j) 4)) (fun q hq e => a1 (by rw [← e]; exact List.mem_append_right _ (bt_rt_pre q hq _ (List.mem_cons_self ..))))
        rw [c1, c2, ← hF, hoff.1, hoff.2, md_up2_ne _ (by decide), md_up2_at, md_up2_at]
        exact ⟨rfl, rfl⟩
      have hMu : ∀ b, b ∉ [15, 16] → (md_up2 (md_up2 M 15 j (a + f_of P (nI j) 4)) 16 j (f_of P (nI j) 4)).2 b = M.2 b := fun b hb => by
        simp only [List.mem_cons, List.not_mem_nil, or_false, not_or] at hb
        rw [md_up2_ne _ hb.2, md_up2_ne _ hb.1]
      have hwm : nz 250100 (P.2 17 j + 2 * f_of P (nI j) 4) := nz_add hw hm2z (by decide) (by decide) (by decide)
      have ha' : nz (Ba + 250100) (a + (P.2 17 j + 2 * f_of P (nI j) 4)) := nz_add ha hwm (Nat.le_refl _) (by omega) (by decide)
      have hhm : nz (cs P j k) (P.2 18 j + 2 * f_of P (nI j) 4) := nz_add hz18 hm2z (by omega) (by omega) (by decide)
      have hr' : nz (Br + cs P j k) (f_more r (P.2 18 j + 2 * f_of P (nI j) 4)) := by
        unfold nz at *
        rw [more_toInt]
        omega
      rw [← e7]
      refine ihs _ _ _ S1 (Ba + 250100) (Br + cs P j k) o5 o6 p hrs hR.2.2.2.2.2 a2.2.1 hsx hs14 (fun b hb => by rw [hMu b (fun c => hb ((show ∀ b ∈ [15, 16], b ∈ X_C by decide) b c))]; exact hM b hb) (fun n hn => by rw [hMu 18 (by decide)]; exact hs18 n hn) hF hL1 (by rw [F1.2.2.2.2.2 202 (by decide) (by decide) f (by omega)]; exact h202) (by rw [F1.2.2.2.2.2 203 (by decide) (by decide) f (by omega)]; exact h203) ha' hr' (by omega) (by omega) (fun S' F' hlo hnz => ?_)
      have hq : ¬ inT P W (bt_pre s) j := by
        rintro (c | ⟨w, m, c, _⟩)
        · exact a1 (List.mem_append_right _ c)
        · omega
      refine hQ S' ((F1.sub (fun x hx' => ?_) (fun x hx' => ?_) (Nat.le_refl _)).tr (F'.sub (fun x hx' => ?_) (fun x hx' => ?_) (Nat.le_refl _))) ⟨fun _ => ?_, fun w hw' h30 => ?_, ?_, hlo⟩ (by rw [csF_br, ← Nat.add_assoc]; exact hnz)
      · rcases List.mem_cons.mp hx' with c | c
        · exact List.mem_cons.mpr (Or.inl c)
        · exact List.mem_cons_of_mem _ (List.mem_append_left _ c)
      · rcases List.mem_cons.mp hx' with c | c
        · exact List.mem_cons.mpr (Or.inl c)
        · exact List.mem_cons_of_mem _ (List.mem_append_left _ c)
      · exact List.mem_cons_of_mem _ (List.mem_append_right _ hx')
      · exact List.mem_cons_of_mem _ (List.mem_append_right _ hx')
      · rw [F'.2.1 j hq 0 (by decide), F'.2.1 j hq 1 (by decide), F'.2.1 j hq 2 (by decide), F'.2.1 j hq 3 (by decide), F'.2.2.2.1 j (fun c => a1 (List.mem_append_right _ c.1)), hFj.1, hFj.2]
        exact ⟨b0, b1, b2, b3, b5⟩
      · have := (hWO w j hw' (by omega) h30).1
        rcases n2 with c | c | c | c <;> rw [c] at this <;> exact absurd this (by decide)
      · rw [hFj.1, hFj.2]
        exact lo_F.fr F' (fun x hx' => apS x (by simp [hx'])) (fun x hx' => sub60 x (by simp [hx'])) s60 hlk
    change cl_wp xs K h0 (d + 2) Q I56 16 [some (cl_rf A 3 0), some (cl_rf A 2 (nI f)), some (.int (a + ox)), some (.int r), some (cl_rf A 5 (nI j)), o5, o6] [] A S
    refine vc56_16 ⟨fun c => absurd c (nI_ne_m1 (by omega)), fun _ => ⟨hT0.n n1, ?_⟩⟩
    rw [cj, e509, hT0.kind n1, cf, hT0.h4 n1, h203, hT0.h3 n1, h202, hT0.nx n1]
    have boxc : ¬ f_isBox P (nI j) = 0 → (¬ ro (P.2 12 j) = 3) → cl_f S (nI f) ∧ cl_z S ∧ cl_C xs K (d + 2) 59 [cl_rf A 3 0, cl_rf A 5 (nI j)] A S (fun v A' N1 => A' = A ∧ N1.1 = S.1 ∧ ∃ y1, v = some (.int y1) ∧ (cl_C xs K (d + 2) 51 [cl_rf A 3 0, cl_rf A 5 (nI j), .int (a + ox + f_of P (nI j) 4), .int (N1.2.1 202 f + f_of P (nI j) 4), .int (g_fw N1 (nI j) (f_inner P (nI i)) y1)] A N1 (fun v A' N2 => A' = A ∧ N2.1 = N1.1 ∧ v = none ∧ (cl_wp xs K h0 (d + 2) Q I56 16 [some (cl_rf A 3 0), some (cl_rf A 2 (nI f)), some (.int (a + ox + (N2.2.1 2 j + 2 * f_of P (nI j) 4))), some (.int (f_more r (N2.2.1 3 j + 2 * f_of P (nI j) 4))), some (cl_rf A 5 (N2.2.1 507 j)), some (.int (f_of P (nI j) 4)), some (.int (g_fw N1 (nI j) (f_inner P (nI i)) y1))] [] A N2)))) := by
      intro hb _
      obtain ⟨m1, m2, m3, m4, m5⟩ := n5 hb
      obtain ⟨c1, c2, c3, c4, c5, c6, c7, c8, c9, c10, c11, en, c12, c13, c14⟩ := m1
      have hsz : ¬ f_of P (nI j) 8 = 0 := by
        intro q
        have := hSPj.2.2.2.1
        rw [q, lit_0] at this
        omega
      refine ⟨hT0.2.2.1 f hf13, hT0.2.1, ?_⟩
      refine kk_textWidth hT0 c1 c3 c4 c5 c7 c9 hsz (by omega) _ (fun z => ⟨rfl, rfl, _, rfl, ?_⟩)
      have hF1 : FR P W (j :: bt_pre k) (j :: bt_pre k) (f + 1) S (cl_ru S z) := cl_ru_FR z
      have hX1 := cl_ru_X S z
      have hL1 := hLa.fr hF1
      have e202 : (cl_ru S z).2.1 202 = S.2.1 202 := hX1.2.2 202 (by decide)
      generalize cl_ru S z = S1 at hF1 hX1 hL1 e202
      have hT1 := hL1.1
      have hwide : g_fw S1 (nI j) (f_inner P (nI i)) (f_ol P j k + 2 * f_edges P (nI j)) = P.2 17 j := by
        unfold g_fw
        rw [g_told_eq hT1 c1 hSPj hin, hT1.frame c1, c11]
        unfold f_wv
        rw [if_pos (boxy_n4 (by omega) c10)]
        congr 1
        unfold f_wideOf
        rw [c8]
        by_cases q : f_told P (nI j) (f_inner P (nI i)) = -1
        · rw [if_pos q, if_neg (fun w => w q), if_pos m2, nI_clamp (by omega), hib, if_neg (by decide)]
        · rw [if_neg q, if_pos q]
      rw [hwide, e202, h202]
      have hXe : a + ox + f_of P (nI j) 4 = a + f_of P (nI j) 4 + ox := by grind
      have hYe : oy + f_of P (nI j) 4 = f_of P (nI j) 4 + oy := Int32.add_comm _ _
      rw [hXe, hYe]
      have hXb : nb ((en + 1) * 67108864) (a + f_of P (nI j) 4 + ox) := nb_add (nz_nb (nz_add ha hm (Nat.le_refl _) (by omega) (by decide))) hox (by rw [Nat.add_comm, Nat.add_assoc]; exact dep_add c13 (by omega)) (by omega) hdep
      have hYb : nb ((en + 1) * 67108864) (f_of P (nI j) 4 + oy) := nb_add (nz_nb hm) hoy (by rw [Nat.add_comm, Nat.add_assoc]; exact dep_add c13 (by decide)) (by decide) hdep
      refine m4 (d + 2) en S1 _ _ (by omega) c12 (by omega) hL1 hXb hYb _ (fun S2 r1 r2 r3 r4 r5 r6 r7 r8 => ⟨rfl, r1.1.1, rfl, ?_⟩)
      have hL2 := hL1.fr r1
      refine rest (Or.inl hb) S2 _ _ (hF1.tr (r1.sub (fun x hx' => hx') (fun x hx' => by simp [hx']) (by omega))) r2 r3 r4 r5 r6 (by rw [if_neg hb, if_neg hb]; exact r7) r8 _ _ _ ?_ ?_ ?_
      · rw [r4]; grind
      · rw [r5]
      · rw [hL2.1.nx n1]
    rcases n2 with m | m | m | m
    · have hro : ro (P.2 12 j) = 3 := by rw [m]; rfl
      have hnb : ¬ f_boxy P j := by
        rintro (c | c)
        · rw [isBox_m (by omega), m] at c; exact absurd c (by decide)
        · rw [m] at c; exact absurd c (by decide)
      refine ⟨fun c => absurd hro c, fun _ => ?_⟩
      have eF : f_lf (.branch j k s) a r M = f_lf s a r M := by
        rw [f_lf, if_neg (fun c => hnb (hbM.mp c))]
      rw [eF] at hF hQ
      rw [← e7]
      refine ihs a r M S Ba Br o5 o6 p hrs hR.2.2.2.2.2 a2.2.1 hsx hs14 hM hs18 hF hLa h202 h203 ha hr (by omega) (by omega) (fun S' F' hlo hnz => ?_)
      refine hQ S' (F'.sub (fun x hx' => List.mem_cons_of_mem _ (List.mem_append_right _ hx')) (fun x hx' => List.mem_cons_of_mem _ (List.mem_append_right _ hx')) (Nat.le_refl _)) ⟨fun c => absurd c hnb, fun w hw h30 => ?_, gone_lo hWO k _ _ (n3 m), hlo⟩ (nz_mono hnz (by rw [csF_br]; omega))
      have := (hWO w j hw (by omega) h30).1
      rw [m] at this
      exact absurd this (by decide)
    · have hb : ¬ f_isBox P (nI j) = 0 := (isBox_m (by omega)).mpr (Or.inl m)
      have hro : ¬ ro (P.2 12 j) = 3 := by rw [m]; decide
      have hk0 := (n5 hb).2.2.1
      rw [hk0]
      exact ⟨fun _ => ⟨fun _ => boxc hb hro, fun c => absurd (by decide) c⟩, fun c => absurd hro c⟩
    · have hb : ¬ f_isBox P (nI j) = 0 := (isBox_m (by omega)).mpr (Or.inr m)
      have hro : ¬ ro (P.2 12 j) = 3 := by rw [m]; decide
      have hk0 := (n5 hb).2.2.1
      rw [hk0]
      exact ⟨fun _ => ⟨fun _ => boxc hb hro, fun c => absurd (by decide) c⟩, fun c => absurd hro c⟩
    · obtain ⟨⟨u, hu⟩, hk3, h17, h18j⟩ := n4 m
      subst hu
      have hb0 : f_isBox P (nI j) = 0 := by unfold f_isBox; rw [cj, m]; rfl
      have hro : ¬ ro (P.2 12 j) = 3 := by rw [m]; decide
      rw [hk3]
      refine ⟨fun _ => ⟨fun c => absurd rfl c, fun _ => ⟨hT0.2.2.1 f hf13, hT0.2.1, ?_⟩⟩, fun c => absurd hro c⟩
      have etold : g_told S (nI j) (f_inner P (nI i)) 8 = P.2 17 j := by
        rw [g_told_eq hT0 n1 hSPj hin, h17]
        by_cases c : f_told P (nI j) (f_inner P (nI i)) = -1
        · rw [if_pos c, if_neg (fun w => w c)]
        · rw [if_neg c, if_pos c]
      have ehv : (if ¬ f_of P (nI j) 3 = -1 then f_of P (nI j) 3 else 8) = P.2 18 j := by rw [h18j]; rfl
      have ehv' : (if ¬ f_of P (nI j) 3 = (-1) then f_of P (nI j) 3 else 8) = P.2 18 j := ehv
      rw [etold, ehv]
      have hhx : nz 400 (P.2 18 j) := hSPj.2.2.2.2.2.2.2.1 m
      have xb : cl_X [511, 2, 3, 0, 1] S (cl_up (cl_up (cl_up (cl_up (cl_up S 511 j 1) 2 j (P.2 17 j)) 3 j (P.2 18 j)) 0 j (a + ox + f_of P (nI j) 4)) 1 j (oy + f_of P (nI j) 4)) := ((((cl_X.rf.up (by decide) _ _).up (by decide) _ _).up (by decide) _ _).up (by decide) _ _).up (by decide) _ _
      have nb' : ∀ g x, ¬ x = j → (cl_up (cl_up (cl_up (cl_up (cl_up S 511 j 1) 2 j (P.2 17 j)) 3 j (P.2 18 j)) 0 j (a + ox + f_of P (nI j) 4)) 1 j (oy + f_of P (nI j) 4)).2.1 g x = S.2.1 g x := fun g x hx' => by rw [cl_up_ne2 _ _ _ _ hx', cl_up_ne2 _ _ _ _ hx', cl_up_ne2 _ _ _ _ hx', cl_up_ne2 _ _ _ _ hx', cl_up_ne2 _ _ _ _ hx']
      have v0 : (cl_up (cl_up (cl_up (cl_up (cl_up S 511 j 1) 2 j (P.2 17 j)) 3 j (P.2 18 j)) 0 j (a + ox + f_of P (nI j) 4)) 1 j (oy + f_of P (nI j) 4)).2.1 0 j = a + f_of P (nI j) 4 + ox := by rw [cl_up_ne1 _ _ _ _ (by decide), cl_up_at]; grind
      have v1 : (cl_up (cl_up (cl_up (cl_up (cl_up S 511 j 1) 2 j (P.2 17 j)) 3 j (P.2 18 j)) 0 j (a + ox + f_of P (nI j) 4)) 1 j (oy + f_of P (nI j) 4)).2.1 1 j = f_of P (nI j) 4 + oy := by rw [cl_up_at]; grind
      have v2 : (cl_up (cl_up (cl_up (cl_up (cl_up S 511 j 1) 2 j (P.2 17 j)) 3 j (P.2 18 j)) 0 j (a + ox + f_of P (nI j) 4)) 1 j (oy + f_of P (nI j) 4)).2.1 2 j = P.2 17 j := by rw [cl_up_ne1 _ _ _ _ (by decide), cl_up_ne1 _ _ _ _ (by decide), cl_up_ne1 _ _ _ _ (by decide), cl_up_at]
      have v3 : (cl_up (cl_up (cl_up (cl_up (cl_up S 511 j 1) 2 j (P.2 17 j)) 3 j (P.2 18 j)) 0 j (a + ox + f_of P (nI j) 4)) 1 j (oy + f_of P (nI j) 4)).2.1 3 j = P.2 18 j := by rw [cl_up_ne1 _ _ _ _ (by decide), cl_up_ne1 _ _ _ _ (by decide), cl_up_at]
      have v5 : (cl_up (cl_up (cl_up (cl_up (cl_up S 511 j 1) 2 j (P.2 17 j)) 3 j (P.2 18 j)) 0 j (a + ox + f_of P (nI j) 4)) 1 j (oy + f_of P (nI j) 4)).2.1 511 j = 1 := by rw [cl_up_ne1 _ _ _ _ (by decide), cl_up_ne1 _ _ _ _ (by decide), cl_up_ne1 _ _ _ _ (by decide), cl_up_ne1 _ _ _ _ (by decide), cl_up_at]
      generalize cl_up (cl_up (cl_up (cl_up (cl_up S 511 j 1) 2 j (P.2 17 j)) 3 j (P.2 18 j)) 0 j (a + ox + f_of P (nI j) 4)) 1 j (oy + f_of P (nI j) 4) = S1 at xb nb' v0 v1 v2 v3 v5
      have F1 : FR P W (j :: bt_pre (.leaf u)) (j :: bt_pre (.leaf u)) (f + 1) S S1 := ⟨xb.sub (by decide), fun b hb g hg => nb' g b (fun c => hb (Or.inl (by rw [c]; simp))), fun b hb => ⟨nb' 2 b (by omega), nb' 3 b (by omega)⟩, fun x hx' => nb' 511 x (fun c => hx' ⟨by rw [c]; simp, by rw [c]; exact Or.inr m⟩), fun x _ => by rw [xb.2.2 515 (by decide)], fun g g1 g2 f' _ => by rw [xb.2.2 g (by simp; omega)]⟩
      refine rest (Or.inr m) S1 _ _ F1 v0 v1 v2 v3 v5 trivial (nz_mono hhx (by omega)) _ _ _ ?_ rfl rfl
      grind
