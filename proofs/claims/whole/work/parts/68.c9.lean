/-! the class: glyphs, a text in one line (by hand: wip/whole/gen/c9.py) -/
theorem cl_lsw {xs : List Int32} {K : Nat → Prop} {h0 : am_H} {d : Nat} {Q : Option Value → cl_A → cl_S → Prop} {I : am_I} {pc : Nat} {ls : List (Option Value)} {st : List Value} {A : cl_A} {S : cl_S} {dflt : Int} {ps : Array (Int × Int)} {x : Int32} {tgt len : Nat} (hd : decode I.2.1 pc = .ok (.lookupswitch dflt ps, len)) (hs : (ps.toList.zip (ps.toList.drop 1)).all (fun (a, next) => a.1 < next.1) = true) (ht : (pc : Int) + Op.lookupswitch.offset ps.toList dflt x.toInt = (tgt : Int)) (k : cl_wp xs K h0 d Q I tgt ls st A S) : cl_wp xs K h0 d Q I pc ls (.int x :: st) A S :=
  fun h hR hF => am_r hd rfl (show am_nx _ _ _ _ _ _ _ _ _ _ from ⟨x, st, rfl, hs, tgt, ht, k h hR hF⟩)
theorem kk_glyph {xs : List Int32} {K : Nat → Prop} {d : Nat} {A : cl_A} {S : cl_S} {x : Int32} : ∀ Q', Q' (some (.int (f_glyph x))) A S → cl_C xs K (d + 1) 33 [.int x] A S Q' := by
  intro Q' hQ
  refine cl_intro (ms33 xs) (Nat.le_of_ble_eq_true rfl) (fun h0 => ?_)
  refine cl_iload_n (dd D33_ok 0 rfl) rfl ?_
  by_cases c0 : x = 33
  · subst c0
    refine cl_lsw (tgt := 132) (dd D33_ok 1 rfl) (by decide) (by decide) ?_
    refine cl_iconst (v := 2) (dd D33_ok 2 rfl) (by decide) ?_
    exact cl_iret (dd D33_ok 3 rfl) rfl hQ
  by_cases c1 : x = 39
  · subst c1
    refine cl_lsw (tgt := 132) (dd D33_ok 1 rfl) (by decide) (by decide) ?_
    refine cl_iconst (v := 2) (dd D33_ok 2 rfl) (by decide) ?_
    exact cl_iret (dd D33_ok 3 rfl) rfl hQ
  by_cases c2 : x = 44
  · subst c2
    refine cl_lsw (tgt := 132) (dd D33_ok 1 rfl) (by decide) (by decide) ?_
    refine cl_iconst (v := 2) (dd D33_ok 2 rfl) (by decide) ?_
    exact cl_iret (dd D33_ok 3 rfl) rfl hQ
  by_cases c3 : x = 46
  · subst c3
    refine cl_lsw (tgt := 132) (dd D33_ok 1 rfl) (by decide) (by decide) ?_
    refine cl_iconst (v := 2) (dd D33_ok 2 rfl) (by decide) ?_
    exact cl_iret (dd D33_ok 3 rfl) rfl hQ
  by_cases c4 : x = 58
  · subst c4
    refine cl_lsw (tgt := 132) (dd D33_ok 1 rfl) (by decide) (by decide) ?_
    refine cl_iconst (v := 2) (dd D33_ok 2 rfl) (by decide) ?_
    exact cl_iret (dd D33_ok 3 rfl) rfl hQ
  by_cases c5 : x = 59
  · subst c5
    refine cl_lsw (tgt := 132) (dd D33_ok 1 rfl) (by decide) (by decide) ?_
    refine cl_iconst (v := 2) (dd D33_ok 2 rfl) (by decide) ?_
    exact cl_iret (dd D33_ok 3 rfl) rfl hQ
  by_cases c6 : x = 64
  · subst c6
    refine cl_lsw (tgt := 134) (dd D33_ok 1 rfl) (by decide) (by decide) ?_
    refine cl_iconst (v := 5) (dd D33_ok 4 rfl) (by decide) ?_
    exact cl_iret (dd D33_ok 5 rfl) rfl hQ
  by_cases c7 : x = 77
  · subst c7
    refine cl_lsw (tgt := 134) (dd D33_ok 1 rfl) (by decide) (by decide) ?_
    refine cl_iconst (v := 5) (dd D33_ok 4 rfl) (by decide) ?_
    exact cl_iret (dd D33_ok 5 rfl) rfl hQ
  by_cases c8 : x = 87
  · subst c8
    refine cl_lsw (tgt := 134) (dd D33_ok 1 rfl) (by decide) (by decide) ?_
    refine cl_iconst (v := 5) (dd D33_ok 4 rfl) (by decide) ?_
    exact cl_iret (dd D33_ok 5 rfl) rfl hQ
  by_cases c9 : x = 105
  · subst c9
    refine cl_lsw (tgt := 132) (dd D33_ok 1 rfl) (by decide) (by decide) ?_
    refine cl_iconst (v := 2) (dd D33_ok 2 rfl) (by decide) ?_
    exact cl_iret (dd D33_ok 3 rfl) rfl hQ
  by_cases c10 : x = 106
  · subst c10
    refine cl_lsw (tgt := 132) (dd D33_ok 1 rfl) (by decide) (by decide) ?_
    refine cl_iconst (v := 2) (dd D33_ok 2 rfl) (by decide) ?_
    exact cl_iret (dd D33_ok 3 rfl) rfl hQ
  by_cases c11 : x = 108
  · subst c11
    refine cl_lsw (tgt := 132) (dd D33_ok 1 rfl) (by decide) (by decide) ?_
    refine cl_iconst (v := 2) (dd D33_ok 2 rfl) (by decide) ?_
    exact cl_iret (dd D33_ok 3 rfl) rfl hQ
  by_cases c12 : x = 109
  · subst c12
    refine cl_lsw (tgt := 134) (dd D33_ok 1 rfl) (by decide) (by decide) ?_
    refine cl_iconst (v := 5) (dd D33_ok 4 rfl) (by decide) ?_
    exact cl_iret (dd D33_ok 5 rfl) rfl hQ
  by_cases c13 : x = 119
  · subst c13
    refine cl_lsw (tgt := 134) (dd D33_ok 1 rfl) (by decide) (by decide) ?_
    refine cl_iconst (v := 5) (dd D33_ok 4 rfl) (by decide) ?_
    exact cl_iret (dd D33_ok 5 rfl) rfl hQ
  by_cases c14 : x = 124
  · subst c14
    refine cl_lsw (tgt := 132) (dd D33_ok 1 rfl) (by decide) (by decide) ?_
    refine cl_iconst (v := 2) (dd D33_ok 2 rfl) (by decide) ?_
    exact cl_iret (dd D33_ok 3 rfl) rfl hQ
  have ng : ∀ k : Int32, ¬ x = k → ¬ k.toInt = x.toInt := fun k c e => c (Int32.toInt_inj.mp e.symm)
  have n0 : ¬ (33 : Int) = x.toInt := ng 33 c0
  have n1 : ¬ (39 : Int) = x.toInt := ng 39 c1
  have n2 : ¬ (44 : Int) = x.toInt := ng 44 c2
  have n3 : ¬ (46 : Int) = x.toInt := ng 46 c3
  have n4 : ¬ (58 : Int) = x.toInt := ng 58 c4
  have n5 : ¬ (59 : Int) = x.toInt := ng 59 c5
  have n6 : ¬ (64 : Int) = x.toInt := ng 64 c6
  have n7 : ¬ (77 : Int) = x.toInt := ng 77 c7
  have n8 : ¬ (87 : Int) = x.toInt := ng 87 c8
  have n9 : ¬ (105 : Int) = x.toInt := ng 105 c9
  have n10 : ¬ (106 : Int) = x.toInt := ng 106 c10
  have n11 : ¬ (108 : Int) = x.toInt := ng 108 c11
  have n12 : ¬ (109 : Int) = x.toInt := ng 109 c12
  have n13 : ¬ (119 : Int) = x.toInt := ng 119 c13
  have n14 : ¬ (124 : Int) = x.toInt := ng 124 c14
  refine cl_lsw (tgt := 136) (dd D33_ok 1 rfl) (by decide) (by
    show (1 : Int) + Op.lookupswitch.offset [(33, 131), (39, 131), (44, 131), (46, 131), (58, 131), (59, 131), (64, 133), (77, 133), (87, 133), (105, 131), (106, 131), (108, 131), (109, 133), (119, 133), (124, 131)] 135 x.toInt = 136
    simp only [Op.lookupswitch.offset_cons, Op.lookupswitch.offset_nil, if_neg n0, if_neg n1, if_neg n2, if_neg n3, if_neg n4, if_neg n5, if_neg n6, if_neg n7, if_neg n8, if_neg n9, if_neg n10, if_neg n11, if_neg n12, if_neg n13, if_neg n14]
    decide) ?_
  refine cl_iconst (v := 4) (dd D33_ok 6 rfl) (by decide) ?_
  refine cl_iret (dd D33_ok 7 rfl) rfl ?_
  have e : f_glyph x = 4 := by
    unfold f_glyph
    simp only [c0, c1, c2, c3, c4, c5, c6, c7, c8, c9, c10, c11, c12, c13, c14, if_false, not_false_eq_true, if_true]
  rw [e] at hQ
  exact hQ
set_option maxHeartbeats 1000000 in
theorem vc62_0 {xs : List Int32} {K : Nat → Prop} {h0 : am_H} {d : Nat} {Q : Option Value → cl_A → cl_S → Prop} {A : cl_A} {S : cl_S} {x1 : Int32} {cx1 : Int32}
    (k : (¬ cx1 = -1 → S.1 23 x1.toNatClampNeg) ∧ (cl_wp xs K h0 (d + 1) Q I62 8 [some (cl_rf A 6 0), some (cl_by A x1 cx1), some (cl_by A x1 cx1), some (.int (nI (cl_bn S x1 cx1))), some (.int 0), none] [] A S)) :
    cl_wp xs K h0 (d + 1) Q I62 0 [some (cl_rf A 6 0), some (cl_by A x1 cx1), none, none, none, none] [] A S := by
  refine cl_alB_n (dd D62_ok 0 rfl) rfl ?_
  refine cl_asB_n (dd D62_ok 1 rfl) (Nat.le_of_ble_eq_true rfl) ?_
  refine cl_alB_n (dd D62_ok 2 rfl) rfl ?_
  refine cl_blen (dd D62_ok 3 rfl) k.1 ?_
  refine cl_istore_n (dd D62_ok 4 rfl) (Nat.le_of_ble_eq_true rfl) ?_
  refine cl_iconst (v := 0) (dd D62_ok 5 rfl) (by decide) ?_
  refine cl_istore (dd D62_ok 6 rfl) (Nat.le_of_ble_eq_true rfl) ?_
  exact k.2
set_option maxHeartbeats 1000000 in
theorem vc62_8 {xs : List Int32} {K : Nat → Prop} {h0 : am_H} {d : Nat} {Q : Option Value → cl_A → cl_S → Prop} {A : cl_A} {S : cl_S} {x1 : Int32} {cx1 : Int32} {x2 : Int32} {cx2 : Int32} {x3 : Int32} {x4 : Int32} {o5 : Option Value}
    (k : ((x3 ≤ x4) → Q none A S) ∧ (¬ (x3 ≤ x4) → (¬ cx2 = -1 → S.1 23 x2.toNatClampNeg) ∧ ((vp_in x4 (cl_bn S x2 cx2)) ∧ ((((g_blank S (S.2.1 2300 (120 * x2.toNatClampNeg + x4.toNatClampNeg))) = 0) → (cl_z S) ∧ (∀ s1 : Int32, s1 = (if (S.2.1 601 0) = 0 then 0 else 3) → (cl_wp xs K h0 (d + 1) Q I62 8 [some (cl_rf A 6 0), some (cl_by A x1 cx1), some (cl_by A x2 cx2), some (.int x3), some (.int (x4 + 1)), some (.int (S.2.1 2300 (120 * x2.toNatClampNeg + x4.toNatClampNeg)))] [] A (cl_up (cl_up S 600 0 ((S.2.1 600 0) + ((f_glyph (S.2.1 2300 (120 * x2.toNatClampNeg + x4.toNatClampNeg))) + s1))) 601 0 0)))) ∧ (¬ ((g_blank S (S.2.1 2300 (120 * x2.toNatClampNeg + x4.toNatClampNeg))) = 0) → (cl_z S) ∧ (∀ s2 : Int32, s2 = (if (S.2.1 600 0) ≤ 0 then 0 else 1) → ((am_fit .boolean (.int s2) = true) ∧ (cl_wp xs K h0 (d + 1) Q I62 8 [some (cl_rf A 6 0), some (cl_by A x1 cx1), some (cl_by A x2 cx2), some (.int x3), some (.int (x4 + 1)), some (.int (S.2.1 2300 (120 * x2.toNatClampNeg + x4.toNatClampNeg)))] [] A (cl_up S 601 0 s2))))))))) :
    cl_wp xs K h0 (d + 1) Q I62 8 [some (cl_rf A 6 0), some (cl_by A x1 cx1), some (cl_by A x2 cx2), some (.int x3), some (.int x4), o5] [] A S := by
  refine cl_iload (dd D62_ok 7 rfl) rfl ?_
  refine cl_iload_n (dd D62_ok 8 rfl) rfl ?_
  refine cl_icmp_ge (tgt := 85) (dd D62_ok 9 rfl) (by decide) (fun c1 => ?_) (fun c1 => ?_)
  · exact cl_vret (dd D62_ok 45 rfl) rfl (k.1 c1)
  · refine cl_alB_n (dd D62_ok 10 rfl) rfl ?_
    refine cl_iload (dd D62_ok 11 rfl) rfl ?_
    refine cl_bld (e := S.2.1 2300 (120 * x2.toNatClampNeg + x4.toNatClampNeg)) (dd D62_ok 12 rfl) (k.2 c1).1 (k.2 c1).2.1 rfl ?_
    refine cl_istore (dd D62_ok 13 rfl) (Nat.le_of_ble_eq_true rfl) ?_
    refine cl_iload (dd D62_ok 14 rfl) rfl ?_
    refine cl_callsP (r := .int (g_blank S (S.2.1 2300 (120 * x2.toNatClampNeg + x4.toNatClampNeg)))) (as := [.int (S.2.1 2300 (120 * x2.toNatClampNeg + x4.toNatClampNeg))]) (rest := []) (dd D62_ok 15 rfl) pl6_44 rfl (Nat.le_of_ble_eq_true rfl) (cc_g_blank (S := S) ) rfl ?_
    refine cl_if_eq (tgt := 47) (dd D62_ok 16 rfl) (by decide) (fun c2 => ?_) (fun c2 => ?_)
    · refine cl_aload_n (dd D62_ok 26 rfl) rfl ?_
      refine cl_dup (dd D62_ok 27 rfl) ?_
      refine cl_gI (g := 600) (e := S.2.1 600 0) (dd D62_ok 28 rfl) pl6_9 (by decide) (by decide) (by decide) rfl rfl ((k.2 c1).2.2.1 c2).1.l6 rfl ?_
      refine cl_iload (dd D62_ok 29 rfl) rfl ?_
      refine cl_callsP (r := .int (f_glyph (S.2.1 2300 (120 * x2.toNatClampNeg + x4.toNatClampNeg)))) (as := [.int (S.2.1 2300 (120 * x2.toNatClampNeg + x4.toNatClampNeg))]) (rest := [.int (S.2.1 600 0), cl_rf A 6 0]) (dd D62_ok 30 rfl) pl6_48 rfl (Nat.le_of_ble_eq_true rfl) (kk_glyph (S := S) ) rfl ?_
      refine cl_aload_n (dd D62_ok 31 rfl) rfl ?_
      refine cl_gI (g := 601) (e := S.2.1 601 0) (dd D62_ok 32 rfl) pl6_15 (by decide) (by decide) (by decide) rfl rfl ((k.2 c1).2.2.1 c2).1.l6 rfl ?_
      have J1 : ∀ s1 : Int32, s1 = (if (S.2.1 601 0) = 0 then 0 else 3) → cl_wp xs K h0 (d + 1) Q I62 69 [some (cl_rf A 6 0), some (cl_by A x1 cx1), some (cl_by A x2 cx2), some (.int x3), some (.int x4), some (.int (S.2.1 2300 (120 * x2.toNatClampNeg + x4.toNatClampNeg)))] [.int s1, .int (f_glyph (S.2.1 2300 (120 * x2.toNatClampNeg + x4.toNatClampNeg))), .int (S.2.1 600 0), cl_rf A 6 0] A S := by
        intro s1 e_s1
        refine cl_iadd (dd D62_ok 37 rfl) ?_
        refine cl_iadd (dd D62_ok 38 rfl) ?_
        refine cl_pI (g := 600) (dd D62_ok 39 rfl) pl6_9 (by decide) (by decide) rfl rfl rfl rfl rfl ((k.2 c1).2.2.1 c2).1.l6 ?_
        refine cl_aload_n (dd D62_ok 40 rfl) rfl ?_
        refine cl_iconst (v := 0) (dd D62_ok 41 rfl) (by decide) ?_
        refine cl_pI (g := 601) (dd D62_ok 42 rfl) pl6_15 (by decide) (by decide) rfl rfl rfl rfl rfl ((k.2 c1).2.2.1 c2).1.l6 ?_
        refine cl_iinc (v := x4 + 1) (dd D62_ok 43 rfl) rfl rfl ?_
        refine cl_goto (tgt := 8) (dd D62_ok 44 rfl) (by decide) ?_
        exact (((k.2 c1).2.2.1 c2).2 s1 e_s1)
      refine cl_if_eq (tgt := 68) (dd D62_ok 33 rfl) (by decide) (fun c4 => ?_) (fun c4 => ?_)
      · refine cl_iconst (v := 0) (dd D62_ok 36 rfl) (by decide) ?_
        exact J1 _ (by first | rfl | (rw [if_pos c4]; done) | (rw [if_pos c4]; rfl) | simp only [if_pos c4])
      · refine cl_iconst (v := 3) (dd D62_ok 34 rfl) (by decide) ?_
        refine cl_goto (tgt := 69) (dd D62_ok 35 rfl) (by decide) ?_
        exact J1 _ (by first | rfl | (rw [if_neg c4]; done) | (rw [if_neg c4]; rfl) | simp only [if_neg c4])
    · refine cl_aload_n (dd D62_ok 17 rfl) rfl ?_
      refine cl_aload_n (dd D62_ok 18 rfl) rfl ?_
      refine cl_gI (g := 600) (e := S.2.1 600 0) (dd D62_ok 19 rfl) pl6_9 (by decide) (by decide) (by decide) rfl rfl ((k.2 c1).2.2.2 c2).1.l6 rfl ?_
      have J2 : ∀ s2 : Int32, s2 = (if (S.2.1 600 0) ≤ 0 then 0 else 1) → cl_wp xs K h0 (d + 1) Q I62 41 [some (cl_rf A 6 0), some (cl_by A x1 cx1), some (cl_by A x2 cx2), some (.int x3), some (.int x4), some (.int (S.2.1 2300 (120 * x2.toNatClampNeg + x4.toNatClampNeg)))] [.int s2, cl_rf A 6 0] A S := by
        intro s2 e_s2
        refine cl_pI (g := 601) (dd D62_ok 24 rfl) pl6_15 (by decide) (by decide) rfl rfl rfl (((k.2 c1).2.2.2 c2).2 s2 e_s2).1 rfl ((k.2 c1).2.2.2 c2).1.l6 ?_
        refine cl_goto (tgt := 79) (dd D62_ok 25 rfl) (by decide) ?_
        refine cl_iinc (v := x4 + 1) (dd D62_ok 43 rfl) rfl rfl ?_
        refine cl_goto (tgt := 8) (dd D62_ok 44 rfl) (by decide) ?_
        exact (((k.2 c1).2.2.2 c2).2 s2 e_s2).2
      refine cl_if_le (tgt := 40) (dd D62_ok 20 rfl) (by decide) (fun c6 => ?_) (fun c6 => ?_)
      · refine cl_iconst (v := 0) (dd D62_ok 23 rfl) (by decide) ?_
        exact J2 _ (by first | rfl | (rw [if_pos c6]; done) | (rw [if_pos c6]; rfl) | simp only [if_pos c6])
      · refine cl_iconst (v := 1) (dd D62_ok 21 rfl) (by decide) ?_
        refine cl_goto (tgt := 41) (dd D62_ok 22 rfl) (by decide) ?_
        exact J2 _ (by first | rfl | (rw [if_neg c6]; done) | (rw [if_neg c6]; rfl) | simp only [if_neg c6])
/-- the ruler's two numbers -/
def cl_ru (S : cl_S) (e : Int32 × Int32) : cl_S := cl_up (cl_up S 600 0 e.1) 601 0 e.2
theorem cl_ru_X (S : cl_S) (e : Int32 × Int32) : cl_X [600, 601] S (cl_ru S e) := (cl_X.rf.up (by decide) _ _).up (by decide) _ _
theorem cl_ru_0 (S : cl_S) (e : Int32 × Int32) : (cl_ru S e).2.1 600 0 = e.1 := by simp [cl_ru, cl_up]
theorem cl_ru_1 (S : cl_S) (e : Int32 × Int32) : (cl_ru S e).2.1 601 0 = e.2 := by simp [cl_ru, cl_up]
theorem cl_ru_b (S : cl_S) (e : Int32 × Int32) (b : Int32) : cl_up (cl_ru S e) 601 0 b = cl_ru S (e.1, b) := by
  unfold cl_ru cl_up
  congr 2
  funext g j
  by_cases h1 : g = 601 ∧ j = 0
  · simp [h1]
  · simp [h1]
theorem cl_ru_a (S : cl_S) (e : Int32 × Int32) (a b : Int32) : cl_up (cl_up (cl_ru S e) 600 0 a) 601 0 b = cl_ru S (a, b) := by
  unfold cl_ru cl_up
  congr 2
  funext g j
  by_cases h1 : g = 601 ∧ j = 0
  · simp [h1]
  · by_cases h2 : g = 600 ∧ j = 0
    · simp [h2]
    · simp [h1, h2]
/-- a byte is measured -/
def g_ob (e : Int32 × Int32) (b : Int32) : Int32 × Int32 := if f_blank b = 0 then (e.1 + (f_glyph b + (if e.2 = 0 then 0 else 3)), 0) else (e.1, if e.1 ≤ 0 then 0 else 1)
theorem byc_len {S : cl_S} {M : md_S} {nn i : Nat} (hT : cl_T S M nn) (hi : i < nn) : (by_of M i).length = cl_bn S (nI i) (S.2.1 508 i) := by
  have := hT.b120 hi
  unfold by_of
  rw [hT.bc hi, nI_clamp (by omega)]
  simp
theorem byc_get {S : cl_S} {M : md_S} {nn i j : Nat} (hT : cl_T S M nn) (hi : i < nn) (hj : j < cl_bn S (nI i) (S.2.1 508 i)) : (by_of M i)[j]? = some (S.2.1 2300 (120 * i + j)) := by
  have := hT.b120 hi
  unfold by_of
  rw [hT.bc hi, nI_clamp (by omega), List.getElem?_map, List.getElem?_range hj, hT.bb hi j hj]
  rfl
theorem kk_bytes1 {xs : List Int32} {K : Nat → Prop} {h0 : am_H} {d : Nat} {Q : Option Value → cl_A → cl_S → Prop} {A : cl_A} {S : cl_S} {M : md_S} {nn i : Nat} (hT : cl_T S M nn) (hi : i < nn) : ∀ (r j : Nat) (e : Int32 × Int32) (o5 : Option Value), j + r = cl_bn S (nI i) (S.2.1 508 i) → Q none A (cl_ru S (((by_of M i).drop j).foldl g_ob e)) → cl_wp xs K h0 (d + 1) Q I62 8 [some (cl_rf A 6 0), some (cl_by A (nI i) (S.2.1 508 i)), some (cl_by A (nI i) (S.2.1 508 i)), some (.int (nI (cl_bn S (nI i) (S.2.1 508 i)))), some (.int (nI j)), o5] [] A (cl_ru S e) := by
  have h120 := hT.b120 hi
  intro r
  induction r with
  | zero =>
    intro j e o5 hj hQ
    refine vc62_8 ⟨fun _ => ?_, fun c => absurd (nI_le (by omega) (by omega)) c⟩
    rw [List.drop_of_length_le (by rw [byc_len hT hi]; omega)] at hQ
    exact hQ
  | succ r ih =>
    intro j e o5 hj hQ
    have hjc : j < cl_bn S (nI i) (S.2.1 508 i) := by omega
    have hbn : cl_bn (cl_ru S e) (nI i) (S.2.1 508 i) = cl_bn S (nI i) (S.2.1 508 i) := rfl
    rw [List.drop_eq_getElem_cons (by rw [byc_len hT hi]; omega), List.foldl_cons] at hQ
    have hg := byc_get hT hi hjc
    rw [List.getElem?_eq_getElem (by rw [byc_len hT hi]; omega)] at hg
    rw [Option.some.inj hg] at hQ
    refine vc62_8 ⟨fun c => absurd c (nI_ge (by omega) (by omega)), fun _ => ⟨fun c => ?_, ?_, ?_⟩⟩
    · rw [hT.cl hi]
      exact hT.by hi c
    · rw [hbn]
      exact vp_nI hjc (by omega)
    · have eb : (cl_ru S e).2.1 2300 (120 * (nI i).toNatClampNeg + (nI j).toNatClampNeg) = S.2.1 2300 (120 * i + j) := by
        rw [hT.cl hi, nI_clamp (by omega)]
        rfl
      simp only [eb]
      rw [nI_1]
      have hz : cl_z (cl_ru S e) := hT.2.1.mv rfl
      generalize S.2.1 2300 (120 * i + j) = b at hQ
      refine ⟨fun c => ?_, fun c => ?_⟩
      · have c : f_blank b = 0 := c
        refine ⟨hz, fun s1 e1 => ?_⟩
        rw [cl_ru_1] at e1
        rw [cl_ru_0, cl_ru_a]
        subst e1
        refine ih _ _ _ (by omega) ?_
        unfold g_ob at hQ
        rw [if_pos c] at hQ
        exact hQ
      · have c : ¬ f_blank b = 0 := c
        refine ⟨hz, fun s1 e1 => ?_⟩
        rw [cl_ru_0] at e1
        have hf : am_fit .boolean (.int s1) = true := by
          rw [e1]
          split <;> rfl
        refine ⟨hf, ?_⟩
        rw [cl_ru_b]
        subst e1
        refine ih _ _ _ (by omega) ?_
        unfold g_ob at hQ
        rw [if_neg c] at hQ
        exact hQ
theorem kk_bytes {xs : List Int32} {K : Nat → Prop} {d : Nat} {A : cl_A} {S : cl_S} {M : md_S} {nn i : Nat} {e : Int32 × Int32} (hT : cl_T S M nn) (hi : i < nn) : ∀ Q', Q' none A (cl_ru S ((by_of M i).foldl g_ob e)) → cl_C xs K (d + 2) 62 [cl_rf A 6 0, cl_by A (nI i) (S.2.1 508 i)] A (cl_ru S e) Q' := by
  intro Q' hQ
  refine cl_intro (ms62 xs) (Nat.le_of_ble_eq_true rfl) (fun h0 => vc62_0 ⟨fun c => ?_, ?_⟩)
  · rw [hT.cl hi]
    exact hT.by hi c
  · exact kk_bytes1 hT hi _ 0 e none (by rw [Nat.zero_add]) hQ
set_option maxHeartbeats 1000000 in
theorem vc61_0 {xs : List Int32} {K : Nat → Prop} {h0 : am_H} {d : Nat} {Q : Option Value → cl_A → cl_S → Prop} {A : cl_A} {S : cl_S} {x1 : Int32}
    (k : (cl_n S x1) ∧ (cl_wp xs K h0 d Q I61 5 [some (cl_rf A 6 0), some (cl_rf A 5 x1), some (cl_rf A 5 (S.2.1 505 x1.toNatClampNeg))] [] A S)) :
    cl_wp xs K h0 d Q I61 0 [some (cl_rf A 6 0), some (cl_rf A 5 x1), none] [] A S := by
  refine cl_aload_n (dd D61_ok 0 rfl) rfl ?_
  refine cl_gR (g := 505) (f := 5) (e := S.2.1 505 x1.toNatClampNeg) (dd D61_ok 1 rfl) pl6_29 (by decide) (by decide) (by decide) rfl rfl k.1.l5 rfl ?_
  refine cl_astore_n (dd D61_ok 2 rfl) (Nat.le_of_ble_eq_true rfl) ?_
  exact k.2
set_option maxHeartbeats 1000000 in
theorem vc61_5 {xs : List Int32} {K : Nat → Prop} {h0 : am_H} {d : Nat} {Q : Option Value → cl_A → cl_S → Prop} {A : cl_A} {S : cl_S} {x1 : Int32} {x2 : Int32}
    (k : ((x2 = -1) → Q none A S) ∧ (¬ (x2 = -1) → (cl_n S x2) ∧ ((cl_z S) ∧ (cl_C xs K d 62 [cl_rf A 6 0, cl_by A x2 (S.2.1 508 x2.toNatClampNeg)] A S (fun v A' N1 => A' = A ∧ N1.1 = S.1 ∧ v = none ∧ (cl_C xs K d 61 [cl_rf A 6 0, cl_rf A 5 x2] A N1 (fun v A' N2 => A' = A ∧ N2.1 = N1.1 ∧ v = none ∧ (cl_wp xs K h0 d Q I61 5 [some (cl_rf A 6 0), some (cl_rf A 5 x1), some (cl_rf A 5 (N2.2.1 507 x2.toNatClampNeg))] [] A N2)))))))) :
    cl_wp xs K h0 d Q I61 5 [some (cl_rf A 6 0), some (cl_rf A 5 x1), some (cl_rf A 5 x2)] [] A S := by
  refine cl_aload_n (dd D61_ok 3 rfl) rfl ?_
  refine cl_ifnull (tgt := 30) (dd D61_ok 4 rfl) (by decide) (fun c1 => ?_) (fun c1 => ?_)
  · exact cl_vret (dd D61_ok 16 rfl) rfl (k.1 c1)
  · refine cl_aload_n (dd D61_ok 5 rfl) rfl ?_
    refine cl_aload_n (dd D61_ok 6 rfl) rfl ?_
    refine cl_gB (e := S.2.1 508 x2.toNatClampNeg) (dd D61_ok 7 rfl) pl6_33 (by decide) (k.2 c1).1.l5 rfl ?_
    refine cl_call (as := [cl_by A x2 (S.2.1 508 x2.toNatClampNeg)]) (rest := []) (v := 0) (dd D61_ok 8 rfl) pl6_37 rfl (Nat.le_of_ble_eq_true rfl) (ms62 xs) rfl (by decide) (k.2 c1).2.1.l6 (((k.2 c1).2.2).mono ?_) rfl
    rintro v A N1 ⟨rfl, e1, rfl, w1⟩
    refine cl_aload_n (dd D61_ok 9 rfl) rfl ?_
    refine cl_aload_n (dd D61_ok 10 rfl) rfl ?_
    refine cl_call (as := [cl_rf A 5 x2]) (rest := []) (v := 0) (dd D61_ok 11 rfl) pl6_19 rfl (Nat.le_of_ble_eq_true rfl) (ms61 xs) rfl (by decide) ((k.2 c1).2.1.mv e1).l6 ((w1).mono ?_) rfl
    rintro v A N2 ⟨rfl, e2, rfl, w2⟩
    refine cl_aload_n (dd D61_ok 12 rfl) rfl ?_
    refine cl_gR (g := 507) (f := 5) (e := N2.2.1 507 x2.toNatClampNeg) (dd D61_ok 13 rfl) pl6_41 (by decide) (by decide) (by decide) rfl rfl (((k.2 c1).1.mv e1).mv e2).l5 rfl ?_
    refine cl_astore_n (dd D61_ok 14 rfl) (Nat.le_of_ble_eq_true rfl) ?_
    refine cl_goto (tgt := 5) (dd D61_ok 15 rfl) (by decide) ?_
    exact w2
/-- addTexts below node i -/
def kk_textsP (xs : List Int32) (K : Nat → Prop) (A : cl_A) (S : cl_S) (M : md_S) (i : Nat) (k : bt) : Prop := ∀ (D : Nat) (e : Int32 × Int32), 3 + bt_ht k ≤ D → ∀ Q', Q' none A (cl_ru S (((bt_pre k).flatMap (by_of M)).foldl g_ob e)) → cl_C xs K D 61 [cl_rf A 6 0, cl_rf A 5 (nI i)] A (cl_ru S e) Q'
theorem kk_texts1 {xs : List Int32} {K : Nat → Prop} {h0 : am_H} {D : Nat} {Q : Option Value → cl_A → cl_S → Prop} {A : cl_A} {S : cl_S} {M : md_S} {nn : Nat} {x1 : Int32} (hT : cl_T S M nn) : ∀ (t : bt) (p : Int32) (e : Int32 × Int32), bt_R (M.2 4) (M.2 5) (M.2 7) p t → (∀ x ∈ bt_pre t, x < nn) → bt_all (kk_textsP xs K A S M) t → 2 + bt_ht t ≤ D → Q none A (cl_ru S (((bt_pre t).flatMap (by_of M)).foldl g_ob e)) → cl_wp xs K h0 D Q I61 5 [some (cl_rf A 6 0), some (cl_rf A 5 x1), some (cl_rf A 5 (bt_hd (-1) t))] [] A (cl_ru S e) := by
  intro t
  induction t with
  | leaf u =>
    intro p e _ _ _ _ hQ
    exact vc61_5 ⟨fun _ => hQ, fun c => absurd rfl c⟩
  | branch j k s _ ihs =>
    intro p e hR hn hA hD hQ
    have hj : j < nn := hn j (by simp [bt_pre])
    have h60 := hT.1
    have hD : 2 + max (bt_ht k + 1) (bt_ht s) ≤ D := hD
    have hm1 := Nat.le_max_left (bt_ht k + 1) (bt_ht s)
    have hm2 := Nat.le_max_right (bt_ht k + 1) (bt_ht s)
    refine vc61_5 ⟨fun c => absurd c (nI_ne_m1 (by omega)), fun c => ⟨(hT.n hj).mv rfl, hT.2.1.mv rfl, ?_⟩⟩
    have e8 : (cl_ru S e).2.1 508 (nI j).toNatClampNeg = S.2.1 508 j := by
      rw [hT.cl hj]
      rfl
    show cl_C xs K D 62 [cl_rf A 6 0, cl_by A (nI j) ((cl_ru S e).2.1 508 (nI j).toNatClampNeg)] A (cl_ru S e) _
    rw [e8]
    obtain ⟨d', rfl⟩ : ∃ d', D = d' + 2 := ⟨D - 2, by omega⟩
    refine kk_bytes hT hj _ ⟨rfl, rfl, rfl, ?_⟩
    refine hA.1 (d' + 2) _ (by omega) _ ⟨rfl, rfl, rfl, ?_⟩
    have e7 : ∀ e', (cl_ru S e').2.1 507 (nI j).toNatClampNeg = bt_hd (-1) s := by
      intro e'
      rw [hT.cl hj, ← hR.2.2.2.1, ← hT.nx hj]
      rfl
    show cl_wp _ _ _ _ _ _ _ [_, _, some (cl_rf A 5 ((cl_ru S _).2.1 507 (nI j).toNatClampNeg))] _ _ _
    rw [e7]
    refine ihs p _ hR.2.2.2.2.2 (fun x hx => hn x (by simp [bt_pre, hx])) hA.2.2 (by omega) ?_
    simp only [bt_pre, List.flatMap_cons, List.flatMap_append, List.foldl_append] at hQ
    exact hQ
theorem kk_texts {xs : List Int32} {K : Nat → Prop} {A : cl_A} {S : cl_S} {M : md_S} {nn : Nat} (hT : cl_T S M nn) : ∀ (t : bt) (p : Int32), bt_R (M.2 4) (M.2 5) (M.2 7) p t → (∀ x ∈ bt_pre t, x < nn) → bt_all (kk_textsP xs K A S M) t := by
  intro t
  induction t with
  | leaf u => intro p _ _; trivial
  | branch i k s ihk ihs =>
    intro p hR hn
    have hi : i < nn := hn i (by simp [bt_pre])
    have hk : ∀ x ∈ bt_pre k, x < nn := fun x hx => hn x (by simp [bt_pre, hx])
    have ihk := ihk (nI i) hR.2.2.2.2.1 hk
    refine ⟨?_, ihk, ihs p hR.2.2.2.2.2 (fun x hx => hn x (by simp [bt_pre, hx]))⟩
    intro D e hD Q' hQ
    obtain ⟨d', rfl⟩ : ∃ d', D = d' + 1 := ⟨D - 1, by omega⟩
    refine cl_intro (ms61 xs) (Nat.le_of_ble_eq_true rfl) (fun h0 => vc61_0 ⟨(hT.n hi).mv rfl, ?_⟩)
    have e5 : (cl_ru S e).2.1 505 (nI i).toNatClampNeg = bt_hd (-1) k := by
      rw [hT.cl hi, ← hR.2.2.1, ← hT.fk hi]
      rfl
    rw [e5]
    exact kk_texts1 hT k _ e hR.2.2.2.2.1 hk ihk (by omega) hQ
/-- both measures of a line -/
def ol_R (s : Int32) (n : Nat) (e : Int32 × Int32) (o : Int32 × Int32 × Int32) : Prop := o.1 = e.1 * s ∧ o.2.1 = (if e.2 = 0 then 0 else 3 * s) ∧ ∃ m, m ≤ 8 * n ∧ e.1 = nI m ∧ (o.2.2 = 0 ∧ m = 0 ∧ e.2 = 0 ∨ o.2.2 = 1 ∧ 0 < m)
theorem ite_P {P : Int32 → Prop} {c : Prop} [Decidable c] {a b : Int32} (ha : P a) (hb : P b) : P (if c then a else b) := by
  split
  · exact ha
  · exact hb
theorem f_glyph_le (b : Int32) : ∃ g, 2 ≤ g ∧ g ≤ 5 ∧ f_glyph b = nI g := by
  have : f_glyph b = 2 ∨ f_glyph b = 4 ∨ f_glyph b = 5 := by
    unfold f_glyph
    repeat' (refine ite_P (P := fun x => x = 2 ∨ x = 4 ∨ x = 5) ?_ ?_)
    all_goals decide
  rcases this with h | h | h
  · exact ⟨2, by omega, by omega, h⟩
  · exact ⟨4, by omega, by omega, h⟩
  · exact ⟨5, by omega, by omega, h⟩
theorem ol_step {s : Int32} {n : Nat} {e : Int32 × Int32} {o : Int32 × Int32 × Int32} {b : Int32} (hs : ¬ s = 0) (hn : n ≤ 100000) (h : ol_R s n e o) : ol_R s (n + 1) (g_ob e b) (ol_st s o b) := by
  obtain ⟨h1, h2, m, h3, h4, h5⟩ := h
  unfold g_ob ol_st
  by_cases c : f_blank b = 0
  · rw [if_pos c, if_pos c]
    obtain ⟨g, g1, g2, g3⟩ := f_glyph_le b
    refine ⟨?_, ?_, m + (g + (if e.2 = 0 then 0 else 3)), ?_, ?_, Or.inr ⟨rfl, by omega⟩⟩
    · show o.1 + (o.2.1 + f_glyph b * s) = (e.1 + (f_glyph b + (if e.2 = 0 then 0 else 3))) * s
      rw [h1, h2, Int32.add_mul, Int32.add_mul]
      congr 1
      rw [Int32.add_comm]
      congr 1
      split
      · rw [Int32.zero_mul]
      · rfl
    · rfl
    · split <;> omega
    · show e.1 + (f_glyph b + (if e.2 = 0 then 0 else 3)) = _
      rw [h4, g3]
      split
      · show nI m + (nI g + nI 0) = _
        rw [nI_add, nI_add]
      · show nI m + (nI g + nI 3) = _
        rw [nI_add, nI_add]
  · rw [if_neg c, if_neg c]
    rcases h5 with ⟨q1, q2, q3⟩ | ⟨q1, q2⟩
    · subst q2
      have e1 : e.1 ≤ 0 := by rw [h4]; decide
      simp only [if_pos q1, if_pos e1]
      refine ⟨h1, ?_, 0, by omega, h4, Or.inl ⟨q1, rfl, rfl⟩⟩
      rw [h2, q3]
    · have e1 : ¬ e.1 ≤ 0 := by
        rw [h4]
        exact nI_ge (a := 0) q2 (by omega)
      have q0 : ¬ o.2.2 = 0 := by rw [q1]; decide
      simp only [if_neg q0, if_neg e1]
      refine ⟨h1, ?_, m, by omega, h4, Or.inr ⟨q1, q2⟩⟩
      show (if ¬ o.2.1 = 0 then o.2.1 else 3 * s) = _
      rw [if_neg (show ¬ (1 : Int32) = 0 by decide)]
      by_cases c2 : o.2.1 = 0
      · rw [if_neg (fun q => q c2)]
      · rw [if_pos c2, h2]
        rw [h2] at c2
        by_cases c3 : e.2 = 0
        · rw [if_pos c3] at c2
          exact absurd rfl c2
        · rw [if_neg c3]
theorem ol_fold {s : Int32} (hs : ¬ s = 0) : ∀ (l : List Int32) (n : Nat) (e : Int32 × Int32) (o : Int32 × Int32 × Int32), n + l.length ≤ 100000 → ol_R s n e o → ol_R s (n + l.length) (l.foldl g_ob e) (l.foldl (ol_st s) o) := by
  intro l
  induction l with
  | nil => intro n e o _ h; exact h
  | cons b l ih =>
    intro n e o hn h
    rw [List.length_cons] at hn ⊢
    have := ih (n + 1) (g_ob e b) (ol_st s o b) (by omega) (ol_step hs (by omega) h)
    rw [show n + (l.length + 1) = n + 1 + l.length by omega]
    exact this
theorem by_flat {M : md_S} : ∀ (l : List Nat), (∀ x ∈ l, (by_of M x).length ≤ 120) → (l.flatMap (by_of M)).length ≤ 120 * l.length := by
  intro l
  induction l with
  | nil => intro _; simp
  | cons a l ih =>
    intro h
    have h1 := h a (by simp)
    have h2 := ih (fun x hx => h x (by simp [hx]))
    simp only [List.flatMap_cons, List.length_append, List.length_cons]
    omega
set_option maxHeartbeats 1000000 in
theorem vc60_0 {xs : List Int32} {K : Nat → Prop} {h0 : am_H} {d : Nat} {Q : Option Value → cl_A → cl_S → Prop} {A : cl_A} {S : cl_S} {x1 : Int32}
    (k : (cl_z S) ∧ (cl_C xs K d 61 [cl_rf A 6 0, cl_rf A 5 x1] A (cl_up (cl_up S 600 0 0) 601 0 0) (fun v A' N1 => A' = A ∧ N1.1 = S.1 ∧ v = none ∧ ((cl_n N1 x1) ∧ (Q (some (.int ((N1.2.1 600 0) * (N1.2.1 2200 (9 * x1.toNatClampNeg + 8))))) A N1))))) :
    cl_wp xs K h0 d Q I60 0 [some (cl_rf A 6 0), some (cl_rf A 5 x1)] [] A S := by
  refine cl_aload_n (dd D60_ok 0 rfl) rfl ?_
  refine cl_iconst (v := 0) (dd D60_ok 1 rfl) (by decide) ?_
  refine cl_pI (g := 600) (dd D60_ok 2 rfl) pl6_9 (by decide) (by decide) rfl rfl rfl rfl rfl k.1.l6 ?_
  refine cl_aload_n (dd D60_ok 3 rfl) rfl ?_
  refine cl_iconst (v := 0) (dd D60_ok 4 rfl) (by decide) ?_
  refine cl_pI (g := 601) (dd D60_ok 5 rfl) pl6_15 (by decide) (by decide) rfl rfl rfl rfl rfl k.1.l6 ?_
  refine cl_aload_n (dd D60_ok 6 rfl) rfl ?_
  refine cl_aload_n (dd D60_ok 7 rfl) rfl ?_
  refine cl_call (as := [cl_rf A 5 x1]) (rest := []) (v := 0) (dd D60_ok 8 rfl) pl6_19 rfl (Nat.le_of_ble_eq_true rfl) (ms61 xs) rfl (by decide) k.1.l6 ((k.2).mono ?_) rfl
  rintro v A N1 ⟨rfl, e1, rfl, w1⟩
  refine cl_aload_n (dd D60_ok 9 rfl) rfl ?_
  refine cl_gI (g := 600) (e := N1.2.1 600 0) (dd D60_ok 10 rfl) pl6_9 (by decide) (by decide) (by decide) rfl rfl (k.1.mv e1).l6 rfl ?_
  refine cl_aload_n (dd D60_ok 11 rfl) rfl ?_
  refine cl_getO (g := 22) (dd D60_ok 12 rfl) pl6_23 (by decide) (by decide) (by decide) rfl w1.1.l5 ?_
  refine cl_bipush (v := 8) (dd D60_ok 13 rfl) (by decide) ?_
  refine cl_hs (q := 8) (e := N1.2.1 2200 (9 * x1.toNatClampNeg + 8)) (dd D60_ok 14 rfl) w1.1.l22 (md_vl (by decide)) (by decide) rfl ?_
  refine cl_imul (dd D60_ok 15 rfl) ?_
  exact cl_iret (dd D60_ok 16 rfl) rfl w1.2
/-- oneLine: the reference's -/
theorem kk_oneLine {xs : List Int32} {K : Nat → Prop} {A : cl_A} {S : cl_S} {M : md_S} {nn i D : Nat} {k : bt} (hT : cl_T S M nn) (hi : i < nn) (hR : bt_R (M.2 4) (M.2 5) (M.2 7) (nI i) k) (hf : M.2 5 i = bt_hd (-1) k) (hk : ∀ x ∈ bt_pre k, x < nn) (hl : (bt_pre k).length ≤ 60) (h0 : M.2 11 i = 0) (hs : ¬ f_of M (nI i) 8 = 0) (hD : 4 + bt_ht k ≤ D) : ∀ Q', (∀ e, Q' (some (.int (f_ol M i k))) A (cl_ru S e)) → cl_C xs K D 60 [cl_rf A 6 0, cl_rf A 5 (nI i)] A S Q' := by
  intro Q' hQ
  obtain ⟨d', rfl⟩ : ∃ d', D = d' + 1 := ⟨D - 1, by omega⟩
  refine cl_intro (ms60 xs) (Nat.le_of_ble_eq_true rfl) (fun hh0 => vc60_0 ⟨hT.2.1, ?_⟩)
  show cl_C xs K d' 61 [cl_rf A 6 0, cl_rf A 5 (nI i)] A (cl_ru S (0, 0)) _
  have hA : kk_textsP xs K A S M i k := by
    intro D e hD Q' hQ
    obtain ⟨d', rfl⟩ : ∃ d', D = d' + 1 := ⟨D - 1, by omega⟩
    refine cl_intro (ms61 xs) (Nat.le_of_ble_eq_true rfl) (fun h0 => vc61_0 ⟨(hT.n hi).mv rfl, ?_⟩)
    have e5 : (cl_ru S e).2.1 505 (nI i).toNatClampNeg = bt_hd (-1) k := by
      rw [hT.cl hi, ← hf, ← hT.fk hi]
      rfl
    rw [e5]
    exact kk_texts1 hT k _ e hR hk (kk_texts hT k _ hR hk) (by omega) hQ
  refine hA d' _ (by omega) _ ⟨rfl, rfl, rfl, (hT.n hi).mv rfl, ?_⟩
  have e0 : by_of M i = [] := by
    unfold by_of
    rw [h0]
    rfl
  have hlen : ((bt_pre k).flatMap (by_of M)).length ≤ 120 * (bt_pre k).length := by_flat _ (fun x hx => by
    rw [byc_len hT (hk x hx)]
    exact hT.b120 (hk x hx))
  have hol := ol_fold hs ((bt_pre k).flatMap (by_of M)) 0 (0, 0) (0, 0, 0) (by omega) ⟨by rw [Int32.zero_mul], rfl, 0, by omega, rfl, Or.inl ⟨rfl, rfl, rfl⟩⟩
  have hv : f_ol M i k = (List.foldl g_ob (0, 0) ((bt_pre k).flatMap (by_of M))).1 * f_of M (nI i) 8 := by
    unfold f_ol ol_fd
    simp only [bt_pre, List.flatMap_cons, e0, List.nil_append, List.append_nil]
    exact hol.1
  rw [cl_ru_0]
  have e8 : ∀ e, (cl_ru S e).2.1 2200 (9 * (nI i).toNatClampNeg + 8) = f_of M (nI i) 8 := by
    intro e
    rw [hT.cl hi, ← hT.h8 hi]
    rfl
  rw [e8, ← hv]
  exact hQ _
set_option maxHeartbeats 1000000 in
theorem vc59_0 {xs : List Int32} {K : Nat → Prop} {h0 : am_H} {d : Nat} {Q : Option Value → cl_A → cl_S → Prop} {A : cl_A} {S : cl_S} {x1 : Int32}
    (k : (cl_z S) ∧ (cl_C xs K (d + 1) 60 [cl_rf A 6 0, cl_rf A 5 x1] A S (fun v A' N1 => A' = A ∧ N1.1 = S.1 ∧ ∃ y1, v = some (.int y1) ∧ ((cl_n N1 x1) ∧ (Q (some (.int (y1 + (2 * (g_frame N1 x1))))) A N1))))) :
    cl_wp xs K h0 (d + 1) Q I59 0 [some (cl_rf A 3 0), some (cl_rf A 5 x1)] [] A S := by
  refine cl_aload_n (dd D59_ok 0 rfl) rfl ?_
  refine cl_getO (g := 6) (dd D59_ok 1 rfl) pl3_27 (by decide) (by decide) (by decide) rfl k.1.l3 ?_
  refine cl_aload_n (dd D59_ok 2 rfl) rfl ?_
  refine cl_call (as := [cl_rf A 5 x1]) (rest := []) (v := 0) (dd D59_ok 3 rfl) pl3_275 rfl (Nat.le_of_ble_eq_true rfl) (ms60 xs) rfl (by decide) k.1.l6 ((k.2).mono ?_) rfl
  rintro v A N1 ⟨rfl, e1, y1, rfl, w1⟩
  refine cl_iconst (v := 2) (dd D59_ok 4 rfl) (by decide) ?_
  refine cl_aload_n (dd D59_ok 5 rfl) rfl ?_
  refine cl_callP (r := .int (g_frame N1 x1)) (as := []) (rest := [.int 2, .int y1]) (v := x1) (dd D59_ok 6 rfl) pl3_278 rfl (Nat.le_of_ble_eq_true rfl) (ms53 xs) rfl (by decide) w1.1.l5 (cc_g_frame (S := N1) w1.1) rfl ?_
  refine cl_imul (dd D59_ok 7 rfl) ?_
  refine cl_iadd (dd D59_ok 8 rfl) ?_
  exact cl_iret (dd D59_ok 9 rfl) rfl w1.2
theorem kk_textWidth {xs : List Int32} {K : Nat → Prop} {A : cl_A} {S : cl_S} {M : md_S} {nn i D : Nat} {k : bt} (hT : cl_T S M nn) (hi : i < nn) (hR : bt_R (M.2 4) (M.2 5) (M.2 7) (nI i) k) (hf : M.2 5 i = bt_hd (-1) k) (hk : ∀ x ∈ bt_pre k, x < nn) (hl : (bt_pre k).length ≤ 60) (h0 : M.2 11 i = 0) (hs : ¬ f_of M (nI i) 8 = 0) (hD : 5 + bt_ht k ≤ D) : ∀ Q', (∀ e, Q' (some (.int (f_ol M i k + 2 * f_edges M (nI i)))) A (cl_ru S e)) → cl_C xs K D 59 [cl_rf A 3 0, cl_rf A 5 (nI i)] A S Q' := by
  intro Q' hQ
  obtain ⟨d', rfl⟩ : ∃ d', D = d' + 1 + 1 := ⟨D - 2, by omega⟩
  refine cl_intro (ms59 xs) (Nat.le_of_ble_eq_true rfl) (fun hh0 => vc59_0 ⟨hT.2.1, ?_⟩)
  refine kk_oneLine hT hi hR hf hk hl h0 hs (by omega) _ (fun e => ⟨rfl, rfl, _, rfl, (hT.n hi).mv rfl, ?_⟩)
  have e1 : g_frame (cl_ru S e) (nI i) = f_edges M (nI i) := by
    rw [← hT.frame hi]
    rfl
  rw [e1]
  exact hQ e
