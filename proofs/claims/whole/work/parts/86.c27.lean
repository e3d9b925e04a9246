/-! the class: blocks below each other (by hand: wip/whole/gen/c27.py) -/
def yv (st : lb_S) : Int32 := if st.2.1 = -1 then st.1 else st.2.2.1
def bv (P : md_S) (st : lb_S) : Int32 := if st.2.1 = -1 then 0 else P.2 20 st.2.1.toNatClampNeg
/-- class and reference agree between blocks -/
def SMb (xs : List Int32) (K : Nat → Prop) (A : cl_A) (P : md_S) (nn W i f D : Nat) (T : List Nat) (ox oy : Int32) (S : cl_S) (M : md_S) (st : lb_S) (l : List Nat) (V : List (Nat × bt)) (VW : List Nat) (B : Nat) : Prop := la_T S P nn W ∧ si_st P M T ∧ si_fw S P M i f ox oy ∧ si_fl S P M f ox oy l B ∧ (S.2.1 400 f = -1 ∧ S.2.1 401 f = -1 ∧ S.2.1 404 f = 0 ∧ S.2.1 207 f = -1 ∧ S.2.1 208 f = -1) ∧ (S.2.1 204 f = yv st + oy ∧ S.2.1 205 f = bv P st) ∧ nb B (M.1 55) ∧ si_pl S P M W ox oy [] [] V VW ∧ si_ds P nn W T l [] [] V VW ∧ l.length ≤ V.length ∧ nz B (yv st) ∧ nz 50 (bv P st)
section SB
variable {xs : List Int32} {K : Nat → Prop} {A : cl_A} {P : md_S} {nn W i f D : Nat} {T : List Nat} {ox oy : Int32} {S : cl_S} {M : md_S} {st : lb_S} {l : List Nat} {V : List (Nat × bt)} {VW : List Nat} {B : Nat}
/-- lines begin -/
theorem SMb.go (h : SMb xs K A P nn W i f D T ox oy S M st l V VW B) (hB : B ≤ 67108000) : SMl xs K A P nn W i f D T ox oy (bgn S f) (lb_go M st) l [] [] [] V VW (B + 50) ∧ bkR (bgn S f) (lb_go M st) f [] := by
  obtain ⟨g1, g2, g3, g4, ⟨g51, g52, g53, g54, g55⟩, ⟨g61, g62⟩, g7, g8, g9, g10, g11, g12⟩ := h
  have hX := bgn_X S f
  have eq : ∀ g, g ∉ [204, 205] → (bgn S f).2.1 g = S.2.1 g := hX.2.2
  have e1 : ∀ g, g ∉ [37, 41, 42, 53, 54] → (lb_go M st).1 g = M.1 g := fun g hg => by
    simp only [List.mem_cons, List.not_mem_nil, or_false, not_or] at hg
    unfold lb_go
    rw [md_up1_ne _ hg.2.2.2.2, md_up1_ne _ hg.2.2.2.1, md_up1_ne _ hg.2.2.1, md_up1_ne _ hg.2.1, md_up1_ne _ hg.1]
  have e37 : (lb_go M st).1 37 = yv st + bv P st := by
    unfold lb_go yv bv
    rw [md_up1_ne _ (by decide), md_up1_ne _ (by decide), md_up1_ne _ (by decide), md_up1_ne _ (by decide), md_up1_at, g2.1 20 (by decide)]
    by_cases c : st.2.1 = -1
    · rw [if_neg (fun r => r c), if_pos c, if_pos c, Int32.add_zero]
    · rw [if_pos c, if_neg c, if_neg c]
  have e41 : (lb_go M st).1 41 = 0 := by
    unfold lb_go
    rw [md_up1_ne _ (by decide), md_up1_ne _ (by decide), md_up1_ne _ (by decide), md_up1_at]
  have e42 : (lb_go M st).1 42 = 0 := by
    unfold lb_go
    rw [md_up1_ne _ (by decide), md_up1_ne _ (by decide), md_up1_at]
  have e53 : (lb_go M st).1 53 = 0 := by
    unfold lb_go
    rw [md_up1_ne _ (by decide), md_up1_at]
  have e54 : (lb_go M st).1 54 = 0 := by
    unfold lb_go
    rw [md_up1_at]
  have e2 : (lb_go M st).2 = M.2 := rfl
  have hy : nz (B + 50) (yv st + bv P st) := nz_add g11 g12 (Nat.le_refl _) (by omega) (by decide)
  have hz0 : ∀ C : Nat, nz C 0 := fun C => ⟨by rw [lit_0]; omega, by rw [lit_0]; omega⟩
  refine ⟨⟨g1.fr (bgn_FR (T := T) (T5 := T) S f), g2.x (fun a _ => by rw [e2]) (by rw [e2]), g3.mv (fun g hg => by rw [eq g ((show ∀ g ∈ [200, 201, 202, 203, 100, 101], g ∉ [204, 205] by decide) g hg)]) (e1 55 (by decide)) (e1 43 (by decide)), ?_, ⟨by rw [e53]; rfl, by rw [eq 207 (by decide)]; exact g54, by rw [eq 208 (by decide)]; exact g55, fun k n hk => by simp at hk⟩, ⟨by rw [e41]; rfl, Nat.zero_le _, by rw [eq 400 (by decide)]; exact g51, by rw [eq 401 (by decide)]; exact g52, by rw [eq 404 (by decide), e42]; exact g53, fun k b hk => by simp at hk, fun c => absurd rfl c, by rw [e42]; exact hz0 _, by rw [e37]; exact hy, ?_, fun _ => e42⟩, ⟨?_, ?_⟩, by rw [e1 55 (by decide)]; exact nb_mono g7 (by omega), ?_, g9, (fun q hq => by cases hq), g10, fun _ => rfl⟩, Or.inl e54, fun c => absurd rfl c⟩
  · unfold si_fl at g4 ⊢
    have hfl : ∀ c, md_flts (lb_go M st) c = md_flts M c := fun c => rfl
    rw [hfl, e1 46 (by decide), eq 515 (by decide), eq 102 (by decide), eq 103 (by decide), eq 104 (by decide), eq 105 (by decide)]
    obtain ⟨a1, a2, a3, a4, a5, a6, a7, a8⟩ := g4
    exact ⟨a1, a2, a3, a4, fl_L_mv (fun n _ => by rw [eq 0 (by decide), eq 1 (by decide), eq 2 (by decide), eq 3 (by decide)]; exact ⟨rfl, rfl, rfl, rfl⟩) a5, a6, a7, fun r hr => (a8 r hr).mono (by omega)⟩
  · rw [e37, e42, lit_0]
    have := hy.2
    omega
  · rw [e37]
    unfold bgn
    rw [cl_up_ne1 _ _ _ _ (by decide), cl_up_at, g61, g62]
    grind
  · unfold bgn
    rw [cl_up_at]
  · obtain ⟨p1, p2, p3⟩ := g8
    refine ⟨fun q hq hb => (p1 q hq hb).imp id (fun r => r.ag (fun b _ => by rw [eq 0 (by decide), eq 1 (by decide), eq 2 (by decide), eq 3 (by decide)]; exact ⟨rfl, rfl, rfl, rfl⟩) (fun m _ => by rw [eq 511 (by decide)]) (by rw [e2]) (by rw [e2])), ?_, ?_⟩
    · rw [eq 0 (by decide), eq 1 (by decide), eq 2 (by decide), eq 3 (by decide), eq 511 (by decide), e2]
      exact p2
    · rw [eq 0 (by decide), eq 1 (by decide), e2]
      exact p3
/-- lines have ended -/
theorem SMl.done {st : lb_S} (h : SMl xs K A P nn W i f D T ox oy S M l [] [] [] V VW B) : SMb xs K A P nn W i f D T ox oy S M (M.1 37, -1, st.2.2.1, 0, st.2.2.2.2) l V VW B := by
  obtain ⟨g1, g2, g3, g4, g5, g6, g7, g8, g9, g10, g11, g12, g13⟩ := h
  obtain ⟨q1, q2, q3, q4, q5, q6, q7, q8, q9, q10, q11⟩ := g6
  refine ⟨g1, g2, g3, g4, ⟨q3, q4, by rw [q5]; exact q11 rfl, g5.2.1, g5.2.2.1⟩, ⟨g7.1, g7.2⟩, g8, g9, g10, by simpa using g12, q9, ?_⟩
  exact ⟨by show 0 ≤ (0 : Int32).toInt; rw [lit_0]; omega, by show (0 : Int32).toInt ≤ _; rw [lit_0]; omega⟩
/-- a line ends, if there is one -/
theorem kk_endL {wl : List (Nat × bt)} {bl : List Nat} {E : Nat} (hSP : SP P nn W) (hib : f_boxy P i) (hi : i < nn) (hf13 : f < 13) (hox : nb ((f + 1) * 67108864 + 59) ox) (hoy : nb ((f + 1) * 67108864 + 59) oy) (h : SMl xs K A P nn W i f D T ox oy S M l wl bl [] V VW B) (hB : B + csq P wl ≤ 67108000) (hV : V.length < 60) (hD : 21 ≤ D) (hE : D + 1 ≤ E) : ∀ Q', (∀ S' l' B', FR P W T T f S S' → SMb xs K A P nn W i f D T ox oy S' (lb_fM M) (lb_fS M st) l' V VW B' → B' ≤ B + csq P wl → Q' none A S') → cl_C xs K E 83 [cl_rf A 3 0, cl_rf A 2 (nI f)] A S Q' := by
  intro Q' hQ
  obtain ⟨q1, q2, q3, q4, q5, q6, q7, q8, q9, q10, q11⟩ := id h.2.2.2.2.2.1
  by_cases hbe : bl = []
  · have hwe := h.2.2.2.2.2.2.2.2.2.2.2.2 hbe
    subst hbe hwe
    have h41 : M.1 41 ≤ 0 := by rw [q1]; decide
    have e : lb_fM M = M := by unfold lb_fM; rw [if_pos h41]
    obtain ⟨d', rfl⟩ : ∃ d', E = d' + 3 := ⟨E - 3, by omega⟩
    refine kk_endLine0 (h.1.1.2.2.1 f hf13) hf13 q3 _ (hQ S l B FR.rf ?_ (by omega))
    unfold lb_fS
    rw [e]
    exact h.done
  · have hlen0 : 0 < bl.length := by
      rcases Nat.eq_zero_or_pos bl.length with c | c
      · exact absurd (List.length_eq_zero_iff.mp c) hbe
      · exact c
    have hlV := h.2.2.2.2.2.2.2.2.2.2.2.1
    have h41 : ¬ M.1 41 ≤ 0 := by rw [q1]; exact nI_ge (a := 0) hlen0 (by omega)
    have c41 : (M.1 41).toNatClampNeg = bl.length := by rw [q1, nI_clamp (by omega)]
    have c53 : (M.1 53).toNatClampNeg = wl.length := by rw [h.2.2.2.2.1.1, nI_clamp (by omega)]
    have e : lb_fM M = f_endLine_M M bl.length wl.length := by unfold lb_fM; rw [if_neg h41, c41, c53]
    refine kk_endLine hSP hib hi hf13 hox hoy h hbe hB hV hD hE _ (fun S1 F1 _ h1 => hQ S1 (l ++ wl.map (·.1)) (B + csq P wl) F1 ?_ (Nat.le_refl _))
    unfold lb_fS
    rw [e]
    exact h1.done
end SB
set_option maxHeartbeats 1000000 in
theorem vc89_0 {xs : List Int32} {K : Nat → Prop} {h0 : am_H} {d : Nat} {Q : Option Value → cl_A → cl_S → Prop} {A : cl_A} {S : cl_S} {x1 : Int32} {x2 : Int32}
    (k : (cl_z S) ∧ (cl_C xs K (d + 2) 83 [cl_rf A 3 0, cl_rf A 2 x1] A S (fun v A' N1 => A' = A ∧ N1.1 = S.1 ∧ v = none ∧ ((cl_f N1 x1) ∧ (cl_C xs K (d + 2) 90 [cl_rf A 5 (N1.2.1 200 x1.toNatClampNeg), .int 0] A N1 (fun v A' N2 => A' = A ∧ N2.1 = N1.1 ∧ ∃ y2, v = some (cl_rf A 5 y2) ∧ ((y2 = -1 ∨ cl_n N2 y2) ∧ ((x2 = -1 ∨ cl_n N2 x2) ∧ (∀ s3 : Int32, s3 = (if ¬ y2 = x2 then 0 else 1) → (((s3 = 0) → cl_C xs K (d + 2) 95 [cl_rf A 5 x2, .int 0] A N2 (fun v A' N4 => A' = A ∧ N4.1 = N2.1 ∧ ∃ y4, v = some (.int y4) ∧ ((cl_n N4 x2) ∧ (cl_C xs K (d + 2) 51 [cl_rf A 3 0, cl_rf A 5 x2, .int ((N4.2.1 201 x1.toNatClampNeg) + (N4.2.1 2200 (9 * x2.toNatClampNeg + 4))), .int (f_more ((N4.2.1 204 x1.toNatClampNeg) + (f_more (N4.2.1 205 x1.toNatClampNeg) y4)) (N4.2.1 105 x1.toNatClampNeg)), .int (g_fw N4 x2 (N4.2.1 203 x1.toNatClampNeg) ((N4.2.1 203 x1.toNatClampNeg) - (2 * (N4.2.1 2200 (9 * x2.toNatClampNeg + 4)))))] A N4 (fun v A' N5 => A' = A ∧ N5.1 = N4.1 ∧ v = none ∧ (cl_C xs K (d + 2) 95 [cl_rf A 5 x2, .int 1] A (cl_up N5 204 x1.toNatClampNeg ((f_more ((N4.2.1 204 x1.toNatClampNeg) + (f_more (N4.2.1 205 x1.toNatClampNeg) y4)) (N4.2.1 105 x1.toNatClampNeg)) + (N5.2.1 3 x2.toNatClampNeg))) (fun v A' N6 => A' = A ∧ N6.1 = N5.1 ∧ ∃ y6, v = some (.int y6) ∧ (Q none A (cl_up N6 205 x1.toNatClampNeg y6))))))))) ∧ (¬ (s3 = 0) → (cl_n N2 x2) ∧ (cl_C xs K (d + 2) 51 [cl_rf A 3 0, cl_rf A 5 x2, .int ((N2.2.1 201 x1.toNatClampNeg) + (N2.2.1 2200 (9 * x2.toNatClampNeg + 4))), .int (f_more ((N2.2.1 204 x1.toNatClampNeg) + (f_more (N2.2.1 205 x1.toNatClampNeg) 0)) (N2.2.1 105 x1.toNatClampNeg)), .int (g_fw N2 x2 (N2.2.1 203 x1.toNatClampNeg) ((N2.2.1 203 x1.toNatClampNeg) - (2 * (N2.2.1 2200 (9 * x2.toNatClampNeg + 4)))))] A N2 (fun v A' N7 => A' = A ∧ N7.1 = N2.1 ∧ v = none ∧ (cl_C xs K (d + 2) 95 [cl_rf A 5 x2, .int 1] A (cl_up N7 204 x1.toNatClampNeg ((f_more ((N2.2.1 204 x1.toNatClampNeg) + (f_more (N2.2.1 205 x1.toNatClampNeg) 0)) (N2.2.1 105 x1.toNatClampNeg)) + (N7.2.1 3 x2.toNatClampNeg))) (fun v A' N8 => A' = A ∧ N8.1 = N7.1 ∧ ∃ y8, v = some (.int y8) ∧ (Q none A (cl_up N8 205 x1.toNatClampNeg y8))))))))))))))))) :
    cl_wp xs K h0 (d + 2) Q I89 0 [some (cl_rf A 3 0), some (cl_rf A 2 x1), some (cl_rf A 5 x2), none, none, none, none, none] [] A S := by
  refine cl_aload_n (dd D89_ok 0 rfl) rfl ?_
  refine cl_aload_n (dd D89_ok 1 rfl) rfl ?_
  refine cl_call (as := [cl_rf A 2 x1]) (rest := []) (v := 0) (dd D89_ok 2 rfl) pl3_206 rfl (Nat.le_of_ble_eq_true rfl) (ms83 xs) rfl (by decide) k.1.l3 ((k.2).mono ?_) rfl
  rintro v A N1 ⟨rfl, e1, rfl, w1⟩
  refine cl_aload_n (dd D89_ok 3 rfl) rfl ?_
  refine cl_gR (g := 200) (f := 5) (e := N1.2.1 200 x1.toNatClampNeg) (dd D89_ok 4 rfl) pl3_167 (by decide) (by decide) (by decide) rfl rfl w1.1.l2 rfl ?_
  refine cl_iconst (v := 0) (dd D89_ok 5 rfl) (by decide) ?_
  refine cl_calls (as := [cl_rf A 5 (N1.2.1 200 x1.toNatClampNeg), .int 0]) (rest := []) (dd D89_ok 6 rfl) pl3_210 rfl (Nat.le_of_ble_eq_true rfl) ((w1.2).mono ?_) rfl
  rintro v A N2 ⟨rfl, e2, y2, rfl, w2⟩
  refine cl_aload_n (dd D89_ok 7 rfl) rfl ?_
  have J1 : ∀ s3 : Int32, s3 = (if ¬ y2 = x2 then 0 else 1) → cl_wp xs K h0 (d + 2) Q I89 22 [some (cl_rf A 3 0), some (cl_rf A 2 x1), some (cl_rf A 5 x2), none, none, none, none, none] [.int s3] A N2 := by
    intro s3 e_s3
    refine cl_istore_n (dd D89_ok 12 rfl) (Nat.le_of_ble_eq_true rfl) ?_
    refine cl_iload_n (dd D89_ok 13 rfl) rfl ?_
    refine cl_if_eq (tgt := 31) (dd D89_ok 14 rfl) (by decide) (fun c2 => ?_) (fun c2 => ?_)
    · refine cl_aload_n (dd D89_ok 17 rfl) rfl ?_
      refine cl_iconst (v := 0) (dd D89_ok 18 rfl) (by decide) ?_
      refine cl_calls (as := [cl_rf A 5 x2, .int 0]) (rest := []) (dd D89_ok 19 rfl) pl3_225 rfl (Nat.le_of_ble_eq_true rfl) ((((w2.2.2 s3 e_s3).1 c2)).mono ?_) rfl
      rintro v A N4 ⟨rfl, e4, y4, rfl, w4⟩
      refine cl_istore (dd D89_ok 20 rfl) (Nat.le_of_ble_eq_true rfl) ?_
      refine cl_aload_n (dd D89_ok 21 rfl) rfl ?_
      refine cl_gI (g := 204) (e := N4.2.1 204 x1.toNatClampNeg) (dd D89_ok 22 rfl) pl3_229 (by decide) (by decide) (by decide) rfl rfl ((w1.1.mv e2).mv e4).l2 rfl ?_
      refine cl_aload_n (dd D89_ok 23 rfl) rfl ?_
      refine cl_gI (g := 205) (e := N4.2.1 205 x1.toNatClampNeg) (dd D89_ok 24 rfl) pl3_216 (by decide) (by decide) (by decide) rfl rfl ((w1.1.mv e2).mv e4).l2 rfl ?_
      refine cl_iload (dd D89_ok 25 rfl) rfl ?_
      refine cl_max (dd D89_ok 26 rfl) pl3_187 (Nat.le_of_ble_eq_true rfl) ?_
      rw [← f_more_lt]
      refine cl_iadd (dd D89_ok 27 rfl) ?_
      refine cl_aload_n (dd D89_ok 28 rfl) rfl ?_
      refine cl_getO (g := 1) (dd D89_ok 29 rfl) pl3_230 (by decide) (by decide) (by decide) rfl ((w1.1.mv e2).mv e4).l2 ?_
      refine cl_gI (g := 105) (e := N4.2.1 105 x1.toNatClampNeg) (dd D89_ok 30 rfl) pl3_234 (by decide) (by decide) (by decide) rfl rfl ((w1.1.mv e2).mv e4).l1 rfl ?_
      refine cl_max (dd D89_ok 31 rfl) pl3_187 (Nat.le_of_ble_eq_true rfl) ?_
      rw [← f_more_lt]
      refine cl_istore (dd D89_ok 32 rfl) (Nat.le_of_ble_eq_true rfl) ?_
      refine cl_aload_n (dd D89_ok 33 rfl) rfl ?_
      refine cl_getO (g := 22) (dd D89_ok 34 rfl) pl3_46 (by decide) (by decide) (by decide) rfl w4.1.l5 ?_
      refine cl_iconst (v := 4) (dd D89_ok 35 rfl) (by decide) ?_
      refine cl_hs (q := 4) (e := N4.2.1 2200 (9 * x2.toNatClampNeg + 4)) (dd D89_ok 36 rfl) w4.1.l22 (md_vl (by decide)) (by decide) rfl ?_
      refine cl_istore (dd D89_ok 37 rfl) (Nat.le_of_ble_eq_true rfl) ?_
      refine cl_aload_n (dd D89_ok 38 rfl) rfl ?_
      refine cl_aload_n (dd D89_ok 39 rfl) rfl ?_
      refine cl_gI (g := 203) (e := N4.2.1 203 x1.toNatClampNeg) (dd D89_ok 40 rfl) pl3_170 (by decide) (by decide) (by decide) rfl rfl ((w1.1.mv e2).mv e4).l2 rfl ?_
      refine cl_aload_n (dd D89_ok 41 rfl) rfl ?_
      refine cl_gI (g := 203) (e := N4.2.1 203 x1.toNatClampNeg) (dd D89_ok 42 rfl) pl3_170 (by decide) (by decide) (by decide) rfl rfl ((w1.1.mv e2).mv e4).l2 rfl ?_
      refine cl_iconst (v := 2) (dd D89_ok 43 rfl) (by decide) ?_
      refine cl_iload (dd D89_ok 44 rfl) rfl ?_
      refine cl_imul (dd D89_ok 45 rfl) ?_
      refine cl_isub (dd D89_ok 46 rfl) ?_
      refine cl_callP (r := .int (g_fw N4 x2 (N4.2.1 203 x1.toNatClampNeg) ((N4.2.1 203 x1.toNatClampNeg) - (2 * (N4.2.1 2200 (9 * x2.toNatClampNeg + 4)))))) (as := [.int (N4.2.1 203 x1.toNatClampNeg), .int ((N4.2.1 203 x1.toNatClampNeg) - (2 * (N4.2.1 2200 (9 * x2.toNatClampNeg + 4))))]) (rest := []) (v := x2) (dd D89_ok 47 rfl) pl3_183 rfl (Nat.le_of_ble_eq_true rfl) (ms63 xs) rfl (by decide) w4.1.l5 (cc_g_fw (S := N4) w4.1) rfl ?_
      refine cl_istore (dd D89_ok 48 rfl) (Nat.le_of_ble_eq_true rfl) ?_
      refine cl_aload_n (dd D89_ok 49 rfl) rfl ?_
      refine cl_aload_n (dd D89_ok 50 rfl) rfl ?_
      refine cl_aload_n (dd D89_ok 51 rfl) rfl ?_
      refine cl_gI (g := 201) (e := N4.2.1 201 x1.toNatClampNeg) (dd D89_ok 52 rfl) pl3_164 (by decide) (by decide) (by decide) rfl rfl ((w1.1.mv e2).mv e4).l2 rfl ?_
      refine cl_iload (dd D89_ok 53 rfl) rfl ?_
      refine cl_iadd (dd D89_ok 54 rfl) ?_
      refine cl_iload (dd D89_ok 55 rfl) rfl ?_
      refine cl_iload (dd D89_ok 56 rfl) rfl ?_
      refine cl_call (as := [cl_rf A 5 x2, .int ((N4.2.1 201 x1.toNatClampNeg) + (N4.2.1 2200 (9 * x2.toNatClampNeg + 4))), .int (f_more ((N4.2.1 204 x1.toNatClampNeg) + (f_more (N4.2.1 205 x1.toNatClampNeg) y4)) (N4.2.1 105 x1.toNatClampNeg)), .int (g_fw N4 x2 (N4.2.1 203 x1.toNatClampNeg) ((N4.2.1 203 x1.toNatClampNeg) - (2 * (N4.2.1 2200 (9 * x2.toNatClampNeg + 4)))))]) (rest := []) (v := 0) (dd D89_ok 57 rfl) pl3_56 rfl (Nat.le_of_ble_eq_true rfl) (ms51 xs) rfl (by decide) (((k.1.mv e1).mv e2).mv e4).l3 ((w4.2).mono ?_) rfl
      rintro v A N5 ⟨rfl, e5, rfl, w5⟩
      refine cl_aload_n (dd D89_ok 58 rfl) rfl ?_
      refine cl_iload (dd D89_ok 59 rfl) rfl ?_
      refine cl_aload_n (dd D89_ok 60 rfl) rfl ?_
      refine cl_getO (g := 0) (dd D89_ok 61 rfl) pl3_140 (by decide) (by decide) (by decide) rfl (w4.1.mv e5).l5 ?_
      refine cl_gI (g := 3) (e := N5.2.1 3 x2.toNatClampNeg) (dd D89_ok 62 rfl) pl3_137 (by decide) (by decide) (by decide) rfl rfl (w4.1.mv e5).l0 rfl ?_
      refine cl_iadd (dd D89_ok 63 rfl) ?_
      refine cl_pI (g := 204) (dd D89_ok 64 rfl) pl3_229 (by decide) (by decide) rfl rfl rfl rfl rfl (((w1.1.mv e2).mv e4).mv e5).l2 ?_
      refine cl_aload_n (dd D89_ok 65 rfl) rfl ?_
      refine cl_aload_n (dd D89_ok 66 rfl) rfl ?_
      refine cl_iconst (v := 1) (dd D89_ok 67 rfl) (by decide) ?_
      refine cl_calls (as := [cl_rf A 5 x2, .int 1]) (rest := [cl_rf A 2 x1]) (dd D89_ok 68 rfl) pl3_225 rfl (Nat.le_of_ble_eq_true rfl) ((w5).mono ?_) rfl
      rintro v A N6 ⟨rfl, e6, y6, rfl, w6⟩
      refine cl_pI (g := 205) (dd D89_ok 69 rfl) pl3_216 (by decide) (by decide) rfl rfl rfl rfl rfl ((((w1.1.mv e2).mv e4).mv e5).mv e6).l2 ?_
      exact cl_vret (dd D89_ok 70 rfl) rfl w6
    · refine cl_iconst (v := 0) (dd D89_ok 15 rfl) (by decide) ?_
      refine cl_goto (tgt := 36) (dd D89_ok 16 rfl) (by decide) ?_
      refine cl_istore (dd D89_ok 20 rfl) (Nat.le_of_ble_eq_true rfl) ?_
      refine cl_aload_n (dd D89_ok 21 rfl) rfl ?_
      refine cl_gI (g := 204) (e := N2.2.1 204 x1.toNatClampNeg) (dd D89_ok 22 rfl) pl3_229 (by decide) (by decide) (by decide) rfl rfl (w1.1.mv e2).l2 rfl ?_
      refine cl_aload_n (dd D89_ok 23 rfl) rfl ?_
      refine cl_gI (g := 205) (e := N2.2.1 205 x1.toNatClampNeg) (dd D89_ok 24 rfl) pl3_216 (by decide) (by decide) (by decide) rfl rfl (w1.1.mv e2).l2 rfl ?_
      refine cl_iload (dd D89_ok 25 rfl) rfl ?_
      refine cl_max (dd D89_ok 26 rfl) pl3_187 (Nat.le_of_ble_eq_true rfl) ?_
      rw [← f_more_lt]
      refine cl_iadd (dd D89_ok 27 rfl) ?_
      refine cl_aload_n (dd D89_ok 28 rfl) rfl ?_
      refine cl_getO (g := 1) (dd D89_ok 29 rfl) pl3_230 (by decide) (by decide) (by decide) rfl (w1.1.mv e2).l2 ?_
      refine cl_gI (g := 105) (e := N2.2.1 105 x1.toNatClampNeg) (dd D89_ok 30 rfl) pl3_234 (by decide) (by decide) (by decide) rfl rfl (w1.1.mv e2).l1 rfl ?_
      refine cl_max (dd D89_ok 31 rfl) pl3_187 (Nat.le_of_ble_eq_true rfl) ?_
      rw [← f_more_lt]
      refine cl_istore (dd D89_ok 32 rfl) (Nat.le_of_ble_eq_true rfl) ?_
      refine cl_aload_n (dd D89_ok 33 rfl) rfl ?_
      refine cl_getO (g := 22) (dd D89_ok 34 rfl) pl3_46 (by decide) (by decide) (by decide) rfl ((w2.2.2 s3 e_s3).2 c2).1.l5 ?_
      refine cl_iconst (v := 4) (dd D89_ok 35 rfl) (by decide) ?_
      refine cl_hs (q := 4) (e := N2.2.1 2200 (9 * x2.toNatClampNeg + 4)) (dd D89_ok 36 rfl) ((w2.2.2 s3 e_s3).2 c2).1.l22 (md_vl (by decide)) (by decide) rfl ?_
      refine cl_istore (dd D89_ok 37 rfl) (Nat.le_of_ble_eq_true rfl) ?_
      refine cl_aload_n (dd D89_ok 38 rfl) rfl ?_
      refine cl_aload_n (dd D89_ok 39 rfl) rfl ?_
      refine cl_gI (g := 203) (e := N2.2.1 203 x1.toNatClampNeg) (dd D89_ok 40 rfl) pl3_170 (by decide) (by decide) (by decide) rfl rfl (w1.1.mv e2).l2 rfl ?_
      refine cl_aload_n (dd D89_ok 41 rfl) rfl ?_
      refine cl_gI (g := 203) (e := N2.2.1 203 x1.toNatClampNeg) (dd D89_ok 42 rfl) pl3_170 (by decide) (by decide) (by decide) rfl rfl (w1.1.mv e2).l2 rfl ?_
      refine cl_iconst (v := 2) (dd D89_ok 43 rfl) (by decide) ?_
      refine cl_iload (dd D89_ok 44 rfl) rfl ?_
      refine cl_imul (dd D89_ok 45 rfl) ?_
      refine cl_isub (dd D89_ok 46 rfl) ?_
      refine cl_callP (r := .int (g_fw N2 x2 (N2.2.1 203 x1.toNatClampNeg) ((N2.2.1 203 x1.toNatClampNeg) - (2 * (N2.2.1 2200 (9 * x2.toNatClampNeg + 4)))))) (as := [.int (N2.2.1 203 x1.toNatClampNeg), .int ((N2.2.1 203 x1.toNatClampNeg) - (2 * (N2.2.1 2200 (9 * x2.toNatClampNeg + 4))))]) (rest := []) (v := x2) (dd D89_ok 47 rfl) pl3_183 rfl (Nat.le_of_ble_eq_true rfl) (ms63 xs) rfl (by decide) ((w2.2.2 s3 e_s3).2 c2).1.l5 (cc_g_fw (S := N2) ((w2.2.2 s3 e_s3).2 c2).1) rfl ?_
      refine cl_istore (dd D89_ok 48 rfl) (Nat.le_of_ble_eq_true rfl) ?_
      refine cl_aload_n (dd D89_ok 49 rfl) rfl ?_
      refine cl_aload_n (dd D89_ok 50 rfl) rfl ?_
      refine cl_aload_n (dd D89_ok 51 rfl) rfl ?_
      refine cl_gI (g := 201) (e := N2.2.1 201 x1.toNatClampNeg) (dd D89_ok 52 rfl) pl3_164 (by decide) (by decide) (by decide) rfl rfl (w1.1.mv e2).l2 rfl ?_
      refine cl_iload (dd D89_ok 53 rfl) rfl ?_
      refine cl_iadd (dd D89_ok 54 rfl) ?_
      refine cl_iload (dd D89_ok 55 rfl) rfl ?_
      refine cl_iload (dd D89_ok 56 rfl) rfl ?_
      refine cl_call (as := [cl_rf A 5 x2, .int ((N2.2.1 201 x1.toNatClampNeg) + (N2.2.1 2200 (9 * x2.toNatClampNeg + 4))), .int (f_more ((N2.2.1 204 x1.toNatClampNeg) + (f_more (N2.2.1 205 x1.toNatClampNeg) 0)) (N2.2.1 105 x1.toNatClampNeg)), .int (g_fw N2 x2 (N2.2.1 203 x1.toNatClampNeg) ((N2.2.1 203 x1.toNatClampNeg) - (2 * (N2.2.1 2200 (9 * x2.toNatClampNeg + 4)))))]) (rest := []) (v := 0) (dd D89_ok 57 rfl) pl3_56 rfl (Nat.le_of_ble_eq_true rfl) (ms51 xs) rfl (by decide) ((k.1.mv e1).mv e2).l3 ((((w2.2.2 s3 e_s3).2 c2).2).mono ?_) rfl
      rintro v A N7 ⟨rfl, e7, rfl, w7⟩
      refine cl_aload_n (dd D89_ok 58 rfl) rfl ?_
      refine cl_iload (dd D89_ok 59 rfl) rfl ?_
      refine cl_aload_n (dd D89_ok 60 rfl) rfl ?_
      refine cl_getO (g := 0) (dd D89_ok 61 rfl) pl3_140 (by decide) (by decide) (by decide) rfl (((w2.2.2 s3 e_s3).2 c2).1.mv e7).l5 ?_
      refine cl_gI (g := 3) (e := N7.2.1 3 x2.toNatClampNeg) (dd D89_ok 62 rfl) pl3_137 (by decide) (by decide) (by decide) rfl rfl (((w2.2.2 s3 e_s3).2 c2).1.mv e7).l0 rfl ?_
      refine cl_iadd (dd D89_ok 63 rfl) ?_
      refine cl_pI (g := 204) (dd D89_ok 64 rfl) pl3_229 (by decide) (by decide) rfl rfl rfl rfl rfl ((w1.1.mv e2).mv e7).l2 ?_
      refine cl_aload_n (dd D89_ok 65 rfl) rfl ?_
      refine cl_aload_n (dd D89_ok 66 rfl) rfl ?_
      refine cl_iconst (v := 1) (dd D89_ok 67 rfl) (by decide) ?_
      refine cl_calls (as := [cl_rf A 5 x2, .int 1]) (rest := [cl_rf A 2 x1]) (dd D89_ok 68 rfl) pl3_225 rfl (Nat.le_of_ble_eq_true rfl) ((w7).mono ?_) rfl
      rintro v A N8 ⟨rfl, e8, y8, rfl, w8⟩
      refine cl_pI (g := 205) (dd D89_ok 69 rfl) pl3_216 (by decide) (by decide) rfl rfl rfl rfl rfl (((w1.1.mv e2).mv e7).mv e8).l2 ?_
      exact cl_vret (dd D89_ok 70 rfl) rfl w8
  refine cl_acmp_ne (tgt := 21) (dd D89_ok 8 rfl) (by decide) w2.1 w2.2.1 (fun c3 => ?_) (fun c3 => ?_)
  · refine cl_iconst (v := 0) (dd D89_ok 11 rfl) (by decide) ?_
    exact J1 _ (by first | rfl | (rw [if_pos c3]; done) | (rw [if_pos c3]; rfl) | simp only [if_pos c3])
  · refine cl_iconst (v := 1) (dd D89_ok 9 rfl) (by decide) ?_
    refine cl_goto (tgt := 22) (dd D89_ok 10 rfl) (by decide) ?_
    exact J1 _ (by first | rfl | (rw [if_neg c3]; done) | (rw [if_neg c3]; rfl) | simp only [if_neg c3])
