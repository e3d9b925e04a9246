/-! the class: a block is laid (by hand: wip/whole/gen/c28.py) -/
/-- a block that may be laid -/
def blk_ok (xs : List Int32) (K : Nat → Prop) (A : cl_A) (P : md_S) (nn W i f D : Nat) (T : List Nat) (q : Nat × bt) : Prop := chd P nn i f q.1 q.2 ∧ P.2 13 q.1 = 0 ∧ LE xs K A P nn W q.1 q.2 ∧ 31 + 12 * bt_ht q.2 ≤ D ∧ q.1 ∈ T ∧ P.2 3 q.1 = 0 ∧ nz 50 (P.2 19 q.1) ∧ nz 50 (P.2 20 q.1)
theorem dep_add {f en x : Nat} (h : f < en) (hx : x ≤ 67108864) : (f + 1) * 67108864 + x ≤ (en + 1) * 67108864 := Nat.le_trans (Nat.add_le_add_left hx _) (dep_le h)
theorem more0 {x : Int32} (h : 0 ≤ x.toInt) : f_more 0 x = x := by
  apply Int32.toInt_inj.mp
  rw [more_toInt, lit_0]
  omega
section BK
variable {xs : List Int32} {K : Nat → Prop} {A : cl_A} {P : md_S} {nn W i f D d : Nat} {T : List Nat} {ox oy : Int32} {S : cl_S} {M : md_S} {st : lb_S} {l : List Nat} {V : List (Nat × bt)} {VW : List Nat} {B : Nat} {q : Nat × bt}
/-- the relation after a block -/
theorem SMb.blk {S2 S3 : cl_S} {th : Int32} (h : SMb xs K A P nn W i f D T ox oy S M st l V VW B) (hT : ∀ x ∈ sub q, x ∈ T) (hd : apart V q) (hb : ¬ f_isBox P (nI q.1) = 0) (hfn : ∃ en, P.2 8 q.1 = nI en ∧ f < en) {en : Nat} (hen : f < en) (hto : nz (B + 50) (lb_to M i st q.1)) (h18 : nz (cs P q.1 q.2 - 300000) (P.2 18 q.1)) (h20 : nz 50 (P.2 20 q.1)) (hB : B + cs P q.1 q.2 ≤ 67108000)
    (F : FR P W (sub q) (bt_pre q.2) en S S2) (b0 : S2.2.1 0 q.1 = f_of P (nI q.1) 4 + ox) (b1 : S2.2.1 1 q.1 = lb_to M i st q.1 + oy) (b2 : S2.2.1 2 q.1 = P.2 17 q.1) (b3 : S2.2.1 3 q.1 = P.2 18 q.1) (b511 : S2.2.1 511 q.1 = 1) (hlo : lo_F P W S2 q.2 (f_of P (nI q.1) 4 + ox + f_edges P (nI q.1)) (lb_to M i st q.1 + oy + f_edges P (nI q.1)))
    (hX : cl_X [204, 205] S2 S3) (hX2 : ∀ g f', ¬ f' = f → S3.2.1 g f' = S2.2.1 g f') (z4 : S3.2.1 204 f = lb_to M i st q.1 + P.2 18 q.1 + oy) (z5 : S3.2.1 205 f = P.2 20 q.1) : FR P W T T f S S3 ∧ SMb xs K A P nn W i f D T ox oy S3 (lb_bM M i st q.1) (lb_bS M i th st q.1) l (V ++ [q]) VW (B + cs P q.1 q.2) := by
  obtain ⟨g1, g2, g3, g4, ⟨g51, g52, g53, g54, g55⟩, ⟨g61, g62⟩, g7, ⟨p1, p2, p3⟩, g9, g10, g11, g12⟩ := h
  have hds := g9
  obtain ⟨d1, d2, d3, d4, d5, d6, d7, d8, d9, d10, d11⟩ := g9
  have hcs := cs_ge P q.1 q.2
  have sub60 : ∀ x ∈ sub q, x < 60 := fun x hx => by have := d9 x (hT x hx); omega
  have eq : ∀ g, g ∉ [204, 205] → S3.2.1 g = S2.2.1 g := hX.2.2
  have hds' := hds.addV hT hd
  have hqV : q ∈ V ++ [q] := by simp
  have hbl := hds'.bl hqV hb
  have F3 : FR P W T T f S2 S3 := FR.flow hX (by decide) (fun g _ _ f' hf' => hX2 g f' (by omega))
  have FT : FR P W T T f S S3 := (F.sub hT (fun x hx => hT x (by simp [hx])) (by omega)).tr F3
  have hqn : ∀ q' ∈ V, ¬ q'.1 = q.1 := fun q' hq' e => (hd q' hq').2 q'.1 (by simp) (by rw [e]; simp)
  have ef : ∀ g, 100 ≤ g → g < 500 → g ∉ [204, 205] → S3.2.1 g f = S.2.1 g f := fun g a1 a2 a3 => by rw [eq g a3, F.2.2.2.2.2 g a1 a2 f hen]
  have e2 : ∀ a, a ∉ [15, 16] → (lb_bM M i st q.1).2 a = M.2 a := fun a ha => by
    simp only [List.mem_cons, List.not_mem_nil, or_false, not_or] at ha
    unfold lb_bM
    rw [md_up2_ne _ ha.2, md_up2_ne _ ha.1]
  have e15 : ∀ j, ¬ j = q.1 → (lb_bM M i st q.1).2 15 j = M.2 15 j ∧ (lb_bM M i st q.1).2 16 j = M.2 16 j := fun j hj => by
    unfold lb_bM
    rw [md_up2_ne _ (by decide), md_up2_off _ _ hj, md_up2_off _ _ hj, md_up2_ne _ (by decide)]
    exact ⟨rfl, rfl⟩
  have e15q : (lb_bM M i st q.1).2 15 q.1 = f_of P (nI q.1) 4 := by
    unfold lb_bM
    rw [md_up2_ne _ (by decide), md_up2_at, g2.of]
  have e16q : (lb_bM M i st q.1).2 16 q.1 = lb_to M i st q.1 := by
    unfold lb_bM
    rw [md_up2_at]
  have hq18 : M.2 18 q.1 = P.2 18 q.1 := g2.2 q.1 (hT q.1 (by simp))
  have hne : ¬ nI q.1 = -1 := nI_ne_m1 (by have := sub60 q.1 (by simp); omega)
  have cq : (nI q.1).toNatClampNeg = q.1 := nI_clamp (by have := sub60 q.1 (by simp); omega)
  have hyv : yv (lb_bS M i th st q.1) = lb_to M i st q.1 + P.2 18 q.1 := by
    unfold yv lb_bS
    rw [if_neg hne, hq18]
  have hbv : bv P (lb_bS M i th st q.1) = P.2 20 q.1 := by
    unfold bv lb_bS
    rw [if_neg hne, cq]
  have hl515 : ∀ n ∈ l, S3.2.1 515 n = S.2.1 515 n := fun n hn => by
    obtain ⟨k, r1, _⟩ := d3 n hn
    rw [eq 515 (by decide), F.2.2.2.2.1 n (fun r => (hd _ r1).2 n (by simp) (by simp [r]))]
  have nlT : ∀ n ∈ l, ¬ inT P W (sub q) n := by
    intro n hn r
    obtain ⟨k, r1, _⟩ := d3 n hn
    rcases r with r | ⟨w, m, r2, _⟩
    · exact (hd _ r1).2 n (by simp) r
    · have := d9 _ (d1 _ r1 n (by simp)); omega
  refine ⟨FT, g1.fr FT, g2.x (fun a ha => e2 a (fun r => ha ((show ∀ a ∈ [15, 16], a ∈ X_C by decide) a r))) (e2 18 (by decide)), g3.mv (fun g hg => by
      have := (show ∀ g ∈ [200, 201, 202, 203, 100, 101], 100 ≤ g ∧ g < 500 ∧ g ∉ [204, 205] by decide) g hg
      exact ef g this.1 this.2.1 this.2.2) rfl rfl, ?_, ⟨by rw [ef 400 (by decide) (by decide) (by decide)]; exact g51, by rw [ef 401 (by decide) (by decide) (by decide)]; exact g52, by rw [ef 404 (by decide) (by decide) (by decide)]; exact g53, by rw [ef 207 (by decide) (by decide) (by decide)]; exact g54, by rw [ef 208 (by decide) (by decide) (by decide)]; exact g55⟩, ⟨by rw [z4, hyv], by rw [z5, hbv]⟩, nb_mono g7 (by omega), ⟨?_, ?_, ?_⟩, hds', by simp; omega, ?_, by rw [hbv]; exact h20⟩
  · have hfl : ∀ c, md_flts (lb_bM M i st q.1) c = md_flts M c := by
      intro c
      unfold md_flts md_flt
      rw [e2 47 (by decide), e2 48 (by decide), e2 49 (by decide), e2 50 (by decide), e2 51 (by decide)]
    unfold si_fl at g4 ⊢
    rw [hfl, ef 102 (by decide) (by decide) (by decide), ef 103 (by decide) (by decide) (by decide), ef 104 (by decide) (by decide) (by decide), ef 105 (by decide) (by decide) (by decide)]
    obtain ⟨a1, a2, a3, a4, a5, a6, a7, a8⟩ := g4
    refine ⟨a1, a2, chn_mv hl515 a3, a4, fl_L_mv (fun n hn => ?_) a5, a6, a7, fun r hr => (a8 r hr).mono (by omega)⟩
    rw [eq 0 (by decide), eq 1 (by decide), eq 2 (by decide), eq 3 (by decide)]
    exact ⟨F.2.1 n (nlT n hn) 0 (by decide), F.2.1 n (nlT n hn) 1 (by decide), F.2.1 n (nlT n hn) 2 (by decide), F.2.1 n (nlT n hn) 3 (by decide)⟩
  · intro q' hq' hb'
    refine Or.inr ?_
    rcases List.mem_append.mp hq' with r | r
    · rcases p1 q' r hb' with c | c
      · cases c
      · have h15 := e15 q'.1 (hqn q' r)
        have c2 := c.mv F (hd q' r).2 (fun x hx => by have := d9 x (d1 q' r x hx); omega) sub60 h15.1 h15.2
        exact c2.ag (fun b _ => by rw [eq 0 (by decide), eq 1 (by decide), eq 2 (by decide), eq 3 (by decide)]; exact ⟨rfl, rfl, rfl, rfl⟩) (fun m _ => by rw [eq 511 (by decide)]) rfl rfl
    · rw [List.mem_singleton.mp r]
      unfold plB
      rw [e15q, e16q, eq 0 (by decide), eq 1 (by decide), eq 2 (by decide), eq 3 (by decide), eq 511 (by decide)]
      exact ⟨b0, b1, b2, b3, b511, lo_F.mv (fun b _ => by rw [eq 0 (by decide), eq 1 (by decide), eq 2 (by decide), eq 3 (by decide)]; exact ⟨rfl, rfl, rfl, rfl⟩) (fun m _ => by rw [eq 511 (by decide)]) hlo⟩
  · intro q' hq' h4
    rcases List.mem_append.mp hq' with r | r
    · have hn := hbl.1 q' hq' h4
      have h15 := e15 q'.1 (hqn q' r)
      rw [eq 0 (by decide), eq 1 (by decide), eq 2 (by decide), eq 3 (by decide), eq 511 (by decide), F.2.1 _ hn 0 (by decide), F.2.1 _ hn 1 (by decide), F.2.1 _ hn 2 (by decide), F.2.1 _ hn 3 (by decide), F.2.2.2.1 q'.1 (fun c => hn (Or.inl c.1)), h15.1, h15.2]
      exact p2 q' r h4
    · rw [List.mem_singleton.mp r] at h4
      exact absurd h4 (boxy_n4 (sub60 q.1 (by simp)) hb)
  · intro w hw
    have hn := hbl.2 w hw
    rw [eq 0 (by decide), eq 1 (by decide), F.2.1 _ hn 0 (by decide), F.2.1 _ hn 1 (by decide), e2 33 (by decide), e2 34 (by decide)]
    exact p3 w hw
  · rw [hyv]
    exact nz_add hto h18 (by omega) (by omega) (by omega)
/-- addBlock, once the line has ended -/
theorem kk_blk {ki : bt} {Q : Option Value → cl_A → cl_S → Prop} {th : Int32} (hSP : SP P nn W) (hP : cl_P P nn) (hi : i < nn) (hib : P.2 12 i = 1) (hf13 : f < 13) (hox : nb ((f + 1) * 67108864 + 59) ox) (hoy : nb ((f + 1) * 67108864 + 59) oy) (hRi : bt_R (P.2 4) (P.2 5) (P.2 7) (nI i) ki) (hfi : P.2 5 i = bt_hd (-1) ki) (hki : ∀ x ∈ bt_pre ki, x < nn) (hmg : bt_all (fun i k => P.2 3 i = 0 → mg_eq P i k) (.branch q.1 q.2 (.leaf ())))
    (h : SMb xs K A P nn W i f D T ox oy S M st l V VW B) (hT : ∀ x ∈ sub q, x ∈ T) (hd : apart V q) (hok : blk_ok xs K A P nn W i f D T q) (hjn : mg_jt P i ki 0 = nI q.1 ↔ ¬ st.2.2.2.1 = 0 ∧ ¬ f_joins P (nI i) = 0) (hB : B + cs P q.1 q.2 ≤ 67108000) (hDd : D ≤ d) (hQ : ∀ S' , FR P W T T f S S' → SMb xs K A P nn W i f D T ox oy S' (lb_bM M i st q.1) (lb_bS M i th st q.1) l (V ++ [q]) VW (B + cs P q.1 q.2) → nz (cs P q.1 q.2 - 300000) (P.2 18 q.1) → Q none A S') : ∀ x1 x2, x1 = nI f → x2 = nI q.1 → cl_C xs K (d + 2) 90 [cl_rf A 5 (S.2.1 200 x1.toNatClampNeg), .int 0] A S (fun v A' N2 => A' = A ∧ N2.1 = S.1 ∧ ∃ y2, v = some (cl_rf A 5 y2) ∧ ((y2 = -1 ∨ cl_n N2 y2) ∧ ((x2 = -1 ∨ cl_n N2 x2) ∧ (∀ s3 : Int32, s3 = (if ¬ y2 = x2 then 0 else 1) → (((s3 = 0) → cl_C xs K (d + 2) 95 [cl_rf A 5 x2, .int 0] A N2 (fun v A' N4 => A' = A ∧ N4.1 = N2.1 ∧ ∃ y4, v = some (.int y4) ∧ ((cl_n N4 x2) ∧ (cl_C xs K (d + 2) 51 [cl_rf A 3 0, cl_rf A 5 x2, .int ((N4.2.1 201 x1.toNatClampNeg) + (N4.2.1 2200 (9 * x2.toNatClampNeg + 4))), .int (f_more ((N4.2.1 204 x1.toNatClampNeg) + (f_more (N4.2.1 205 x1.toNatClampNeg) y4)) (N4.2.1 105 x1.toNatClampNeg)), .int (g_fw N4 x2 (N4.2.1 203 x1.toNatClampNeg) ((N4.2.1 203 x1.toNatClampNeg) - (2 * (N4.2.1 2200 (9 * x2.toNatClampNeg + 4)))))] A N4 (fun v A' N5 => A' = A ∧ N5.1 = N4.1 ∧ v = none ∧ (cl_C xs K (d + 2) 95 [cl_rf A 5 x2, .int 1] A (cl_up N5 204 x1.toNatClampNeg ((f_more ((N4.2.1 204 x1.toNatClampNeg) + (f_more (N4.2.1 205 x1.toNatClampNeg) y4)) (N4.2.1 105 x1.toNatClampNeg)) + (N5.2.1 3 x2.toNatClampNeg))) (fun v A' N6 => A' = A ∧ N6.1 = N5.1 ∧ ∃ y6, v = some (.int y6) ∧ (Q none A (cl_up N6 205 x1.toNatClampNeg y6))))))))) ∧ (¬ (s3 = 0) → (cl_n N2 x2) ∧ (cl_C xs K (d + 2) 51 [cl_rf A 3 0, cl_rf A 5 x2, .int ((N2.2.1 201 x1.toNatClampNeg) + (N2.2.1 2200 (9 * x2.toNatClampNeg + 4))), .int (f_more ((N2.2.1 204 x1.toNatClampNeg) + (f_more (N2.2.1 205 x1.toNatClampNeg) 0)) (N2.2.1 105 x1.toNatClampNeg)), .int (g_fw N2 x2 (N2.2.1 203 x1.toNatClampNeg) ((N2.2.1 203 x1.toNatClampNeg) - (2 * (N2.2.1 2200 (9 * x2.toNatClampNeg + 4)))))] A N2 (fun v A' N7 => A' = A ∧ N7.1 = N2.1 ∧ v = none ∧ (cl_C xs K (d + 2) 95 [cl_rf A 5 x2, .int 1] A (cl_up N7 204 x1.toNatClampNeg ((f_more ((N2.2.1 204 x1.toNatClampNeg) + (f_more (N2.2.1 205 x1.toNatClampNeg) 0)) (N2.2.1 105 x1.toNatClampNeg)) + (N7.2.1 3 x2.toNatClampNeg))) (fun v A' N8 => A' = A ∧ N8.1 = N7.1 ∧ ∃ y8, v = some (.int y8) ∧ (Q none A (cl_up N8 205 x1.toNatClampNeg y8)))))))))))) := by
  rintro x1 x2 rfl rfl
  obtain ⟨g1, g2, g3, g4, g5, ⟨g61, g62⟩, g7, g8, g9, g10, g11, g12⟩ := id h
  obtain ⟨k1, k2, k3, k4, k5, k6, k7, k8⟩ := hok
  obtain ⟨c1, c2, c3, c4, c5, c6, c7, c8, c9, c10, c11, en, c12, c13, c14⟩ := k1
  have hT0 := g1.1
  have h60 := hT0.1
  have cf : (nI f).toNatClampNeg = f := nI_clamp (by omega)
  have cn : (nI q.1).toNatClampNeg = q.1 := hT0.cl c1
  have hdep := dep_12 hf13
  have hbox : bd ox := nb_bd hox hdep
  have hboy : bd oy := nb_bd hoy hdep
  have hSPn := hSP.1 q.1 c1
  have hin := inner_nz (hSP.1 i hi) (by omega) (show f_boxy P i from Or.inl ((isBox_m (by omega)).mpr (Or.inl hib)))
  have hcs := cs_ge P q.1 q.2
  have hm := hSPn.1
  rw [cf, g3.1]
  refine cl_C.le (d := 0 + 4) (by omega) (kk_joined hT0 hi (hP i hi) hRi hfi hki _ ⟨rfl, rfl, _, rfl, ?_, Or.inr (hT0.n c1), fun s3 es => ?_⟩)
  · by_cases c : mg_jt P i ki 0 = -1
    · exact Or.inl c
    · refine Or.inr ?_
      have ok := mg_ch_ok (M := P) ki (-1, -1) (fun x => x < nn) hki (Or.inl ⟨rfl, rfl⟩)
      unfold mg_jt at c ⊢
      rw [if_pos rfl] at c ⊢
      by_cases a1 : f_joins P (nI i) = 0
      · rw [if_pos a1] at c; exact absurd rfl c
      · rw [if_neg a1] at c ⊢
        by_cases a2 : (mg_ch P ki (-1, -1)).1 = -1
        · rw [if_pos a2] at c; exact absurd rfl c
        · rw [if_neg a2] at c ⊢
          by_cases a3 : f_isBlock P (mg_ch P ki (-1, -1)).1 = 0
          · rw [if_pos a3] at c; exact absurd rfl c
          · rw [if_neg a3]
            rcases ok with ⟨o1, _⟩ | ⟨a, b, o1, _, o3⟩
            · exact absurd o1 a2
            · rw [o3]; exact hT0.n o1
  · have hwide : g_fw S (nI q.1) (f_inner P (nI i)) (f_inner P (nI i) - 2 * f_of P (nI q.1) 4) = P.2 17 q.1 := by
      unfold g_fw
      rw [g_told_eq hT0 c1 hSPn hin, hT0.frame c1, c11]
      unfold f_wv
      rw [if_pos (boxy_n4 (by omega) c10)]
      congr 1
      unfold f_wideOf
      rw [c8]
      by_cases r : f_told P (nI q.1) (f_inner P (nI i)) = -1
      · rw [if_pos r, if_neg (fun a => a r), if_pos k2, nI_clamp (by omega), hib, if_pos (by decide)]
      · rw [if_neg r, if_pos r]
    have hf4 := g4
    obtain ⟨a1, a2, a3, a4, a5, a6, a7, a8⟩ := g4
    have hends : nz B (lb_end (md_flts M l.length) 0) := fold_nz (g := fun r => r.2.2.2.1) _ _ (fun r hr => (a8 r hr).2.2.2) ⟨by rw [lit_0]; omega, by rw [lit_0]; omega⟩
    have e46 : (M.1 46).toNatClampNeg = l.length := by rw [a1, nI_clamp (by omega)]
    have own : ∀ top : Int32, nz 50 top → top = lb_own M i st q.1 → f_more (yv st + oy + f_more (bv P st) top) (lb_end (md_flts M l.length) 0 + oy) = lb_to M i st q.1 + oy ∧ nz (B + 50) (lb_to M i st q.1) := by
      intro top ht e
      have hx : nz (B + 50) (yv st + f_more (bv P st) top) := by
        refine nz_add g11 (C := 50) ?_ (Nat.le_refl _) (by omega) (by decide)
        unfold nz at *
        rw [more_toInt]
        omega
      have hto : lb_to M i st q.1 = f_more (yv st + f_more (bv P st) top) (lb_end (md_flts M l.length) 0) := by
        rw [← lb_end_0 hx.1]
        unfold lb_to
        rw [e46, ← e, g2.1 20 (by decide)]
        congr 1
        unfold yv bv
        by_cases c : st.2.1 = -1
        · rw [if_neg (fun r => r c), if_pos c, if_pos c, more0 ht.1]
        · rw [if_pos c, if_neg c, if_neg c]
      refine ⟨?_, ?_⟩
      · rw [hto, ← off_more (nz_bd hx (by omega)) (nz_bd hends (by omega)) hboy]
        congr 1
        grind
      · rw [hto]
        unfold nz at *
        rw [more_toInt]
        omega
    have houter : ∀ (S' : cl_S), cl_T S' P nn → ∀ b, ∀ Q', Q' (some (.int (if b = 0 then P.2 19 q.1 else P.2 20 q.1))) A S' → cl_C xs K (d + 2) 95 [cl_rf A 5 (nI q.1), .int b] A S' Q' := by
      intro S' hT' b Q' hq
      have hall := kk_outer (xs := xs) (K := K) (A := A) hT' hP q.2 (nI q.1) c3 c5 hmg.2.1
      exact kk_outer1 hT' hP c1 c3 c4 c5 hmg.1 hall k6 (d + 2) b (by omega) Q' hq
    -- both ways
    have fin : ∀ top : Int32, nz 50 top → top = lb_own M i st q.1 → cl_C xs K (d + 2) 51 [cl_rf A 3 0, cl_rf A 5 (nI q.1), .int ((S.2.1 201 f) + (S.2.1 2200 (9 * q.1 + 4))), .int (f_more ((S.2.1 204 f) + (f_more (S.2.1 205 f) top)) (S.2.1 105 f)), .int (g_fw S (nI q.1) (S.2.1 203 f) ((S.2.1 203 f) - (2 * (S.2.1 2200 (9 * q.1 + 4)))))] A S (fun v A' N5 => A' = A ∧ N5.1 = S.1 ∧ v = none ∧ (cl_C xs K (d + 2) 95 [cl_rf A 5 (nI q.1), .int 1] A (cl_up N5 204 f ((f_more ((S.2.1 204 f) + (f_more (S.2.1 205 f) top)) (S.2.1 105 f)) + (N5.2.1 3 q.1))) (fun v A' N6 => A' = A ∧ N6.1 = N5.1 ∧ ∃ y6, v = some (.int y6) ∧ (Q none A (cl_up N6 205 f y6))))) := by
      intro top ht e
      obtain ⟨hY, hYb⟩ := own top ht e
      rw [g3.2.1, hT0.h4 c1, g61, g62, a7, hY, g3.2.2.2.1, g3.2.2.2.2.1, hwide]
      have hde := dep_le c13
      have hXb : nb ((en + 1) * 67108864) (ox + f_of P (nI q.1) 4) := nb_add hox (nz_nb hm) (by rw [Nat.add_assoc]; exact dep_add c13 (by decide)) hdep (by decide)
      have hYb' : nb ((en + 1) * 67108864) (lb_to M i st q.1 + oy) := nb_add (nz_nb hYb) hoy (by rw [Nat.add_comm, Nat.add_assoc]; exact dep_add c13 (by omega)) (by omega) hdep
      refine k3 (d + 2) en S _ _ (by omega) c12 (by omega) g1 hXb hYb' _ (fun S2 r1 r2 r3 r4 r5 r6 r7 r8 => ⟨rfl, r1.1.1, rfl, ?_⟩)
      have hX2 : cl_X [204] S2 (cl_up S2 204 f (lb_to M i st q.1 + oy + S2.2.1 3 q.1)) := cl_X.rf.up (by decide) _ _
      have z2 : (cl_up S2 204 f (lb_to M i st q.1 + oy + S2.2.1 3 q.1)).2.1 204 f = lb_to M i st q.1 + P.2 18 q.1 + oy := by
        rw [cl_up_at, r5]
        grind
      have o2 : ∀ g f', ¬ f' = f → (cl_up S2 204 f (lb_to M i st q.1 + oy + S2.2.1 3 q.1)).2.1 g f' = S2.2.1 g f' := fun g f' hf' => cl_up_ne2 _ _ _ _ hf'
      generalize cl_up S2 204 f (lb_to M i st q.1 + oy + S2.2.1 3 q.1) = S3 at hX2 z2 o2
      have hLa2 := g1.fr r1
      have hT3 : cl_T S3 P nn := hLa2.1.x hX2 (by decide)
      refine houter S3 hT3 1 _ ⟨rfl, hX2.1, _, rfl, ?_⟩
      rw [if_neg (by decide)]
      have hXc : ox + f_of P (nI q.1) 4 = f_of P (nI q.1) 4 + ox := Int32.add_comm _ _
      rw [hXc] at r2 r7
      obtain ⟨F, hN⟩ := SMb.blk (S2 := S2) (S3 := cl_up S3 205 f (P.2 20 q.1)) (th := th) h hT hd c10 ⟨en, c12, c13⟩ c13 hYb r8 k8 hB r1 r2 r3 r4 r5 r6 r7 ((hX2.sub (by decide)).up (by decide) _ _) (fun g f' hf' => by rw [cl_up_ne2 _ _ _ _ hf', o2 g f' hf']) (by rw [cl_up_ne1 _ _ _ _ (by decide)]; exact z2) (cl_up_at _ _ _ _)
      exact hQ _ F hN r8
    have hjo : f_joins M (nI i) = f_joins P (nI i) := mg_joins ⟨g2.1 3 (by decide), g2.1 4 (by decide), g2.1 9 (by decide)⟩ _
    rw [cn]
    refine ⟨fun c => ?_, fun c => ⟨hT0.n c1, ?_⟩⟩
    · have hnj : ¬ mg_jt P i ki 0 = nI q.1 := by
        intro r
        rw [es, if_neg (fun a => a r)] at c
        exact absurd c (by decide)
      have hown : P.2 19 q.1 = lb_own M i st q.1 := by
        unfold lb_own
        rw [hjo, g2.1 19 (by decide)]
        by_cases a1 : st.2.2.2.1 = 0
        · rw [if_pos a1, if_pos rfl]
        · rw [if_neg a1]
          by_cases a2 : f_joins P (nI i) = 0
          · rw [if_pos a2, if_pos rfl]
          · exact absurd (hjn.mpr ⟨a1, a2⟩) hnj
      refine houter S hT0 0 _ ⟨rfl, rfl, _, rfl, hT0.n c1, ?_⟩
      rw [if_pos rfl]
      exact fin _ k7 hown
    · have hj : mg_jt P i ki 0 = nI q.1 := by
        by_cases r : mg_jt P i ki 0 = nI q.1
        · exact r
        · rw [es, if_pos r] at c
          exact absurd rfl c
      obtain ⟨a1, a2⟩ := hjn.mp hj
      have hown : (0 : Int32) = lb_own M i st q.1 := by
        unfold lb_own
        rw [hjo, if_neg a1, if_neg a2, if_neg (by decide)]
      exact fin 0 ⟨by rw [lit_0]; omega, by rw [lit_0]; omega⟩ hown
end BK
