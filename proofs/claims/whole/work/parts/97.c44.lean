/-! class and reference have the same places (by hand: wip/whole/gen/c44.py) -/
theorem lo_ab {P N : md_S} {W : Nat} {S : cl_S} : ∀ (t : bt) (ox oy : Int32), lo_F P W S t ox oy → ab_F P N t ox oy → ∀ n ∈ bt_pre t, (f_boxy P n → N.2 23 n = 1 ∧ S.2.1 511 n = 1 ∧ S.2.1 0 n = N.2 24 n ∧ S.2.1 1 n = N.2 25 n ∧ S.2.1 2 n = N.2 26 n ∧ S.2.1 3 n = N.2 27 n) ∧ (¬ f_boxy P n → N.2 23 n = 0) ∧ ∀ w b, w < W → b < 60 → P.2 30 w = nI n → P.2 14 n = nI b → S.2.1 0 (60 + w) = P.2 33 w + (N.2 15 b + f_edges P (nI b)) ∧ S.2.1 1 (60 + w) = P.2 34 w + (N.2 16 b + f_edges P (nI b)) := by
  intro t
  induction t with
  | leaf u => intro _ _ _ _ n hn; cases hn
  | branch i k s ihk ihs =>
    intro ox oy hl ha n hn
    obtain ⟨l1, l2, l3, l4⟩ := hl
    obtain ⟨a1, a2, a3, a4, a5⟩ := ha
    simp only [bt_pre, List.mem_cons, List.mem_append] at hn
    rcases hn with e | e | e
    · subst e
      refine ⟨fun c => ?_, a2, fun w b hw hb h30 h14 => ?_⟩
      · obtain ⟨q1, q2, q3, q4, q5⟩ := l1 c
        obtain ⟨r1, r2, r3, r4, r5⟩ := a1 c
        exact ⟨r1, q5, q1.trans r2.symm, q2.trans r3.symm, q3.trans r4.symm, q4.trans r5.symm⟩
      · obtain ⟨q1, q2⟩ := l2 w hw h30
        obtain ⟨r1, r2⟩ := a3 b hb h14
        rw [q1, q2, r1, r2]
        exact ⟨rfl, rfl⟩
    · exact ihk _ _ l3 a4 n e
    · exact ihs _ _ l4 a5 n e
theorem wa_fold (M : md_S) : ∀ (W : Nat), md_X [] [33, 34] M ((List.range W).foldl f_wa M) ∧ ∀ q, ((List.range W).foldl f_wa M).2 33 q = (if q < W then M.2 33 q + (M.2 15 (M.2 14 (M.2 30 q).toNatClampNeg).toNatClampNeg + f_edges M (M.2 14 (M.2 30 q).toNatClampNeg)) else M.2 33 q) ∧ ((List.range W).foldl f_wa M).2 34 q = (if q < W then M.2 34 q + (M.2 16 (M.2 14 (M.2 30 q).toNatClampNeg).toNatClampNeg + f_edges M (M.2 14 (M.2 30 q).toNatClampNeg)) else M.2 34 q) := by
  intro W
  induction W with
  | zero => exact ⟨md_X.rf, fun q => ⟨by rw [if_neg (by omega)]; rfl, by rw [if_neg (by omega)]; rfl⟩⟩
  | succ W ih =>
    obtain ⟨x1, h1⟩ := ih
    rw [List.range_succ, List.foldl_append, List.foldl_cons, List.foldl_nil]
    refine ⟨x1.tr (f_wa_X _ _), fun q => ?_⟩
    generalize (List.range W).foldl f_wa M = N at x1 h1
    unfold f_wa
    rw [x1.2 30 (by decide), x1.2 14 (by decide), x1.2 15 (by decide), x1.2 16 (by decide), edges_same (x1.2 9 (by decide)), (h1 W).1, (h1 W).2, if_neg (by omega), if_neg (by omega)]
    by_cases c : q = W
    · subst c
      rw [if_pos (by omega), if_pos (by omega)]
      exact ⟨by rw [md_up2_ne _ (by decide), md_up2_at], by rw [md_up2_at]⟩
    · rw [md_up2_off2 c, md_up2_off2 c, md_up2_off2 c, md_up2_off2 c, (h1 q).1, (h1 q).2]
      by_cases c2 : q < W
      · rw [if_pos c2, if_pos (show q < W + 1 by omega), if_pos c2, if_pos (show q < W + 1 by omega)]
        exact ⟨rfl, rfl⟩
      · rw [if_neg c2, if_neg (show ¬ q < W + 1 by omega), if_neg c2, if_neg (show ¬ q < W + 1 by omega)]
        exact ⟨rfl, rfl⟩
theorem lay3_ab {M : md_S} {K : bt} {nn W : Nat} {wd : Int32} (h : HS M K nn W wd) : (∀ a, a ∉ X_D → (f_lay3 M K).2 a = (f_p2 (bt_root K) M).2 a) ∧ ab_F (f_p2 (bt_root K) M) (f_lay3 M K) K (0 + f_edges (f_p2 (bt_root K) M) (nI 0)) (0 + f_edges (f_p2 (bt_root K) M) (nI 0)) ∧ (f_lay3 M K).2 23 0 = 1 ∧ (f_lay3 M K).2 24 0 = 0 ∧ (f_lay3 M K).2 25 0 = 0 ∧ (f_lay3 M K).2 26 0 = (f_p2 (bt_root K) M).2 17 0 ∧ (f_lay3 M K).2 27 0 = (f_p2 (bt_root K) M).2 18 0 := by
  obtain ⟨hP, hF, hl⟩ := p2_HS h
  generalize hPe : f_p2 (bt_root K) M = P at hP hF hl
  have h60 := hP.1.1
  have hn0 : 0 < nn := (hP.2.2.2.1 0).mpr (by simp [bt_root, bt_pre])
  have hpre : bt_pre (bt_root K) = 0 :: bt_pre K := by simp [bt_root, bt_pre]
  have hnd := hP.2.2.1
  rw [hpre] at hnd
  obtain ⟨d0, dK⟩ := List.nodup_cons.mp hnd
  have hR : bt_R (P.2 4) (P.2 5) (P.2 7) (nI 0) K := hP.2.1.2.2.2.2.1
  have hbox : ¬ f_isBox P (nI 0) = 0 := (isBox_m (by omega)).mpr (mo_root hP.1 hn0).1
  have kx : ∀ x ∈ bt_pre K, x < nn := fun x hx => (hP.2.2.2.1 x).mpr (by rw [hpre]; simp [hx])
  have h14 := hP.1.b14 K 0 0 hn0 (Or.inr ⟨hbox, rfl⟩) hR kx
  have e3 : f_lay3 M K = (bt_pre K).foldl f_ba (f_ba (md_nohad (md_up2 (md_up2 P 15 0 0) 16 0 0) 60) 0) := by
    unfold f_lay3
    rw [hpre, List.foldl_cons, hPe]
  have r23 : ∀ x, x < 60 → (md_nohad (md_up2 (md_up2 P 15 0 0) 16 0 0) 60).2 23 x = 0 := by
    intro x hx
    show (if 23 = 23 ∧ x < 60 then (0 : Int32) else _) = 0
    rw [if_pos ⟨rfl, hx⟩]
  have rX := nohad_X (md_up2 (md_up2 P 15 0 0) 16 0 0) 60
  have r0 : ∀ a, a ∉ X_D → (md_nohad (md_up2 (md_up2 P 15 0 0) 16 0 0) 60).2 a = P.2 a := by
    intro a ha
    rw [rX.2 a (fun c => ha (by rw [List.mem_singleton.mp c]; decide)), md_up2_ne _ (fun c => ha (by rw [c]; decide)), md_up2_ne _ (fun c => ha (by rw [c]; decide))]
  have r15 : ∀ x, (md_nohad (md_up2 (md_up2 P 15 0 0) 16 0 0) 60).2 15 x = if x = 0 then 0 else P.2 15 x := by
    intro x
    rw [rX.2 15 (by decide), md_up2_ne _ (by decide)]
    by_cases c : x = 0
    · rw [if_pos c, c, md_up2_at]
    · rw [if_neg c, md_up2_off _ _ c]
  have r16 : ∀ x, (md_nohad (md_up2 (md_up2 P 15 0 0) 16 0 0) 60).2 16 x = if x = 0 then 0 else P.2 16 x := by
    intro x
    rw [rX.2 16 (by decide)]
    by_cases c : x = 0
    · rw [if_pos c, c, md_up2_at]
    · rw [if_neg c, md_up2_off _ _ c, md_up2_ne _ (by decide)]
  generalize md_nohad (md_up2 (md_up2 P 15 0 0) 16 0 0) 60 = R0 at e3 r23 r0 r15 r16
  have eb : f_ba R0 0 = f_bk R0 0 := by
    unfold f_ba
    rw [if_pos ((boxy_same (r0 12 (by decide)) 0).mpr (Or.inl hbox)), if_pos rfl]
  have v : (f_ba R0 0).2 23 0 = 1 ∧ (f_ba R0 0).2 24 0 = 0 ∧ (f_ba R0 0).2 25 0 = 0 ∧ (f_ba R0 0).2 26 0 = P.2 17 0 ∧ (f_ba R0 0).2 27 0 = P.2 18 0 ∧ (f_ba R0 0).2 15 0 = 0 ∧ (f_ba R0 0).2 16 0 = 0 := by
    rw [eb]
    unfold f_bk
    refine ⟨?_, ?_, ?_, ?_, ?_, ?_, ?_⟩
    · rw [md_up2_ne _ (by decide), md_up2_ne _ (by decide), md_up2_ne _ (by decide), md_up2_ne _ (by decide), md_up2_at]
    · rw [md_up2_ne _ (by decide), md_up2_ne _ (by decide), md_up2_ne _ (by decide), md_up2_at, r15, if_pos rfl]
    · rw [md_up2_ne _ (by decide), md_up2_ne _ (by decide), md_up2_at, r16, if_pos rfl]
    · rw [md_up2_ne _ (by decide), md_up2_at, r0 17 (by decide)]
    · rw [md_up2_at, r0 18 (by decide)]
    · rw [md_up2_ne _ (by decide), md_up2_ne _ (by decide), md_up2_ne _ (by decide), md_up2_ne _ (by decide), md_up2_ne _ (by decide), r15, if_pos rfl]
    · rw [md_up2_ne _ (by decide), md_up2_ne _ (by decide), md_up2_ne _ (by decide), md_up2_ne _ (by decide), md_up2_ne _ (by decide), r16, if_pos rfl]
  have X1 := f_ba_X R0 0
  have of1 := fun m (h : ¬ m = 0) => ba_off R0 h
  generalize f_ba R0 0 = M1 at e3 v X1 of1
  have m0 : ∀ a, a ∉ X_D → M1.2 a = P.2 a := fun a ha => (X1.2 a ha).trans (r0 a ha)
  obtain ⟨v1, v2, v3, v4, v5, v6, v7⟩ := v
  have key := ba_all K M1 0 (0 + f_edges P (nI 0)) (0 + f_edges P (nI 0)) m0 (fun x hx => by
    have hne : ¬ x = 0 := fun e => d0 (by rw [← e]; exact hx)
    rw [of1 x hne 15 (by decide), of1 x hne 16 (by decide), of1 x hne 23 (by decide), r15, r16, if_neg hne, if_neg hne]
    exact ⟨by have := kx x hx; omega, hne, rfl, rfl, r23 x (by have := kx x hx; omega)⟩) dK (by omega) d0 h14 (by rw [v6]) (by rw [v7])
  rw [e3]
  refine ⟨fun a ha => ((f_bas_X (bt_pre K) M1).2 a ha).trans (m0 a ha), key, ?_⟩
  have of2 := bas_off (bt_pre K) M1 0 d0
  rw [of2 23 (by decide), of2 24 (by decide), of2 25 (by decide), of2 26 (by decide), of2 27 (by decide)]
  exact ⟨v1, v2, v3, v4, v5⟩
/-- what a laying leaves: boxes and words of the class are the reference's -/
def bx_eq (S : cl_S) (N : md_S) (nn : Nat) : Prop := ∀ n, n < nn → (¬ N.2 23 n = 0 ↔ ¬ S.2.1 511 n = 0) ∧ (¬ N.2 23 n = 0 → S.2.1 0 n = N.2 24 n ∧ S.2.1 1 n = N.2 25 n ∧ S.2.1 2 n = N.2 26 n ∧ S.2.1 3 n = N.2 27 n)
def wd_eq (S : cl_S) (N : md_S) (W : Nat) : Prop := ∀ w, w < W → S.2.1 700 w = N.2 30 w ∧ S.2.1 701 w = N.2 31 w ∧ S.2.1 702 w = N.2 32 w ∧ S.2.1 0 (60 + w) = N.2 33 w ∧ S.2.1 1 (60 + w) = N.2 34 w ∧ S.2.1 2 (60 + w) = N.2 35 w ∧ S.2.1 3 (60 + w) = N.2 36 w
theorem lay_places {M : md_S} {K : bt} {nn W : Nat} {wd : Int32} {S : cl_S} (h : HS M K nn W wd) (hlo : lo_F (f_p2 (bt_root K) M) W S K (0 + f_edges (f_p2 (bt_root K) M) (nI 0)) (0 + f_edges (f_p2 (bt_root K) M) (nI 0))) (s0 : S.2.1 0 0 = 0 ∧ S.2.1 1 0 = 0 ∧ S.2.1 2 0 = (f_p2 (bt_root K) M).2 17 0 ∧ S.2.1 3 0 = (f_p2 (bt_root K) M).2 18 0 ∧ S.2.1 511 0 = 1) (h511 : ∀ n, n < nn → ¬ f_boxy (f_p2 (bt_root K) M) n → S.2.1 511 n = 0)
    (hw : ∀ w, w < W → S.2.1 700 w = M.2 30 w ∧ S.2.1 701 w = M.2 31 w ∧ S.2.1 702 w = M.2 32 w ∧ S.2.1 2 (60 + w) = M.2 35 w ∧ S.2.1 3 (60 + w) = M.2 36 w) : bx_eq S (f_lay4 M K W) nn ∧ wd_eq S (f_lay4 M K W) W ∧ (∀ a, a ∉ [15, 16, 18, 23, 24, 25, 26, 27, 33, 34, 44, 45, 47, 48, 49, 50, 51, 52] → (f_lay4 M K W).2 a = M.2 a) ∧ (f_lay4 M K W).2 18 0 = S.2.1 3 0 := by
  obtain ⟨hP, hF, hl⟩ := p2_HS h
  obtain ⟨n1, n2, n3, n4, n5, n6, n7⟩ := lay3_ab h
  obtain ⟨w1, w2⟩ := wa_fold (f_lay3 M K) W
  have ew : f_lay4 M K W = (List.range W).foldl f_wa (f_lay3 M K) := rfl
  rw [← ew] at w1 w2
  generalize f_p2 (bt_root K) M = P at *
  have h60 := hP.1.1
  have key := lo_ab K _ _ hlo n2
  have hpre : bt_pre (bt_root K) = 0 :: bt_pre K := by simp [bt_root, bt_pre]
  obtain ⟨s1, s2, s3, s4, s5⟩ := s0
  have hn0 : 0 < nn := (hP.2.2.2.1 0).mpr (by simp [bt_root, bt_pre])
  refine ⟨fun n hn => ?_, fun w hw' => ?_, fun a ha => ?_, ?_⟩
  · rw [w1.2 23 (by decide), w1.2 24 (by decide), w1.2 25 (by decide), w1.2 26 (by decide), w1.2 27 (by decide)]
    by_cases c0 : n = 0
    · subst c0
      rw [n3, n4, n5, n6, n7, s1, s2, s3, s4, s5]
      exact ⟨Iff.rfl, fun _ => ⟨rfl, rfl, rfl, rfl⟩⟩
    · have hin : n ∈ bt_pre K := by
        have := (hP.2.2.2.1 n).mp hn
        rw [hpre] at this
        rcases List.mem_cons.mp this with e | e
        · exact absurd e c0
        · exact e
      obtain ⟨k1, k2, _⟩ := key n hin
      by_cases cb : f_boxy P n
      · obtain ⟨q1, q2, q3, q4, q5, q6⟩ := k1 cb
        rw [q1, q2]
        exact ⟨Iff.rfl, fun _ => ⟨q3, q4, q5, q6⟩⟩
      · rw [k2 cb, h511 n hn cb]
        exact ⟨Iff.rfl, fun c => absurd rfl c⟩
  · obtain ⟨i, hi, h6, w0, j, r, e1, e2, e3, e4, e5⟩ := hP.word hw'
    have hi0 : ¬ i = 0 := by
      rintro rfl
      rcases (mo_root hP.1 hi).1 with q | q <;> rw [q] at h6 <;> exact absurd h6 (by decide)
    have hin : i ∈ bt_pre K := by
      have := (hP.2.2.2.1 i).mp hi
      rw [hpre] at this
      rcases List.mem_cons.mp this with e | e
      · exact absurd e hi0
      · exact e
    obtain ⟨b, b1, b2, b3⟩ := hP.1.box i hi hi0
    obtain ⟨g1, g2⟩ := (key i hin).2.2 w b hw' (by omega) e5.1 b2
    have c30 : (f_lay3 M K).2 30 w = nI i := by rw [n1 30 (by decide)]; exact e5.1
    have ci : (nI i).toNatClampNeg = i := nI_clamp (by omega)
    have cb : (nI b).toNatClampNeg = b := nI_clamp (by omega)
    have c14 : (f_lay3 M K).2 14 i = nI b := by rw [n1 14 (by decide)]; exact b2
    obtain ⟨u1, u2, u3, u4, u5⟩ := hw w hw'
    have x33 := (w2 w).1
    have x34 := (w2 w).2
    rw [if_pos hw', c30, ci, c14, cb, edges_same (n1 9 (by decide)), n1 33 (by decide)] at x33
    rw [if_pos hw', c30, ci, c14, cb, edges_same (n1 9 (by decide)), n1 34 (by decide)] at x34
    rw [w1.2 30 (by decide), w1.2 31 (by decide), w1.2 32 (by decide), w1.2 35 (by decide), w1.2 36 (by decide), n1 30 (by decide), n1 31 (by decide), n1 32 (by decide), n1 35 (by decide), n1 36 (by decide), hF.1 30 (by decide), hF.1 31 (by decide), hF.1 32 (by decide), hF.1 35 (by decide), hF.1 36 (by decide), x33, x34]
    exact ⟨u1, u2, u3, g1, g2, u4, u5⟩
  · have h1 : a ∉ [33, 34] := fun c => ha ((show ∀ a ∈ [33, 34], a ∈ [15, 16, 18, 23, 24, 25, 26, 27, 33, 34, 44, 45, 47, 48, 49, 50, 51, 52] by decide) a c)
    have h2 : a ∉ X_D := fun c => ha ((show ∀ a ∈ X_D, a ∈ [15, 16, 18, 23, 24, 25, 26, 27, 33, 34, 44, 45, 47, 48, 49, 50, 51, 52] by decide) a c)
    have h3 : a ∉ X_C := fun c => ha ((show ∀ a ∈ X_C, a ∈ [15, 16, 18, 23, 24, 25, 26, 27, 33, 34, 44, 45, 47, 48, 49, 50, 51, 52] by decide) a c)
    rw [w1.2 a h1, n1 a h2, hF.1 a h3]
  · rw [w1.2 18 (by decide), n1 18 (by decide), s4]
