/-! the class: a line ends (by hand: wip/whole/gen/c17.py) -/
/-- class and reference agree while lines are filled -/
def SMl (xs : List Int32) (K : Nat → Prop) (A : cl_A) (P : md_S) (nn W i f D : Nat) (T : List Nat) (ox oy : Int32) (S : cl_S) (M : md_S) (l : List Nat) (wl : List (Nat × bt)) (bl ex : List Nat) (V : List (Nat × bt)) (VW : List Nat) (B : Nat) : Prop := la_T S P nn W ∧ si_st P M T ∧ si_fw S P M i f ox oy ∧ si_fl S P M f ox oy l B ∧ si_wt S M f wl ∧ si_ln S P M f W ox bl B ∧ (S.2.1 204 f = M.1 37 + oy ∧ S.2.1 205 f = 0) ∧ nb B (M.1 55) ∧ si_pl S P M W ox oy wl (bl ++ ex) V VW ∧ si_ds P nn W T l wl (bl ++ ex) V VW ∧ (∀ q ∈ wl, flt_ok xs K A P nn W i f D T q) ∧ l.length + wl.length ≤ V.length ∧ (bl = [] → wl = [])
theorem plB.ag {P M M' : md_S} {W : Nat} {S S' : cl_S} {ox oy : Int32} {q : Nat × bt} (h : plB P W S M ox oy q) (h1 : ∀ b, inT P W (sub q) b → S'.2.1 0 b = S.2.1 0 b ∧ S'.2.1 1 b = S.2.1 1 b ∧ S'.2.1 2 b = S.2.1 2 b ∧ S'.2.1 3 b = S.2.1 3 b) (h2 : ∀ m ∈ sub q, S'.2.1 511 m = S.2.1 511 m) (h15 : M'.2 15 q.1 = M.2 15 q.1) (h16 : M'.2 16 q.1 = M.2 16 q.1) : plB P W S' M' ox oy q := by
  obtain ⟨a0, a1, a2, a3, a4, a5⟩ := h
  obtain ⟨e0, e1, e2, e3⟩ := h1 q.1 (Or.inl (by simp))
  unfold plB
  rw [h15, h16, e0, e1, e2, e3, h2 q.1 (by simp)]
  exact ⟨a0, a1, a2, a3, a4, lo_F.mv (fun b hb => h1 b (hb.sub (fun x hx => by simp [hx]))) (fun m hm => h2 m (by simp [hm])) a5⟩
/-- boxes of the line are none of what a box holds -/
theorem si_ds.nbl {P : md_S} {nn W : Nat} {T l : List Nat} {wl : List (Nat × bt)} {bl : List Nat} {V : List (Nat × bt)} {VW : List Nat} (h : si_ds P nn W T l wl bl V VW) {q : Nat × bt} (hq : q ∈ V) (hb : ¬ f_isBox P (nI q.1) = 0) {b : Nat} (hi : inT P W (sub q) b) : b ∉ bl := by
  intro r
  obtain ⟨g1, g2⟩ := h.bl hq hb
  rcases h.2.2.2.2.2.1 b r with ⟨k, hk, h4⟩ | ⟨w, hw, rfl⟩
  · exact g1 (b, k) hk h4 hi
  · exact g2 w hw hi
theorem si_ds.blT {P : md_S} {nn W : Nat} {T l : List Nat} {wl : List (Nat × bt)} {bl : List Nat} {V : List (Nat × bt)} {VW : List Nat} (h : si_ds P nn W T l wl bl V VW) {b : Nat} (hb : b ∈ bl) : inT P W T b := by
  rcases h.2.2.2.2.2.1 b hb with ⟨k, hk, _⟩ | ⟨w, hw, rfl⟩
  · exact Or.inl (h.1 _ hk b (by simp))
  · obtain ⟨hwW, q, hq, h30, _⟩ := h.2.2.2.2.2.2.2.1 w hw
    exact Or.inr ⟨w, q.1, rfl, hwW, h.1 q hq q.1 (by simp), h30⟩
theorem si_ds.blv {P : md_S} {nn W : Nat} {T l : List Nat} {wl : List (Nat × bt)} {bl : List Nat} {V : List (Nat × bt)} {VW : List Nat} {S : cl_S} (h : si_ds P nn W T l wl bl V VW) (hLa : la_T S P nn W) {b : Nat} (hb : b ∈ bl) : b < 4000 ∧ cl_lv S 0 (nI b) := by
  have hT := hLa.1
  rcases h.2.2.2.2.2.1 b hb with ⟨k, hk, _⟩ | ⟨w, hw, rfl⟩
  · have hbn := h.2.2.2.2.2.2.2.2.1 b (h.1 _ hk b (by simp))
    have := hT.1
    exact ⟨by omega, (hT.n hbn).l0⟩
  · obtain ⟨hwW, _⟩ := h.2.2.2.2.2.2.2.1 w hw
    obtain ⟨Wp, hp, hWp⟩ := hLa.2.2.1
    have := hp.1
    refine ⟨by omega, ?_⟩
    have e : (60 : Int32) + nI w = nI (60 + w) := by
      show nI 60 + nI w = _
      rw [nI_add]
    rw [← e]
    exact (hp.2.2.2.2 w (by omega)).2.l0
theorem kk_endLine {xs : List Int32} {K : Nat → Prop} {A : cl_A} {P : md_S} {nn W i f D E : Nat} {T : List Nat} {ox oy : Int32} {S : cl_S} {M : md_S} {l : List Nat} {wl : List (Nat × bt)} {bl ex : List Nat} {V : List (Nat × bt)} {VW : List Nat} {B : Nat} (hSP : SP P nn W) (hib : f_boxy P i) (hi : i < nn) (hf13 : f < 13) (hox : nb ((f + 1) * 67108864 + 59) ox) (hoy : nb ((f + 1) * 67108864 + 59) oy) (h : SMl xs K A P nn W i f D T ox oy S M l wl bl ex V VW B) (hbl : ¬ bl = []) (hB : B + csq P wl ≤ 67108000) (hV : V.length < 60) (hD : 21 ≤ D) (hE : D + 1 ≤ E) : ∀ Q', (∀ S', FR P W T T f S S' → S'.2.1 206 f = S.2.1 206 f → SMl xs K A P nn W i f D T ox oy S' (f_endLine_M M bl.length wl.length) (l ++ wl.map (·.1)) [] [] ex V VW (B + csq P wl) → Q' none A S') → cl_C xs K E 83 [cl_rf A 3 0, cl_rf A 2 (nI f)] A S Q' := by
  intro Q' hQ
  obtain ⟨hLa, hst, hfw, hfl, hwt, hln, ⟨hy, hy5⟩, hbw, hpl, hds, hok, hlen, _⟩ := h
  have hT := hLa.1
  have h60 := hT.1
  have cf : (nI f).toNatClampNeg = f := nI_clamp (by omega)
  obtain ⟨q1, q2, q3, q4, q5, q6, q7, q8, q9, q10, q11⟩ := hln
  obtain ⟨q71, q72, q74, q75⟩ := q7 hbl
  obtain ⟨v1, v2, v3, v4⟩ := hwt
  obtain ⟨d1, d2, d3, d4, d5, d6, d7, d8, d9, d10, d11⟩ := id hds
  obtain ⟨d', rfl⟩ : ∃ d', E = d' + 2 + 1 := ⟨E - 3, by omega⟩
  have hW37 := d10
  have d7' : bl.Nodup := (List.nodup_append.mp d7).1
  have nbl : ∀ {q : Nat × bt}, q ∈ V → ¬ f_isBox P (nI q.1) = 0 → ∀ {b : Nat}, inT P W (sub q) b → b ∉ bl := fun hq hb _ hi r => hds.nbl hq hb hi (List.mem_append_left _ r)
  have hf := hT.2.2.1 f hf13
  have hbb : ∀ b ∈ bl, b < 2 ^ 31 := fun b hb => by have := (hds.blv hLa (List.mem_append_left _ hb)).1; omega
  have hne : ¬ S.2.1 400 f = -1 := fun e => hbl ((chn_m1 hbb q3).mp e)
  refine cl_intro (ms83 xs) (Nat.le_of_ble_eq_true rfl) (fun h0 => vc83_0 ⟨hf, fun _ => ?_, fun c => absurd (by unfold g_empty; rw [cf, if_pos hne]) c⟩)
  rw [cf, hfw.1, hT.cl hi, hT.h7 hi, hy]
  refine ⟨hT.n hi, ?_⟩
  refine cl_C.le (d := 0 + 2) (by omega) (kk_settle hf hf13 (fun b hb => hds.blv hLa (List.mem_append_left _ hb)) d7' q3 _ (fun S1 s1 s2 s3 => ⟨rfl, s1.1, _, rfl, ?_⟩))
  have hby : g_space S (nI f) (f_of P (nI i) 7) = f_elBy M := by
    unfold g_space f_elBy
    rw [cf, q71, q72, off_diff, hfw.2.2.2.2.2.1]
    have h7 := (hSP.1 i hi).2.2.2.2.2.2.2.2
    have h2 : (2 : Int32).toInt = 2 := by decide
    have h1 : (1 : Int32).toInt = 1 := by decide
    by_cases c0 : f_of P (nI i) 7 = 0
    · simp [c0]
    · by_cases c1 : f_of P (nI i) 7 = 1
      · simp [c1]
      · have c2 : f_of P (nI i) 7 = 2 := by
          apply Int32.toInt_inj.mp
          have n0 : ¬ (f_of P (nI i) 7).toInt = 0 := fun e => c0 (Int32.toInt_inj.mp (by rw [e]; rfl))
          have n1 : ¬ (f_of P (nI i) 7).toInt = 1 := fun e => c1 (Int32.toInt_inj.mp (by rw [e]; rfl))
          rw [h2]
          omega
        simp [c2]
  rw [hby, q5] at s3
  rw [q5]
  have hf1 : cl_f S1 (nI f) := hf.mv s1.1
  refine cl_C.le (d := 0 + 1) (by omega) (kk_release (S := cl_up (cl_up (cl_up (cl_up S1 204 f (M.1 37 + oy + M.1 42)) 400 f (-1)) 401 f (-1)) 404 f 0) (hf1.mv rfl) hf13 _ ⟨rfl, rfl, _, rfl, ?_⟩)
  have e207 : (cl_up (cl_up (cl_up (cl_up S1 204 f (M.1 37 + oy + M.1 42)) 400 f (-1)) 401 f (-1)) 404 f 0).2.1 207 f = S.2.1 207 f := by
    rw [cl_up_ne1 _ _ _ _ (by decide), cl_up_ne1 _ _ _ _ (by decide), cl_up_ne1 _ _ _ _ (by decide), cl_up_ne1 _ _ _ _ (by decide), s1.2.2 207 (by decide)]
  rw [e207]
  -- the state before the waiting ones are put
  have hS3 : ∃ S3, S3 = cl_up (cl_up (cl_up (cl_up (cl_up (cl_up S1 204 f (M.1 37 + oy + M.1 42)) 400 f (-1)) 401 f (-1)) 404 f 0) 207 f (-1)) 208 f (-1) := ⟨_, rfl⟩
  obtain ⟨S3, hS3⟩ := hS3
  rw [← hS3]
  have x3 : cl_X [0, 1, 204, 400, 401, 404, 207, 208] S S3 := by
    rw [hS3]
    exact (((((((s1.sub (by decide)).up (by decide) _ _).up (by decide) _ _).up (by decide) _ _).up (by decide) _ _).up (by decide) _ _).up (by decide) _ _)
  have b3 : ∀ g, g < 5 → ∀ b, S3.2.1 g b = S1.2.1 g b := by
    intro g hg b
    rw [hS3, cl_up_ne1 _ _ _ _ (by omega), cl_up_ne1 _ _ _ _ (by omega), cl_up_ne1 _ _ _ _ (by omega), cl_up_ne1 _ _ _ _ (by omega), cl_up_ne1 _ _ _ _ (by omega), cl_up_ne1 _ _ _ _ (by omega)]
  have n3 : ∀ b, b ∉ bl → ∀ g, g < 5 → S3.2.1 g b = S.2.1 g b := by
    intro b hb g hg
    rw [b3 g hg]
    by_cases c : g = 0 ∨ g = 1
    · rcases c with rfl | rfl
      · exact (s2 b hb).1
      · exact (s2 b hb).2
    · rw [s1.2.2 g (by simp; omega)]
  have f3 : ∀ g, 100 ≤ g → ∀ f', ¬ f' = f → S3.2.1 g f' = S.2.1 g f' := by
    intro g hg f' hf'
    rw [hS3, cl_up_ne2 _ _ _ _ hf', cl_up_ne2 _ _ _ _ hf', cl_up_ne2 _ _ _ _ hf', cl_up_ne2 _ _ _ _ hf', cl_up_ne2 _ _ _ _ hf', cl_up_ne2 _ _ _ _ hf', s1.2.2 g (by simp; omega)]
  have y3 : S3.2.1 204 f = M.1 37 + M.1 42 + oy := by
    rw [hS3, cl_up_ne1 _ _ _ _ (by decide), cl_up_ne1 _ _ _ _ (by decide), cl_up_ne1 _ _ _ _ (by decide), cl_up_ne1 _ _ _ _ (by decide), cl_up_ne1 _ _ _ _ (by decide), cl_up_at]
    grind
  have z400 : S3.2.1 400 f = -1 := by
    rw [hS3, cl_up_ne1 _ _ _ _ (by decide), cl_up_ne1 _ _ _ _ (by decide), cl_up_ne1 _ _ _ _ (by decide), cl_up_ne1 _ _ _ _ (by decide), cl_up_at]
  have z401 : S3.2.1 401 f = -1 := by
    rw [hS3, cl_up_ne1 _ _ _ _ (by decide), cl_up_ne1 _ _ _ _ (by decide), cl_up_ne1 _ _ _ _ (by decide), cl_up_at]
  have z404 : S3.2.1 404 f = 0 := by
    rw [hS3, cl_up_ne1 _ _ _ _ (by decide), cl_up_ne1 _ _ _ _ (by decide), cl_up_at]
  have z207 : S3.2.1 207 f = -1 := by
    rw [hS3, cl_up_ne1 _ _ _ _ (by decide), cl_up_at]
  have z208 : S3.2.1 208 f = -1 := by
    rw [hS3, cl_up_at]
  clear hS3
  have F3 : FR P W T T f S S3 := by
    refine ⟨x3.sub (by decide), fun b hb g hg => n3 b (fun r => hb (hds.blT (List.mem_append_left _ r))) g hg, fun b _ => by rw [x3.2.2 2 (by decide), x3.2.2 3 (by decide)]; exact ⟨rfl, rfl⟩, fun m _ => by rw [x3.2.2 511 (by decide)], fun m _ => by rw [x3.2.2 515 (by decide)], fun g g1 g2 f' hf' => f3 g g1 f' (by omega)⟩
  have hLa3 := hLa.fr F3
  -- the reference's side
  have hN1 := elI_facts (M := M) (by_ := f_elBy M) hW37 d7' (fun k b hk => (q6 k b hk).1) bl.length (Nat.le_refl _)
  have hM' : f_endLine_M M bl.length wl.length = md_up1 (gw (f_el2 (f_elI M bl.length)) (wl.map (·.1))) 53 0 := by
    unfold f_endLine_M
    rw [show wl.length = (wl.map (·.1)).length by simp, elW_gw]
    · intro n hn
      obtain ⟨q, hq, rfl⟩ := List.mem_map.mp hn
      have := d9 _ (d1 q (d4 q hq).1 q.1 (by simp))
      omega
    · intro k n hk
      have : (f_el2 (f_elI M bl.length)).2 52 = M.2 52 := hN1.2.1 52 (by decide)
      rw [this]
      exact v4 k n hk
  change elP M bl (f_elBy M) bl.length (f_elI M bl.length) at hN1
  have g1 : ∀ g, g ∉ [37, 41, 42, 54] → (f_el2 (f_elI M bl.length)).1 g = M.1 g := by
    intro g hg
    simp only [List.mem_cons, List.not_mem_nil, or_false, not_or] at hg
    unfold f_el2
    rw [md_up1_ne _ hg.2.2.2, md_up1_ne _ hg.2.2.1, md_up1_ne _ hg.2.1, md_up1_ne _ hg.1, hN1.1]
  have g37 : (f_el2 (f_elI M bl.length)).1 37 = M.1 37 + M.1 42 := by
    unfold f_el2
    rw [md_up1_ne _ (by decide), md_up1_ne _ (by decide), md_up1_ne _ (by decide), md_up1_at, hN1.1, hN1.1]
  have g41 : (f_el2 (f_elI M bl.length)).1 41 = 0 := by
    unfold f_el2
    rw [md_up1_ne _ (by decide), md_up1_ne _ (by decide), md_up1_at]
  have g42 : (f_el2 (f_elI M bl.length)).1 42 = 0 := by
    unfold f_el2
    rw [md_up1_ne _ (by decide), md_up1_at]
  have g2 : (f_el2 (f_elI M bl.length)).2 = (f_elI M bl.length).2 := rfl
  rw [hM'] at hQ
  generalize f_el2 (f_elI M bl.length) = N2 at hQ g1 g37 g41 g42 g2
  generalize f_elI M bl.length = N1 at hN1 g2
  obtain ⟨_, n2, n3', n4, n5⟩ := hN1
  have N2a : ∀ a, a ∉ [15, 16, 33, 34] → N2.2 a = M.2 a := fun a ha => by rw [g2]; exact n2 a ha
  have hst2 : si_st P N2 T := hst.x (fun a ha => N2a a (fun r => ha ((show ∀ a ∈ [15, 16, 33, 34], a ∈ X_C by decide) a r))) (N2a 18 (by decide))
  have hfw3 : si_fw S3 P N2 i f ox oy := hfw.mv (fun g hg => by
      have := (show ∀ g ∈ [200, 201, 202, 203, 100, 101], g ∉ [0, 1, 204, 400, 401, 404, 207, 208] by decide) g hg
      rw [x3.2.2 g this]) (g1 55 (by decide)) (g1 43 (by decide))
  have hflts : ∀ c, md_flts N2 c = md_flts M c := by
    intro c
    unfold md_flts md_flt
    rw [N2a 47 (by decide), N2a 48 (by decide), N2a 49 (by decide), N2a 50 (by decide), N2a 51 (by decide)]
  have hlb : ∀ n ∈ l, n ∉ bl := by
    intro n hn
    obtain ⟨k, hk, hb⟩ := d3 n hn
    exact nbl hk hb (Or.inl (by simp))
  have hfl3 : si_fl S3 P N2 f ox oy l B := by
    obtain ⟨p1, p2, p3, p4, p5, p6, p7, p8⟩ := hfl
    unfold si_fl
    rw [hflts, g1 46 (by decide), x3.2.2 515 (by decide), x3.2.2 102 (by decide), x3.2.2 103 (by decide), x3.2.2 104 (by decide), x3.2.2 105 (by decide)]
    exact ⟨p1, p2, p3, p4, fl_L_mv (fun n hn => ⟨n3 n (hlb n hn) 0 (by decide), n3 n (hlb n hn) 1 (by decide), n3 n (hlb n hn) 2 (by decide), n3 n (hlb n hn) 3 (by decide)⟩) p5, p6, p7, p8⟩
  have s37 : (M.1 37 + M.1 42).toInt = (M.1 37).toInt + (M.1 42).toInt := off_toInt (nz_bd q9 (by omega)) (nz_bd q8 (by omega))
  have hnz37 : nz B (N2.1 37) := by
    rw [g37]
    unfold nz at *
    omega
  have hlm : ∀ m ∈ l, m < nn := fun m hm => by
    obtain ⟨k, hk, _⟩ := d3 m hm
    exact d9 _ (d1 _ hk m (by simp))
  have hld : l.Nodup := (List.nodup_append.mp d5).1
  refine kk_waits hSP hib hi hf13 hox hoy wl l S3 N2 B _ none hLa3 hst2 hfw3 hfl3 (by omega) hlm hld (by rw [x3.2.2 515 (by decide)]; exact v2) (fun q hq => ?_) hds.pw hds.lw (by rw [y3, g37]) hnz37 (by rw [g1 55 (by decide)]; exact hbw) hB ?_
  · obtain ⟨o1, o2, o3, o4, o5, o6⟩ := hok q hq
    exact ⟨o1, o2, o3, o4, by omega, o6⟩
  · intro S4 w1 w2 w3 w4
    have subT : ∀ x ∈ wl.flatMap sub, x ∈ T := by
      intro x hx
      obtain ⟨q, hq, hx⟩ := List.mem_flatMap.mp hx
      exact d1 q (d4 q hq).1 x hx
    have lT : ∀ x ∈ l, x ∈ T := fun x hx => by
      obtain ⟨k, hk, _⟩ := d3 x hx
      exact d1 _ hk x (by simp)
    have F4 : FR P W T T f S3 S4 := w1.sub subT (fun x hx => by
      rcases List.mem_append.mp hx with hx | hx
      · exact lT x hx
      · exact subT x hx) (Nat.le_refl _)
    have F := F3.tr F4
    have gwa : ∀ a, a ∉ [15, 16, 47, 48, 49, 50, 51] → (md_up1 (gw N2 (wl.map (·.1))) 53 0).2 a = N2.2 a := fun a ha => gw_2 ha _ _
    have gwi : ∀ g, g ∉ [38, 39, 46, 53] → (md_up1 (gw N2 (wl.map (·.1))) 53 0).1 g = N2.1 g := fun g hg => by
      simp only [List.mem_cons, List.not_mem_nil, or_false, not_or] at hg
      rw [md_up1_ne _ hg.2.2.2, gw_1 (by simp [hg])]
    have nTw : ∀ b, (∀ q ∈ wl, ¬ inT P W (sub q) b) → ¬ inT P W (wl.flatMap sub) b := by
      rintro b hb (r | ⟨w, m, r1, r2, r3, r4⟩)
      · obtain ⟨q, hq, r⟩ := List.mem_flatMap.mp r
        exact hb q hq (Or.inl r)
      · obtain ⟨q, hq, r3⟩ := List.mem_flatMap.mp r3
        exact hb q hq (Or.inr ⟨w, m, r1, r2, r3, r4⟩)
    refine hQ S4 F (by rw [w2 206 (by decide) (by decide) (by decide), x3.2.2 206 (by decide)]) ⟨hLa.fr F, hst2.x (fun a ha => gwa a (fun r => ha ((show ∀ a ∈ [15, 16, 47, 48, 49, 50, 51], a ∈ X_C by decide) a r))) (gwa 18 (by decide)), hfw3.mv (fun g hg => by
      have := (show ∀ g ∈ [200, 201, 202, 203, 100, 101], 100 ≤ g ∧ g < 500 ∧ g ∉ [102, 103, 104, 105] by decide) g hg
      exact w2 g this.1 this.2.1 this.2.2) (gwi 55 (by decide)) (gwi 43 (by decide)), ?_, ⟨?_, ?_, ?_, ?_⟩, ⟨?_, ?_, ?_, ?_, ?_, ?_, ?_, ?_, ?_, ?_, ?_⟩, ⟨?_, ?_⟩, ?_, ⟨?_, ?_, ?_⟩, ⟨d1, d2, ?_, ?_, ?_, ?_, ?_, d8, d9, d10, d11⟩, ?_, ?_, ?_⟩
    · exact w3
    · rw [md_up1_at]; rfl
    · rw [w2 207 (by decide) (by decide) (by decide)]; exact z207
    · rw [w2 208 (by decide) (by decide) (by decide)]; exact z208
    · intro k n hk; simp at hk
    · rw [gwi 41 (by decide), g41]; rfl
    · exact Nat.zero_le _
    · rw [w2 400 (by decide) (by decide) (by decide)]; exact z400
    · rw [w2 401 (by decide) (by decide) (by decide)]; exact z401
    · rw [w2 404 (by decide) (by decide) (by decide), gwi 42 (by decide), z404, g42]
    · intro k b hk; simp at hk
    · intro c; exact absurd rfl c
    · rw [gwi 42 (by decide), g42]; exact ⟨by rw [lit_0]; omega, by rw [lit_0]; omega⟩
    · rw [gwi 37 (by decide)]; exact nz_mono hnz37 (by omega)
    · rw [gwi 42 (by decide), gwi 37 (by decide), g42, lit_0]
      have := hnz37.2
      omega
    · intro _; rw [gwi 42 (by decide), g42]
    · rw [w2 204 (by decide) (by decide) (by decide), gwi 37 (by decide), y3, g37]
    · rw [w2 205 (by decide) (by decide) (by decide), x3.2.2 205 (by decide)]; exact hy5
    · rw [gwi 55 (by decide), g1 55 (by decide)]; exact nb_mono hbw (by omega)
    · intro q hq hb
      refine Or.inr ?_
      by_cases hqw : q ∈ wl
      · exact w4 q hqw
      · rcases hpl.1 q hq hb with r | r
        · exact absurd r hqw
        · have hqd : ∀ q' ∈ wl, ∀ x ∈ sub q, x ∉ sub q' := by
            intro q' hq'
            rcases d2 q hq q' (d4 q' hq').1 with e | e
            · exact absurd (by rw [e]; exact hq') hqw
            · exact e
          have hq60 : ∀ x ∈ sub q, x < 60 := fun x hx => by have := d9 _ (d1 q hq x hx); omega
          have hnw : q.1 ∉ wl.map (·.1) := by
            intro r
            obtain ⟨q', hq', e⟩ := List.mem_map.mp r
            exact hqd q' hq' q.1 (by simp) (by rw [← e]; simp)
          have hqb : q.1 ∉ bl := nbl hq hb (Or.inl (by simp))
          have r3 : plB P W S3 N2 ox oy q := r.ag (fun b hb' => ⟨n3 b (nbl hq hb hb') 0 (by decide), n3 b (nbl hq hb hb') 1 (by decide), n3 b (nbl hq hb hb') 2 (by decide), n3 b (nbl hq hb hb') 3 (by decide)⟩) (fun m _ => by rw [x3.2.2 511 (by decide)]) (by rw [g2]; exact (n4 q.1 (hq60 q.1 (by simp)) hqb).1) (by rw [g2]; exact (n4 q.1 (hq60 q.1 (by simp)) hqb).2)
          have h15 := gw_15 (wl.map (·.1)) N2 hnw
          refine plB.mv r3 w1 (fun x hx r => ?_) hq60 (fun x hx => by have := d9 _ (subT x hx); omega) h15.1 h15.2
          obtain ⟨q', hq', r⟩ := List.mem_flatMap.mp r
          exact hqd q' hq' x hx r
    · intro q hq h4
      obtain ⟨⟨e2, e3, e511⟩, hp⟩ := hpl.2.1 q hq h4
      have hq60 : q.1 < 60 := by have := d9 _ (d1 q hq q.1 (by simp)); omega
      have hnb : ∀ q' ∈ wl, ¬ inT P W (sub q') q.1 := fun q' hq' => (hds.bl (d4 q' hq').1 (d4 q' hq').2).1 q hq h4
      have hn := nTw _ hnb
      have hnw : q.1 ∉ wl.map (·.1) := by
        intro r
        obtain ⟨q', hq', e⟩ := List.mem_map.mp r
        exact hnb q' hq' (Or.inl (by rw [← e]; simp))
      have h15 := gw_15 (wl.map (·.1)) N2 hnw
      refine ⟨⟨?_, ?_, ?_⟩, ?_⟩
      · rw [w1.2.1 _ hn 2 (by decide), x3.2.2 2 (by decide)]; exact e2
      · rw [w1.2.1 _ hn 3 (by decide), x3.2.2 3 (by decide)]; exact e3
      · rw [w1.2.2.2.1 q.1 (fun r => hn (Or.inl r.1)), x3.2.2 511 (by decide)]; exact e511
      · by_cases hex : q.1 ∈ ex
        · exact Or.inl (by simpa using hex)
        refine Or.inr ?_
        show S4.2.1 0 q.1 = (gw N2 (wl.map (·.1))).2 15 q.1 + ox ∧ S4.2.1 1 q.1 = (gw N2 (wl.map (·.1))).2 16 q.1 + oy
        rw [h15.1, h15.2, w1.2.1 _ hn 0 (by decide), w1.2.1 _ hn 1 (by decide), g2]
        by_cases hqb : q.1 ∈ bl
        · obtain ⟨k, hk⟩ := List.getElem?_of_mem hqb
          have hkl : k < bl.length := (List.getElem?_eq_some_iff.mp hk).1
          obtain ⟨m1, m2⟩ := (n3' k q.1 hkl hk).1 hq60
          obtain ⟨_, i2, i3⟩ := q6 k q.1 hk
          rw [m1, m2, b3 0 (by decide), b3 1 (by decide), (s3 q.1 hqb).1, (s3 q.1 hqb).2, i2, i3]
          have eh : f_itemHigh M (M.2 44 k) = f_itemHigh P (M.2 44 k) := by
            rcases (q6 k q.1 hk).1 with ⟨i60, ie⟩ | ⟨w, hw, ie, _⟩
            · unfold f_itemHigh
              rw [ie, if_neg (nI_neg_lt i60), if_neg (nI_neg_lt i60), nI_neg1 i60, nI_clamp (by omega)]
              exact hst.2 q.1 (d1 q hq q.1 (by simp))
            · omega
          rw [eh]
          constructor <;> grind
        · rw [n3 _ hqb 0 (by decide), n3 _ hqb 1 (by decide), (n4 q.1 hq60 hqb).1, (n4 q.1 hq60 hqb).2]
          rcases hp with r | r
          · rcases List.mem_append.mp r with r | r
            · exact absurd r hqb
            · exact absurd r hex
          · exact r
    · intro w hw
      obtain ⟨hwW, _⟩ := d8 w hw
      have hn : ¬ inT P W (wl.flatMap sub) (60 + w) := nTw _ (fun q' hq' => (hds.bl (d4 q' hq').1 (d4 q' hq').2).2 w hw)
      by_cases hex : 60 + w ∈ ex
      · exact Or.inl (by simpa using hex)
      refine Or.inr ?_
      rw [gwa 33 (by decide), gwa 34 (by decide), w1.2.1 _ hn 0 (by decide), w1.2.1 _ hn 1 (by decide), g2]
      by_cases hqb : 60 + w ∈ bl
      · obtain ⟨k, hk⟩ := List.getElem?_of_mem hqb
        have hkl : k < bl.length := (List.getElem?_eq_some_iff.mp hk).1
        obtain ⟨m1, m2⟩ := (n3' k _ hkl hk).2 w rfl
        obtain ⟨_, i2, i3⟩ := q6 k _ hk
        rw [m1, m2, b3 0 (by decide), b3 1 (by decide), (s3 _ hqb).1, (s3 _ hqb).2, i2, i3]
        have eh : f_itemHigh M (M.2 44 k) = f_itemHigh P (M.2 44 k) := by
          rcases (q6 k _ hk).1 with ⟨i60, ie⟩ | ⟨w', hw', ie, ie2⟩
          · omega
          · unfold f_itemHigh
            have h0 : (0 : Int32) ≤ nI w' := nI_le (a := 0) (by omega) (by omega)
            rw [ie2, if_pos h0, if_pos h0, hst.1 30 (by decide), hst.of]
        rw [eh]
        constructor <;> grind
      · rw [n3 _ hqb 0 (by decide), n3 _ hqb 1 (by decide), (n5 w hqb).1, (n5 w hqb).2]
        rcases hpl.2.2 w hw with r | r
        · rcases List.mem_append.mp r with r | r
          · exact absurd r hqb
          · exact absurd r hex
        · exact r
    · intro n hn
      rcases List.mem_append.mp hn with hn | hn
      · exact d3 n hn
      · obtain ⟨q, hq, rfl⟩ := List.mem_map.mp hn
        exact ⟨q.2, (d4 q hq).1, (d4 q hq).2⟩
    · intro q hq; cases hq
    · simpa using d5
    · intro b hb
      exact d6 b (List.mem_append_right _ (by simpa using hb))
    · simpa using (List.nodup_append.mp d7).2.1
    · intro q hq; cases hq
    · simp only [List.length_append, List.length_map, List.length_nil]
      omega
    · intro _; rfl
