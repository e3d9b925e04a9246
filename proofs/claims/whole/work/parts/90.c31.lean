/-! the class: layDown (by hand: wip/whole/gen/c31.py) -/
theorem mg_th {P : md_S} : ∀ (t : bt) (e : Int32 × Int32), (∀ q ∈ bt_rt t, (P.2 12 q.1 = 0 ↔ f_of P (nI q.1) 0 = 3)) → (mg_ch P t e).2 = lb_th P t e.2 := by
  intro t
  induction t with
  | leaf u => intro e _; rfl
  | branch j k s _ ihs =>
    intro e h
    have hj := h (j, k) (List.mem_cons_self ..)
    have hj : P.2 12 j = 0 ↔ f_of P (nI j) 0 = 3 := hj
    show (mg_ch P s (mg_st P j e)).2 = lb_th P s (if P.2 12 j = 0 then e.2 else nI j)
    rw [ihs _ (fun q hq => h q (List.mem_cons_of_mem _ hq))]
    congr 1
    unfold mg_st
    by_cases c : P.2 12 j = 0
    · rw [if_pos c]
      simp [hj.mp c]
    · rw [if_neg c]
      have hd : ¬ f_of P (nI j) 0 = 3 := fun r => c (hj.mpr r)
      simp [hd]
theorem cnF_rt {xs : List Int32} {K : Nat → Prop} {A : cl_A} {P : md_S} {nn W i f D : Nat} {T : List Nat} : ∀ {t : bt}, cnF xs K A P nn W i f D T t → ∀ q ∈ bt_rt t, (P.2 12 q.1 = 0 ↔ f_of P (nI q.1) 0 = 3) := by
  intro t
  induction t with
  | leaf u => intro _ q hq; cases hq
  | branch j k s _ ihs =>
    intro h q hq
    rcases List.mem_cons.mp hq with rfl | hq
    · exact h.1.2.2.2.1
    · exact ihs h.2 q hq
/-- how high a block's content is -/
noncomputable def lb_in (M : md_S) (st : lb_S) : Int32 := lb_end (md_flts M (M.1 46).toNatClampNeg) (f_more st.2.2.2.2 st.1)
theorem kk_LDe {xs : List Int32} {K : Nat → Prop} {Q : Option Value → cl_A → cl_S → Prop} {A : cl_A} {P : md_S} {nn W i f D d : Nat} {T : List Nat} {ox oy th : Int32} {ki : bt} {S : cl_S} {M : md_S} {st : lb_S} {l : List Nat} {V : List (Nat × bt)} {VW : List Nat} {B : Nat} (hP : cl_P P nn) (hi : i < nn) (hf13 : f < 13) (hoy : nb ((f + 1) * 67108864 + 59) oy) (hd : 4 ≤ d) (hRi : bt_R (P.2 4) (P.2 5) (P.2 7) (nI i) ki) (hfi : P.2 5 i = bt_hd (-1) ki) (hki : ∀ x ∈ bt_pre ki, x < nn) (hch : (mg_ch P ki (-1, -1)).2 = th) (h : SMb xs K A P nn W i f D T ox oy S M st l V VW B) (hr : RI P i th st) (hl : ¬ st.2.1 = -1 → st.2.1 = th) (hB : B ≤ 67108000)
    (hQ : ∀ S', cl_X [205] S S' → (∀ f', ¬ f' = f → S'.2.1 205 f' = S.2.1 205 f') → nz (B + 50) (lb_in M st) → Q (some (.int (lb_in M st))) A S') : LDe xs K Q A i f d S := by
  obtain ⟨g1, g2, g3, g4, g5, ⟨g61, g62⟩, g7, g8, g9, g10, g11, g12⟩ := h
  have hT0 := g1.1
  have h60 := hT0.1
  have hdep := dep_12 hf13
  have hboy : bd oy := nb_bd hoy hdep
  have cf : (nI f).toNatClampNeg = f := nI_clamp (by omega)
  obtain ⟨a1, a2, a3, a4, a5, a6, a7, a8⟩ := g4
  have hends : nz B (lb_end (md_flts M l.length) 0) := fold_nz (g := fun r => r.2.2.2.1) _ _ (fun r hr => (a8 r hr).2.2.2) ⟨by rw [lit_0]; omega, by rw [lit_0]; omega⟩
  have e46 : (M.1 46).toNatClampNeg = l.length := by rw [a1, nI_clamp (by omega)]
  have hf := hT0.2.2.1 f hf13
  obtain ⟨r1, r2, r3⟩ := hr
  -- both ways: b is what still counts below
  have fin : ∀ (S' : cl_S) (b : Int32), nz 50 b → f_more st.2.2.2.2 st.1 = yv st + b → cl_X [205] S S' → (∀ f', ¬ f' = f → S'.2.1 205 f' = S.2.1 205 f') → S'.2.1 205 f = b → cl_f S' (nI f) ∧ Q (some (.int (g_ch S' (nI f)))) A S' := by
    intro S' b hb e hX hX2 hb5
    refine ⟨hf.mv hX.1, ?_⟩
    have hx : nz (B + 50) (yv st + b) := nz_add g11 hb (Nat.le_refl _) (by omega) (by decide)
    have hin : lb_in M st = f_more (yv st + b) (lb_end (md_flts M l.length) 0) := by
      unfold lb_in
      rw [e46, e, lb_end_0 hx.1]
    have eg : g_ch S' (nI f) = lb_in M st := by
      unfold g_ch
      rw [cf, hX.2.2 204 (by decide), hX.2.2 105 (by decide), hX.2.2 202 (by decide), g61, hb5, a7, g3.2.2.1, hin]
      have e2 : yv st + oy + b = yv st + b + oy := by grind
      rw [e2, off_more (nz_bd hx (by omega)) (nz_bd hends (by omega)) hboy, Int32.add_sub_cancel]
    rw [eg]
    refine hQ S' hX hX2 ?_
    rw [hin]
    unfold nz at *
    rw [more_toInt]
    omega
  have hz0 : nz 50 (0 : Int32) := ⟨by rw [lit_0]; omega, by rw [lit_0]; omega⟩
  have hX0 : cl_X [205] S (cl_up S 205 f 0) := cl_X.rf.up (by decide) _ _
  have hX02 : ∀ f', ¬ f' = f → (cl_up S 205 f 0).2.1 205 f' = S.2.1 205 f' := fun f' hf' => cl_up_ne2 _ _ _ _ hf'
  unfold LDe
  refine cl_C.le (d := 0 + 4) (by omega) (kk_joined hT0 hi (hP i hi) hRi hfi hki _ ⟨rfl, rfl, _, rfl, ?_⟩)
  rw [cf]
  by_cases c : st.2.1 = -1
  · have e1 : yv st = st.1 := by unfold yv; rw [if_pos c]
    have e2 : bv P st = 0 := by unfold bv; rw [if_pos c]
    have em : f_more st.2.2.2.2 st.1 = yv st + 0 := by
      rw [e1, Int32.add_zero]
      apply Int32.toInt_inj.mp
      rw [more_toInt]
      have := r2 c
      omega
    exact ⟨fun _ => fin S 0 hz0 em cl_X.rf (fun _ _ => rfl) (by rw [g62, e2]), fun _ => fin _ 0 hz0 em hX0 hX02 (cl_up_at _ _ _ _)⟩
  · obtain ⟨jl, h1, h2, h3, h4, h5, h6, h7⟩ := r3 c
    have e1 : yv st = st.1 := by unfold yv; rw [if_neg c, h3]
    have e2 : bv P st = P.2 20 jl := by unfold bv; rw [if_neg c, h2, nI_clamp (by omega)]
    have em : f_more st.2.2.2.2 st.1 = yv st + lb_low P i th jl := by
      rw [h4, ← h3, e1]
      rw [e1] at g11
      have := off_toInt (nz_bd g11 (by omega)) (nz_bd h5 (by decide))
      apply Int32.toInt_inj.mp
      rw [more_toInt, this]
      have := h5.1
      omega
    have hth : nI jl = th := by rw [← h2]; exact hl c
    have hlow : lb_low P i th jl = if f_joins P (nI i) = 0 then P.2 20 jl else (if ¬ f_of P (nI i) 3 = -1 then P.2 20 jl else 0) := by
      unfold lb_low
      rw [if_neg (fun r => r hth)]
    have hjt : mg_jt P i ki 1 = if f_joins P (nI i) = 0 then -1 else (if ¬ f_of P (nI i) 3 = -1 then -1 else nI jl) := by
      unfold mg_jt
      rw [hch, ← hth]
      by_cases c1 : f_joins P (nI i) = 0
      · rw [if_pos c1, if_pos c1]
      · rw [if_neg c1, if_neg c1, if_neg (by decide)]
        by_cases c2 : f_of P (nI i) 3 = -1
        · rw [if_neg (fun r => r c2), if_neg (nI_ne_m1 (n := jl) (by omega)), if_neg h7, if_neg (fun r => r c2)]
        · rw [if_pos c2, if_pos c2]
    rw [hjt]
    by_cases c1 : f_joins P (nI i) = 0
    · rw [if_pos c1]
      rw [if_pos c1] at hlow
      exact ⟨fun _ => fin S _ h5 em cl_X.rf (fun _ _ => rfl) (by rw [g62, e2, hlow]), fun c3 => absurd rfl c3⟩
    · rw [if_neg c1]
      rw [if_neg c1] at hlow
      by_cases c2 : f_of P (nI i) 3 = -1
      · rw [if_neg (fun r => r c2)]
        rw [if_neg (fun r => r c2)] at hlow
        exact ⟨fun c3 => absurd c3 (nI_ne_m1 (by omega)), fun _ => fin _ _ h5 em hX0 hX02 (by rw [cl_up_at, hlow])⟩
      · rw [if_pos c2]
        rw [if_pos c2] at hlow
        exact ⟨fun _ => fin S _ h5 em cl_X.rf (fun _ _ => rfl) (by rw [g62, e2, hlow]), fun c3 => absurd rfl c3⟩
/-- layDown -/
theorem kk_layDown {xs : List Int32} {K : Nat → Prop} {A : cl_A} {P : md_S} {nn W i f D E : Nat} {T : List Nat} {ox oy wd : Int32} {ki : bt} {S : cl_S} {M : md_S} {B W0 : Nat} (hSP : SP P nn W) (hP : cl_P P nn) (hi : i < nn) (hib : P.2 12 i = 1) (hf13 : f < 13) (hox : nb ((f + 1) * 67108864 + 59) ox) (hoy : nb ((f + 1) * 67108864 + 59) oy) (hD : 21 ≤ D) (hE : D + 7 ≤ E) (hRi : bt_R (P.2 4) (P.2 5) (P.2 7) (nI i) ki) (hfi : P.2 5 i = bt_hd (-1) ki) (hki : ∀ x ∈ bt_pre ki, x < nn) (hcn : cnF xs K A P nn W i f D T ki) (hnd : (bt_pre ki).Nodup) (hl1 : l1_F wd P ki W0) (hW0 : W0 + l1_ws P ki ≤ 3700) (hlen : (bt_pre ki).length ≤ 59) (hB : B + csG P ki ≤ 67100000) (h : SMb xs K A P nn W i f D T ox oy S M (0, -1, 0, 1, 0) [] [] [] B) : ∀ Q', (∀ S' l' V' VW' B', FR P W T T f S S' → si_pl S' P (f_lb i (lb_th P ki (-1)) ki false (0, -1, 0, 1, 0) M).2 W ox oy [] [] V' VW' → cvF P V' VW' ki → nz (B' + 50) (lb_in (f_lb i (lb_th P ki (-1)) ki false (0, -1, 0, 1, 0) M).2 (f_lb i (lb_th P ki (-1)) ki false (0, -1, 0, 1, 0) M).1) → B' ≤ B + csG P ki → si_ds P nn W T l' [] [] V' VW' → Q' (some (.int (lb_in (f_lb i (lb_th P ki (-1)) ki false (0, -1, 0, 1, 0) M).2 (f_lb i (lb_th P ki (-1)) ki false (0, -1, 0, 1, 0) M).1))) A S') → cl_C xs K E 64 [cl_rf A 3 0, cl_rf A 2 (nI f)] A S Q' := by
  intro Q' hQ
  have hT0 := h.1.1
  have h60 := hT0.1
  have cf : (nI f).toNatClampNeg = f := nI_clamp (by omega)
  obtain ⟨d, rfl⟩ : ∃ d, E = d + 2 + 1 := ⟨E - 3, by omega⟩
  refine cl_intro (ms64 xs) (Nat.le_of_ble_eq_true rfl) (fun h0 => vc64_0 ⟨hT0.2.2.1 f hf13, ?_⟩)
  rw [cf, h.2.2.1.1, hT0.cl hi, hT0.fk hi, hfi]
  refine ⟨hT0.n hi, ?_⟩
  have hth := mg_th ki (-1, -1) (cnF_rt hcn)
  have h0' : (0 : Int32).toInt = 0 := lit_0
  refine kk_lb (th := lb_th P ki (-1)) hSP hP hi hib hf13 hox hoy hD (by omega) hRi hfi hki h60 ki false (0, -1, 0, 1, 0) S M [] [] [] [] [] B W0 (-1, -1) hcn hRi hnd (fun q hq => by cases hq) hl1 (fun w hw => by cases hw) hW0 rfl (fun c => absurd rfl c) rfl (by simpa using hlen) (by have h00 : csq P [] = 0 := rfl; rw [h00]; omega) ⟨h, rfl, ⟨by show 0 ≤ (0 : Int32).toInt; rw [h0']; omega, fun _ => Int.le_refl _, fun c => absurd rfl c⟩, ⟨fun _ => by decide, fun _ => rfl⟩, fun c => absurd rfl c⟩ ?_
  intro S' l' V' VW' B' F' h' hr hl v1 v2 v3 v4
  have h00 : csq P [] = 0 := rfl
  rw [h00] at v4
  refine kk_LDe hP hi hf13 hoy (by omega) hRi hfi hki hth h' hr hl (by omega) (fun S2 hX hX2 hin => ?_)
  have F2 : FR P W T T f S' S2 := FR.flow hX (by decide) (fun g _ _ f' hf' => by
    by_cases c : g = 205
    · rw [c]; exact hX2 f' (by omega)
    · rw [hX.2.2 g (by simp [c])])
  have eq : ∀ g, g ≠ 205 → S2.2.1 g = S'.2.1 g := fun g hg => hX.2.2 g (by simp [hg])
  obtain ⟨p1, p2, p3⟩ := h'.2.2.2.2.2.2.2.1
  refine hQ S2 l' V' VW' B' (F'.tr F2) ⟨fun q hq hb => (p1 q hq hb).imp id (fun r => r.ag (fun b _ => by rw [eq 0 (by decide), eq 1 (by decide), eq 2 (by decide), eq 3 (by decide)]; exact ⟨rfl, rfl, rfl, rfl⟩) (fun m _ => by rw [eq 511 (by decide)]) rfl rfl), ?_, ?_⟩ v3 hin (by omega) h'.2.2.2.2.2.2.2.2.1
  · rw [eq 0 (by decide), eq 1 (by decide), eq 2 (by decide), eq 3 (by decide), eq 511 (by decide)]
    exact p2
  · rw [eq 0 (by decide), eq 1 (by decide)]
    exact p3
