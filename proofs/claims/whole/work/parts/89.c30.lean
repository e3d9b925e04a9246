/-! the class: the chain of a block (by hand: wip/whole/gen/c30.py) -/
theorem lb_isB_st {P M : md_S} {T : List Nat} (h : si_st P M T) (j : Nat) : lb_isB M j ↔ lb_isB P j := by
  unfold lb_isB f_isBox
  rw [h.1 12 (by decide), h.1 13 (by decide)]
theorem lb_low_st {P M : md_S} {T : List Nat} (h : si_st P M T) (i : Nat) (th : Int32) (j : Nat) : lb_low M i th j = lb_low P i th j := by
  unfold lb_low
  rw [h.1 20 (by decide), h.of, mg_joins ⟨h.1 3 (by decide), h.1 4 (by decide), h.1 9 (by decide)⟩]
theorem lb_low_nz {P : md_S} {i : Nat} {th : Int32} {j : Nat} (h : nz 50 (P.2 20 j)) : nz 50 (lb_low P i th j) ∧ (lb_low P i th j).toInt ≤ (P.2 20 j).toInt := by
  unfold lb_low
  have h0 : nz 50 0 := ⟨by rw [lit_0]; omega, by rw [lit_0]; omega⟩
  split
  · exact ⟨h, Int.le_refl _⟩
  · split
    · exact ⟨h, Int.le_refl _⟩
    · split
      · exact ⟨h, Int.le_refl _⟩
      · exact ⟨h0, by rw [lit_0]; exact h.1⟩
/-- what stands in the middle of a chain -/
def LBm (xs : List Int32) (K : Nat → Prop) (A : cl_A) (P : md_S) (nn W i f D : Nat) (T : List Nat) (ox oy th : Int32) (q : Bool) (st : lb_S) (S : cl_S) (M : md_S) (l : List Nat) (wl : List (Nat × bt)) (bl : List Nat) (V : List (Nat × bt)) (VW : List Nat) (B : Nat) (e : Int32 × Int32) : Prop := match q with
  | true => SMl xs K A P nn W i f D T ox oy S M l wl bl [] V VW B ∧ bkR S M f bl ∧ (0 ≤ st.2.2.2.2.toInt ∧ st.2.2.2.2.toInt ≤ (M.1 37).toInt) ∧ ¬ e.1 = -1
  | false => SMb xs K A P nn W i f D T ox oy S M st l V VW B ∧ wl = [] ∧ RI P i th st ∧ (e.1 = -1 ↔ ¬ st.2.2.2.1 = 0) ∧ (¬ st.2.1 = -1 → st.2.1 = e.2)
theorem RI.le {P : md_S} {i : Nat} {th : Int32} {st : lb_S} {B : Nat} (h : RI P i th st) (hy : nz B (yv st)) (hB : B ≤ 67108000) : st.2.2.2.2.toInt ≤ (yv st).toInt + (bv P st).toInt := by
  obtain ⟨r1, r2, r3⟩ := h
  by_cases c : st.2.1 = -1
  · have e1 : yv st = st.1 := by unfold yv; rw [if_pos c]
    have e2 : bv P st = 0 := by unfold bv; rw [if_pos c]
    rw [e1, e2, lit_0]
    have := r2 c
    omega
  · obtain ⟨jl, h1, h2, h3, h4, h5, h6, _⟩ := r3 c
    have e1 : yv st = st.2.2.1 := by unfold yv; rw [if_neg c]
    rw [e1] at hy ⊢
    rw [h4, off_toInt (nz_bd hy (by omega)) (nz_bd h5 (by decide))]
    omega
theorem kk_lb {xs : List Int32} {K : Nat → Prop} {h0 : am_H} {Q : Option Value → cl_A → cl_S → Prop} {A : cl_A} {P : md_S} {nn W i f D d : Nat} {T : List Nat} {ox oy th wd : Int32} {ki : bt} (hSP : SP P nn W) (hP : cl_P P nn) (hi : i < nn) (hib : P.2 12 i = 1) (hf13 : f < 13) (hox : nb ((f + 1) * 67108864 + 59) ox) (hoy : nb ((f + 1) * 67108864 + 59) oy) (hD : 21 ≤ D) (hDd : D + 4 ≤ d) (hRi : bt_R (P.2 4) (P.2 5) (P.2 7) (nI i) ki) (hfi : P.2 5 i = bt_hd (-1) ki) (hki : ∀ x ∈ bt_pre ki, x < nn) (hnn : nn ≤ 60) : ∀ (t : bt) (q : Bool) (st : lb_S) (S : cl_S) (M : md_S) (l : List Nat) (wl : List (Nat × bt)) (bl : List Nat) (V : List (Nat × bt)) (VW : List Nat) (B W0 : Nat) (e : Int32 × Int32), cnF xs K A P nn W i f D T t → bt_R (P.2 4) (P.2 5) (P.2 7) (nI i) t → (bt_pre t).Nodup → (∀ q ∈ V, ∀ x ∈ bt_pre t, x ∉ sub q) → l1_F wd P t W0 → (∀ w ∈ VW, w < W0) → W0 + l1_ws P t ≤ 3700 → mg_ch P ki (-1, -1) = mg_ch P t e → (¬ e.1 = -1 → ∃ a, a < 60 ∧ e.1 = nI a ∧ a ∉ bt_pre t) → th = lb_th P t e.2 → V.length + (bt_pre t).length ≤ 59 → B + csq P wl + csG P t ≤ 67108000 → LBm xs K A P nn W i f D T ox oy th q st S M l wl bl V VW B e → ENp xs K Q A P nn W i f D d T ox oy th t S V VW (B + csq P wl + csG P t) (f_lb i th t q st M) → LD xs K h0 Q A i f d S (bt_hd (-1) t) := by
  have hibx : f_boxy P i := Or.inl ((isBox_m (by omega)).mpr (Or.inl hib))
  intro t
  induction t with
  | leaf u =>
    intro q st S M l wl bl V VW B W0 e _ _ _ _ _ _ _ _ _ hth hV hB h hQ
    have hcs : csG P (.leaf u) = 0 := rfl
    rw [hcs, Nat.add_zero] at hB hQ
    show LD xs K h0 Q A i f d S (-1)
    unfold LD
    cases q with
    | true =>
      obtain ⟨h1, h2, h3, h4⟩ := h
      refine vc64_10 ⟨fun _ => ⟨h1.1.1.2.1, ?_⟩, fun c => absurd rfl c⟩
      refine kk_endL (st := st) hSP hibx hi hf13 hox hoy h1 hB (by have := hV; simp [bt_pre] at this; omega) hD (by omega) _ (fun S1 l1 B1 F1 s1 hB1 => ⟨rfl, F1.1.1, rfl, ?_⟩)
      have e1 : f_lb i th (.leaf u) true st M = (lb_fS M st, lb_fM M) := rfl
      rw [e1] at hQ
      obtain ⟨q1, q2, q3, q4, q5, q6, q7, q8, q9, q10, q11⟩ := id h1.2.2.2.2.2.1
      refine hQ S1 l1 V VW B1 F1 s1 ⟨h3.1, fun _ => ?_, fun c => absurd rfl c⟩ (fun c => absurd rfl c) (fun q hq => hq) (fun w hw => hw) trivial (by omega)
      show st.2.2.2.2.toInt ≤ ((lb_fM M).1 37).toInt
      unfold lb_fM
      split
      · exact h3.2
      · rw [el37, off_toInt (nz_bd q9 (by omega)) (nz_bd q8 (by omega))]
        have := q8.1
        have := h3.2
        omega
    | false =>
      obtain ⟨h1, h2, h3, h4, h5⟩ := h
      refine vc64_10 ⟨fun _ => ⟨h1.1.1.2.1, ?_⟩, fun c => absurd rfl c⟩
      refine cl_C.le (d := 0 + 3) (by omega) (kk_endLine0 (h1.1.1.2.2.1 f hf13) hf13 h1.2.2.2.2.1.1 _ ⟨rfl, rfl, rfl, ?_⟩)
      have e1 : f_lb i th (.leaf u) false st M = (st, M) := rfl
      rw [e1] at hQ
      exact hQ S l V VW B FR.rf h1 h3 (fun c => by rw [h5 c, hth]; rfl) (fun q hq => hq) (fun w hw => hw) trivial (by omega)
  | branch j k s ihk ihs =>
    intro q st S M l wl bl V VW B W0 e hcn hR hnd hap hl1 hvw hW0 hmg hea hth hV hB h hQ
    obtain ⟨⟨n1, n2, n3, n4, n5, n6⟩, hcs⟩ := hcn
    have hLa : la_T S P nn W := by
      cases q with
      | true => exact h.1.1
      | false => exact h.1.1
    have hst : si_st P M T := by
      cases q with
      | true => exact h.1.2.1
      | false => exact h.1.2.1
    have hT0 := hLa.1
    have h60 := hT0.1
    have cj : (nI j).toNatClampNeg = j := hT0.cl n1
    rw [l1_ws_br] at hW0
    have hpre : bt_pre (.branch j k s) = j :: (bt_pre k ++ bt_pre s) := rfl
    rw [hpre] at hnd hap hV hea
    rw [List.length_cons, List.length_append] at hV
    obtain ⟨a1, a2⟩ := List.nodup_cons.mp hnd
    rw [List.nodup_append] at a2
    have hji : ¬ nI j = nI i := fun r => n2 ((nI_eq (by omega) (by omega)).mp r)
    have hb1 : bhc (P.2 4) (P.2 7) nn (nI i) (nI j) (bt_hd (-1) s) := bhc_sib hR n1 hji bhc_top
    have hgb := csG_br P j k s
    have hapq : apart V (j, k) := fun q hq => by
      have : ∀ x ∈ sub (j, k), x ∉ sub q := fun x hx => hap q hq x (by
        rcases List.mem_cons.mp hx with r | r
        · exact List.mem_cons.mpr (Or.inl r)
        · exact List.mem_cons_of_mem _ (List.mem_append_left _ r))
      exact ⟨this, fun x hx hx' => this x hx' hx⟩
    have haps : ∀ q ∈ V, ∀ x ∈ bt_pre s, x ∉ sub q := fun q hq x hx => hap q hq x (List.mem_cons_of_mem _ (List.mem_append_right _ hx))
    have m12 : M.2 12 j = P.2 12 j := by rw [hst.1 12 (by decide)]
    have hmg' : mg_ch P ki (-1, -1) = mg_ch P s (mg_st P j e) := hmg
    have hth' : th = lb_th P s (if P.2 12 j = 0 then e.2 else nI j) := hth
    show LD xs K h0 Q A i f d S (nI j)
    by_cases hm0 : P.2 12 j = 0
    · have eM : mg_st P j e = e := by
        unfold mg_st
        have := n4.mp hm0
        simp [this]
      have eF : f_lb i th (.branch j k s) q st M = f_lb i th s q st M := by
        rw [f_lb, m12, if_pos hm0]
      rw [eM] at hmg'
      rw [if_pos hm0] at hth'
      rw [eF] at hQ
      have hb0 : ¬ f_boxy P j := by
        rintro (c | c)
        · rw [isBox_m (by omega), hm0] at c; revert c; decide
        · rw [hm0] at c; exact absurd c (by decide)
      refine kk_gone hi hLa n1 hm0 hb1 (ihs q st S M l wl bl V VW B _ e hcs hR.2.2.2.2.2 a2.2.1 haps hl1.2.2 (fun w hw => by have := hvw w hw; omega) (by omega) hmg' (fun c => ?_) hth' (by omega) (by omega) h ?_)
      · obtain ⟨a, r1, r2, r3⟩ := hea c
        exact ⟨a, r1, r2, fun r => r3 (List.mem_cons_of_mem _ (List.mem_append_right _ r))⟩
      · exact ENp.mv hQ FR.rf (fun q hq => hq) (fun w hw => hw) (fun V' VW' _ _ c => ⟨fun r => absurd r hb0, fun r => by rw [hm0] at r; exact absurd r (by decide), fun r => by rw [hm0] at r; exact absurd r (by decide), c⟩) (by omega)
    · have hd3 : ¬ f_of P (nI j) 0 = 3 := fun r => hm0 (n4.mpr r)
      have eM : mg_st P j e = (if ¬ e.1 = -1 then e.1 else nI j, nI j) := by
        unfold mg_st
        simp [hd3]
      have e1n : ¬ (mg_st P j e).1 = -1 := by
        rw [eM]
        show ¬ (if ¬ e.1 = -1 then e.1 else nI j) = -1
        split
        · next c => exact c
        · exact nI_ne_m1 (by omega)
      have hea' : ¬ (mg_st P j e).1 = -1 → ∃ a, a < 60 ∧ (mg_st P j e).1 = nI a ∧ a ∉ bt_pre s := by
        intro _
        rw [eM]
        show ∃ a, a < 60 ∧ (if ¬ e.1 = -1 then e.1 else nI j) = nI a ∧ a ∉ bt_pre s
        by_cases c : e.1 = -1
        · rw [if_neg (fun r => r c)]
          exact ⟨j, by omega, rfl, fun r => a1 (List.mem_append_right _ r)⟩
        · rw [if_pos c]
          obtain ⟨a, r1, r2, r3⟩ := hea c
          exact ⟨a, r1, r2, fun r => r3 (List.mem_cons_of_mem _ (List.mem_append_right _ r))⟩
      have e2n : (mg_st P j e).2 = nI j := by rw [eM]
      rw [if_neg hm0, ← e2n] at hth'
      by_cases hB0 : lb_isB P j
      · obtain ⟨ok, okm, okb⟩ := n5 hB0
        have hBM : lb_isB M j := (lb_isB_st hst j).mpr hB0
        have hbx12 := (isBox_m (show j < 60 by omega)).mp hB0.1
        have hro3 : ¬ ro (P.2 12 j) = 3 := by rcases hbx12 with r | r <;> rw [r] <;> decide
        have hro1 : ¬ ro (P.2 12 j) = 1 := by rcases hbx12 with r | r <;> rw [r] <;> decide
        have hjn : ∀ st0 : lb_S, (e.1 = -1 ↔ ¬ st0.2.2.2.1 = 0) → (mg_jt P i ki 0 = nI j ↔ ¬ st0.2.2.2.1 = 0 ∧ ¬ f_joins P (nI i) = 0) := by
          intro st0 hs0
          have c1 : (mg_ch P ki (-1, -1)).1 = if ¬ e.1 = -1 then e.1 else nI j := by
            rw [hmg', mg_ch_1 _ _ e1n, eM]
          unfold mg_jt
          rw [if_pos rfl]
          by_cases cj0 : f_joins P (nI i) = 0
          · rw [if_pos cj0]
            exact ⟨fun r => absurd r.symm (nI_ne_m1 (by omega)), fun r => absurd cj0 r.2⟩
          · rw [if_neg cj0]
            by_cases ce : e.1 = -1
            · rw [if_neg (fun r => r ce)] at c1
              rw [c1, if_neg (nI_ne_m1 (by omega)), if_neg okb]
              exact ⟨fun _ => ⟨hs0.mp ce, cj0⟩, fun _ => rfl⟩
            · rw [if_pos ce] at c1
              rw [c1, if_neg ce]
              obtain ⟨a, r1, r2, r3⟩ := hea ce
              have haj : ¬ e.1 = nI j := by
                rw [r2]
                intro r
                exact r3 (by rw [(nI_eq (by omega) (by omega)).mp r]; exact List.mem_cons_self ..)
              refine ⟨fun r => ?_, fun r => absurd (hs0.mpr r.1) ce⟩
              split at r
              · exact absurd r.symm (nI_ne_m1 (by omega))
              · exact absurd r haj
        obtain ⟨d0, rfl⟩ : ∃ d0, d = d0 + 1 := ⟨d - 1, by omega⟩
        have h19 : nz 50 (P.2 19 j) := ok.2.2.2.2.2.2.1
        have h20 : nz 50 (P.2 20 j) := ok.2.2.2.2.2.2.2
        -- the rest, once the block is laid
        have cont : ∀ (S1 : cl_S) (M1 : md_S) (st1 : lb_S) (l1 : List Nat) (B1 : Nat), FR P W T T f S S1 → SMb xs K A P nn W i f D T ox oy S1 M1 st1 l1 V VW B1 → RI P i th st1 → B1 ≤ B + csq P wl → f_lb i th (.branch j k s) q st M = f_lb i th s false (lb_bS M1 i th st1 j) (lb_bM M1 i st1 j) → ∀ S2, FR P W T T f S1 S2 → SMb xs K A P nn W i f D T ox oy S2 (lb_bM M1 i st1 j) (lb_bS M1 i th st1 j) l1 (V ++ [(j, k)]) VW (B1 + cs P j k) → nz (cs P j k - 300000) (P.2 18 j) → A = A ∧ S2.1 = S.1 ∧ (none : Option Value) = none ∧ cl_C xs K (d0 + 1 + 2) 96 [cl_rf A 5 (nI j), cl_rf A 5 (nI i)] A S2 (fun v A' N4 => A' = A ∧ N4.1 = S2.1 ∧ ∃ y4, v = some (cl_rf A 5 y4) ∧ LD xs K h0 Q A i f (d0 + 1) N4 y4) := by
          intro S1 M1 st1 l1 B1 F1 s1 ri1 hB1 eF S2 F2 s2 h18z
          refine ⟨rfl, (F1.tr F2).1.1, rfl, ?_⟩
          have hLa2 := s2.1
          refine kk_follow hLa2.1 n1 hi hb1 (by rw [(hLa2.2.1 j n1).1, if_neg hro1]) _ ⟨rfl, rfl, _, rfl, ?_⟩
          have st1' := s1.2.1
          have hownz : nz 50 (lb_own M1 i st1 j) := by
            unfold lb_own
            rw [st1'.1 19 (by decide)]
            by_cases c : (if st1.2.2.2.1 = 0 then 0 else (if f_joins M1 (nI i) = 0 then 0 else 1)) = (0 : Int32)
            · rw [if_pos c]; exact h19
            · rw [if_neg c]; exact ⟨by rw [lit_0]; omega, by rw [lit_0]; omega⟩
          obtain ⟨hge, hton⟩ := lb_to_ge s1 (by omega) hownz
          have hrle := ri1.le s1.2.2.2.2.2.2.2.2.2.2.1 (by omega)
          have e18 : M1.2 18 j = P.2 18 j := st1'.2 j (n3 j (by simp))
          have elow := lb_low_st st1' i th j
          obtain ⟨hlz, hll⟩ := lb_low_nz (i := i) (th := th) h20
          have hyz := s2.2.2.2.2.2.2.2.2.2.2.1
          have hyv : yv (lb_bS M1 i th st1 j) = lb_to M1 i st1 j + P.2 18 j := by
            unfold yv lb_bS
            rw [if_neg (nI_ne_m1 (by omega)), e18]
          rw [hyv] at hyz
          have hcsj := cs_ge P j k
          have h18 : (lb_to M1 i st1 j).toInt ≤ (lb_to M1 i st1 j + P.2 18 j).toInt := by
            rw [off_toInt (nz_bd hton (by omega)) (nz_bd h18z (by omega))]
            have := h18z.1
            omega
          have hsum : (lb_to M1 i st1 j + P.2 18 j + lb_low P i th j).toInt = (lb_to M1 i st1 j + P.2 18 j).toInt + (lb_low P i th j).toInt := off_toInt (nz_bd hyz (by omega)) (nz_bd hlz (by decide))
          have hreach : (lb_bS M1 i th st1 j).2.2.2.2 = lb_to M1 i st1 j + P.2 18 j + lb_low P i th j := by
            show f_more st1.2.2.2.2 (lb_to M1 i st1 j + M1.2 18 j + lb_low M1 i th j) = _
            rw [e18, elow]
            apply Int32.toInt_inj.mp
            rw [more_toInt, hsum]
            have := hlz.1
            omega
          have e1s : (lb_bS M1 i th st1 j).2.1 = nI j := rfl
          have hbvs : bv P (lb_bS M1 i th st1 j) = P.2 20 j := by
            unfold bv
            rw [e1s, if_neg (nI_ne_m1 (by omega)), cj]
          rw [eF] at hQ
          refine ihs false (lb_bS M1 i th st1 j) S2 (lb_bM M1 i st1 j) l1 [] [] (V ++ [(j, k)]) VW (B1 + cs P j k) _ (mg_st P j e) hcs hR.2.2.2.2.2 a2.2.1 (fun q' hq' x hx r => ?_) hl1.2.2 (fun w hw => by have := hvw w hw; omega) (by omega) hmg' hea' hth' (by simp; omega) (by have h00 : csq P [] = 0 := rfl; rw [h00]; omega) ⟨s2, rfl, ⟨?_, fun c => absurd c (nI_ne_m1 (by omega)), fun _ => ⟨j, by omega, rfl, rfl, ?_, hlz, by rw [hbvs]; exact hll, okb⟩⟩, ⟨fun c => absurd c e1n, fun c => absurd rfl c⟩, fun _ => e2n.symm⟩ ?_
          · rcases List.mem_append.mp hq' with c | c
            · exact haps q' c x hx r
            · rw [List.mem_singleton.mp c] at r
              rcases List.mem_cons.mp r with r | r
              · have r : x = j := r
                exact a1 (by rw [← r]; exact List.mem_append_right _ hx)
              · exact a2.2.2 x r x hx rfl
          · rw [hreach, hsum]
            have := hyz.1
            have := hlz.1
            omega
          · rw [hreach]
            show _ = lb_to M1 i st1 j + M1.2 18 j + lb_low P i th j
            rw [e18]
          · refine ENp.mv hQ (F1.tr F2) (fun q' hq' => List.mem_append_left _ hq') (fun w hw => hw) (fun V' VW' v1 _ c => ⟨fun _ => v1 _ (by simp), fun r => ?_, fun r => ?_, c⟩) (by have h00 : csq P [] = 0 := rfl; rw [h00]; omega)
            · rcases hbx12 with m | m <;> rw [m] at r <;> exact absurd r (by decide)
            · rcases hbx12 with m | m <;> rw [m] at r <;> exact absurd r (by decide)
        have e509 := (hLa.2.1 j n1).1
        have e510 := (hLa.2.1 j n1).2.1
        unfold LD
        refine vc64_10 ⟨fun c => absurd c (nI_ne_m1 (by omega)), fun _ => ⟨hT0.n n1, ?_⟩⟩
        rw [cj, e509, e510, hB0.2]
        refine ⟨fun _ => ⟨fun _ => ⟨fun _ => ⟨hT0.2.1, ?_⟩, fun c => absurd hro1 c⟩, fun c => absurd rfl c⟩, fun c => absurd hro3 c⟩
        refine cl_intro (ms89 xs) (Nat.le_of_ble_eq_true rfl) (fun hh0 => vc89_0 ⟨hT0.2.1, ?_⟩)
        cases q with
        | true =>
          obtain ⟨h1, h2, h3, h4⟩ := h
          obtain ⟨q1, q2, q3, q4, q5, q6, q7, q8, q9, q10, q11⟩ := id h1.2.2.2.2.2.1
          refine kk_endL (st := st) hSP hibx hi hf13 hox hoy h1 (by omega) (by omega) hD (by omega) _ (fun S1 l1 B1 F1 s1 hB1 => ⟨rfl, F1.1.1, rfl, s1.1.1.2.2.1 f hf13, ?_⟩)
          have ri : RI P i th (lb_fS M st) := by
            refine ⟨h3.1, fun _ => ?_, fun c => absurd rfl c⟩
            show st.2.2.2.2.toInt ≤ ((lb_fM M).1 37).toInt
            unfold lb_fM
            split
            · exact h3.2
            · rw [el37, off_toInt (nz_bd q9 (by omega)) (nz_bd q8 (by omega))]
              have := q8.1
              have := h3.2
              omega
          have eF : f_lb i th (.branch j k s) true st M = f_lb i th s false (lb_bS (lb_fM M) i th (lb_fS M st) j) (lb_bM (lb_fM M) i (lb_fS M st) j) := by
            rw [f_lb, m12, if_neg hm0, if_pos hBM, if_pos rfl]
          refine kk_blk (Q := fun v A' N3 => A' = A ∧ N3.1 = S.1 ∧ v = none ∧ cl_C xs K (d0 + 1 + 2) 96 [cl_rf A 5 (nI j), cl_rf A 5 (nI i)] A N3 (fun v A' N4 => A' = A ∧ N4.1 = N3.1 ∧ ∃ y4, v = some (cl_rf A 5 y4) ∧ LD xs K h0 Q A i f (d0 + 1) N4 y4)) (d := d0) (q := (j, k)) (th := th) hSP hP hi hib hf13 hox hoy hRi hfi hki okm s1 n3 hapq ok (hjn (lb_fS M st) ⟨fun c => absurd c h4, fun c => absurd rfl c⟩) (by show B1 + cs P j k ≤ 67108000; omega) (by omega) ?_ _ _ rfl rfl
          exact fun S2 F2 s2 h18 => cont S1 (lb_fM M) (lb_fS M st) l1 B1 F1 s1 ri hB1 eF S2 F2 s2 h18
        | false =>
          obtain ⟨h1, h2, h3, h4, h5⟩ := h
          subst h2
          refine cl_C.le (d := 0 + 3) (by omega) (kk_endLine0 (h1.1.1.2.2.1 f hf13) hf13 h1.2.2.2.2.1.1 _ ⟨rfl, rfl, rfl, hT0.2.2.1 f hf13, ?_⟩)
          have eF : f_lb i th (.branch j k s) false st M = f_lb i th s false (lb_bS M i th st j) (lb_bM M i st j) := by
            rw [f_lb, m12, if_neg hm0, if_pos hBM, if_neg (by decide)]
          refine kk_blk (Q := fun v A' N3 => A' = A ∧ N3.1 = S.1 ∧ v = none ∧ cl_C xs K (d0 + 1 + 2) 96 [cl_rf A 5 (nI j), cl_rf A 5 (nI i)] A N3 (fun v A' N4 => A' = A ∧ N4.1 = N3.1 ∧ ∃ y4, v = some (cl_rf A 5 y4) ∧ LD xs K h0 Q A i f (d0 + 1) N4 y4)) (d := d0) (q := (j, k)) (th := th) hSP hP hi hib hf13 hox hoy hRi hfi hki okm h1 n3 hapq ok (hjn st h4) (by show B + cs P j k ≤ 67108000; have h00 : csq P [] = 0 := rfl; rw [h00] at hB; omega) (by omega) ?_ _ _ rfl rfl
          exact fun S2 F2 s2 h18 => cont S M st l B FR.rf h1 h3 (by simp [csq]) eF S2 F2 s2 h18
      · obtain ⟨nn1, nn2⟩ := n6 hB0 hm0
        have hBM : ¬ lb_isB M j := fun r => hB0 ((lb_isB_st hst j).mp r)
        have step : ∀ (M0 : md_S) (l0 : List Nat) (wl0 : List (Nat × bt)) (bl0 : List Nat) (B0 : Nat), SMl xs K A P nn W i f D T ox oy (bgn S f) M0 l0 wl0 bl0 [] V VW B0 → bkR (bgn S f) M0 f bl0 → 0 ≤ st.2.2.2.2.toInt → st.2.2.2.2.toInt ≤ (M0.1 37).toInt → B0 + csq P wl0 + cs P j k + csG P s ≤ B + csq P wl + csG P (.branch j k s) → f_lb i th (.branch j k s) q st M = f_lb i th s true st (f_thing M0 j k) → LD xs K h0 Q A i f d S (nI j) := by
          intro M0 l0 wl0 bl0 B0 s0 bk0 r0 r1 hB0' eF
          rw [eF] at hQ
          refine kk_nd (W0 := W0) (b := bt_hd (-1) s) hSP hibx hi hf13 hox hoy hD hDd hm0 (fun m hk' => ?_) nn1 hR.2.2.1 hR.2.2.2.2.1 hl1.1.1 (by omega) (fun q' hq' x hx => (hapq q' hq').1 x hx) hvw hb1 hLa s0 bk0 (by omega) (by omega) ?_ (fun hb => (nn1.2.2.2.1 hb).2.1)
          · have hw0 : l1_w P j = 0 := by
              unfold l1_w
              rw [m, if_neg (by decide)]
            have hl1k := hl1.2.1
            rw [hw0, Nat.add_zero] at hl1k
            have hcsk : csF P k ≤ cs P j k := by
              unfold csF cs
              rw [Nat.mul_add, Nat.mul_add]
              omega
            exact kk_lnF hSP hibx hi hf13 hox hoy hD hDd k (nI j) (bt_hd (-1) s) (bgn S f) M0 l0 wl0 bl0 V VW B0 W0 (nn2 m) hR.2.2.2.2.1 a2.1 (fun q' hq' x hx => hap q' hq' x (List.mem_cons_of_mem _ (List.mem_append_left _ hx))) hl1k hvw (by omega) hb1 s0 bk0 (by omega) (by omega) hk'
          · intro S' l' wl' bl' V' VW' B' mo' F' h' hbk' v1 v2 v3 v4 v5 v6 v7
            have hpre1 : bt_pre (.branch j k (.leaf ())) = j :: bt_pre k := by simp [bt_pre]
            have hws : l1_ws P (.branch j k (.leaf ())) = l1_w P j + l1_ws P k := by
              rw [l1_ws_br]
              show l1_w P j + l1_ws P k + 0 = _
              omega
            have hcs1 : csF P (.branch j k (.leaf ())) = cs P j k := by
              rw [csF_br]
              show cs P j k + (600000 * 0 + 3000 * 0) = _
              omega
            rw [hpre1] at v2
            rw [hws] at v4
            rw [hcs1] at v6
            rw [hpre1, List.length_cons] at v7
            refine ihs true st S' (f_thing M0 j k) l' wl' bl' V' VW' B' _ (mg_st P j e) hcs hR.2.2.2.2.2 a2.2.1 (fun q' hq' x hx r => ?_) hl1.2.2 (fun w hw => ?_) (by omega) hmg' hea' hth' (by omega) (by omega) ⟨h', hbk', ⟨r0, Int.le_trans r1 mo'⟩, e1n⟩ ?_
            · rcases v2 q' hq' with c | c
              · exact haps q' c x hx r
              · rcases List.mem_cons.mp (c x r) with r | r
                · exact a1 (by rw [← r]; exact List.mem_append_right _ hx)
                · exact a2.2.2 x r x hx rfl
            · rcases v4 w hw with c | c
              · have := hvw w c; omega
              · omega
            · obtain ⟨w1, w2, w3, _⟩ := v5
              exact ENp.mv hQ F' v1 v3 (fun V2 VW2 u1 u2 c => ⟨fun r => u1 _ (w1 r), fun r w0 x1 x2 m hm => u2 _ (w2 r w0 x1 x2 m hm), fun r => (w3 r).mono u1 u2, c⟩) (by omega)
        cases q with
        | true =>
          obtain ⟨h1, h2, h3, h4⟩ := h
          have hbg := bgn_eq h1.2.2.2.2.2.2.1.2
          refine step M l wl bl B (by rw [hbg]; exact h1) (by rw [hbg]; exact h2) h3.1 h3.2 (by omega) ?_
          rw [f_lb, m12, if_neg hm0, if_neg hBM, if_pos rfl]
        | false =>
          obtain ⟨h1, h2, h3, h4, h5⟩ := h
          subst h2
          obtain ⟨g1, g2⟩ := h1.go (by simp [csq] at hB; omega)
          have hyz := h1.2.2.2.2.2.2.2.2.2.2.1
          have hbz := h1.2.2.2.2.2.2.2.2.2.2.2
          have e37 : ((lb_go M st).1 37).toInt = (yv st).toInt + (bv P st).toInt := by
            have : (lb_go M st).1 37 = yv st + bv P st := by
              unfold lb_go yv bv
              rw [md_up1_ne _ (by decide), md_up1_ne _ (by decide), md_up1_ne _ (by decide), md_up1_ne _ (by decide), md_up1_at, hst.1 20 (by decide)]
              by_cases c : st.2.1 = -1
              · rw [if_neg (fun r => r c), if_pos c, if_pos c, Int32.add_zero]
              · rw [if_pos c, if_neg c, if_neg c]
            rw [this, off_toInt (nz_bd hyz (by simp [csq] at hB; omega)) (nz_bd hbz (by decide))]
          refine step (lb_go M st) l [] [] (B + 50) g1 g2 h3.1 (by rw [e37]; exact h3.le hyz (by simp [csq] at hB; omega)) (by omega) ?_
          rw [f_lb, m12, if_neg hm0, if_neg hBM, if_neg (by decide)]
