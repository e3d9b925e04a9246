/-! the class: a forest on lines (by hand: wip/whole/gen/c26.py) -/
section LNU
variable {xs : List Int32} {K : Nat → Prop} {h0 : am_H} {Q : Option Value → cl_A → cl_S → Prop} {A : cl_A} {P : md_S} {nn W i f D d : Nat} {T : List Nat} {ox oy : Int32} {wd : Int32}
/-- one after the other -/
theorem LNp.seq {j : Nat} {k s : bt} {W0 : Nat} {b : Int32} {S : cl_S} {wl V : List (Nat × bt)} {VW : List Nat} {B : Nat} {lo : Int} {M1 : md_S} {N : md_S}
    (hQ : LNp xs K h0 Q A P nn W i f D d T ox oy (.branch j k s) W0 b S wl V VW B lo N)
    (hs : ∀ S' l' wl' bl' V' VW' B', SMl xs K A P nn W i f D T ox oy S' M1 l' wl' bl' [] V' VW' B' → bkR S' M1 f bl' → (∀ q ∈ V', q ∈ V ∨ ∀ x ∈ sub q, x ∈ j :: bt_pre k) → (∀ w ∈ VW', w ∈ VW ∨ (W0 ≤ w ∧ w < W0 + (l1_w P j + l1_ws P k))) → B' + csq P wl' ≤ B + csq P wl + cs P j k → V'.length ≤ V.length + (1 + (bt_pre k).length) → lo ≤ (M1.1 37).toInt → LNp xs K h0 Q A P nn W i f D d T ox oy s (W0 + l1_w P j + l1_ws P k) b S' wl' V' VW' B' (M1.1 37).toInt N → LD xs K h0 Q A i f d S' (bt_hd b s)) :
    LNp xs K h0 Q A P nn W i f D d T ox oy (.branch j k (.leaf ())) W0 (bt_hd b s) S wl V VW B lo M1 := by
  intro S1 l1 wl1 bl1 V1 VW1 B1 mo1 F1 h1 hbk1 v1 v2 v3 v4 v5 v6 v7
  have hpre : bt_pre (.branch j k (.leaf ())) = j :: bt_pre k := by simp [bt_pre]
  have hws : l1_ws P (.branch j k (.leaf ())) = l1_w P j + l1_ws P k := by
    rw [l1_ws_br]
    show l1_w P j + l1_ws P k + 0 = _
    omega
  have hcs : csF P (.branch j k (.leaf ())) = cs P j k := by
    rw [csF_br]
    show cs P j k + (600000 * 0 + 3000 * 0) = _
    omega
  rw [hpre] at v2
  rw [hws] at v4
  rw [hcs] at v6
  rw [hpre, List.length_cons] at v7
  refine hs S1 l1 wl1 bl1 V1 VW1 B1 h1 hbk1 v2 v4 v6 (by omega) mo1 ?_
  intro S2 l2 wl2 bl2 V2 VW2 B2 mo2 F2 h2 hbk2 u1 u2 u3 u4 u5 u6 u7
  refine hQ S2 l2 wl2 bl2 V2 VW2 B2 (Int.le_trans mo1 mo2) (F1.tr F2) h2 hbk2 (fun q hq => u1 q (v1 q hq)) (fun q hq => ?_) (fun w hw => u3 w (v3 w hw)) (fun w hw => ?_) ?_ ?_ ?_
  · rcases u2 q hq with r | r
    · rcases v2 q r with r | r
      · exact Or.inl r
      · refine Or.inr (fun x hx => ?_)
        have := r x hx
        simp only [bt_pre, List.mem_cons, List.mem_append] at this ⊢
        rcases this with r | r
        · exact Or.inl r
        · exact Or.inr (Or.inl r)
    · refine Or.inr (fun x hx => ?_)
      simp only [bt_pre, List.mem_cons, List.mem_append]
      exact Or.inr (Or.inr (r x hx))
  · rw [l1_ws_br]
    rcases u4 w hw with r | r
    · rcases v4 w r with r | r
      · exact Or.inl r
      · exact Or.inr ⟨r.1, by omega⟩
    · exact Or.inr ⟨by omega, by omega⟩
  · obtain ⟨c1, c2, c3, _⟩ := v5
    exact ⟨fun c => u1 _ (c1 c), fun c w0 hw3 hw m hm => u3 _ (c2 c w0 hw3 hw m hm), fun c => (c3 c).mono u1 u3, u5⟩
  · rw [csF_br]; omega
  · simp only [bt_pre, List.length_cons, List.length_append]; omega
theorem kk_lnF (hSP : SP P nn W) (hib : f_boxy P i) (hi : i < nn) (hf13 : f < 13) (hox : nb ((f + 1) * 67108864 + 59) ox) (hoy : nb ((f + 1) * 67108864 + 59) oy) (hD : 21 ≤ D) (hDd : D + 4 ≤ d) : ∀ (t : bt) (p b : Int32) (S : cl_S) (M : md_S) (l : List Nat) (wl : List (Nat × bt)) (bl : List Nat) (V : List (Nat × bt)) (VW : List Nat) (B W0 : Nat), ndF xs K A P nn W i f D T t → bt_R (P.2 4) (P.2 5) (P.2 7) p t → (bt_pre t).Nodup → (∀ q ∈ V, ∀ x ∈ bt_pre t, x ∉ sub q) → l1_F wd P t W0 → (∀ w ∈ VW, w < W0) → W0 + l1_ws P t ≤ 3700 → bhc (P.2 4) (P.2 7) nn (nI i) p b → SMl xs K A P nn W i f D T ox oy S M l wl bl [] V VW B → bkR S M f bl → B + csq P wl + csF P t ≤ 67108000 → V.length + (bt_pre t).length ≤ 59 → LNp xs K h0 Q A P nn W i f D d T ox oy t W0 b S wl V VW B (M.1 37).toInt (f_ln t M) → LD xs K h0 Q A i f d S (bt_hd b t) := by
  intro t
  induction t with
  | leaf u =>
    intro p b S M l wl bl V VW B W0 _ _ _ _ _ _ _ _ h hbk _ _ hQ
    exact hQ S l wl bl V VW B (Int.le_refl _) FR.rf h hbk (fun q hq => hq) (fun q hq => Or.inl hq) (fun w hw => hw) (fun w hw => Or.inl hw) trivial (by omega) (by omega)
  | branch j k s ihk ihs =>
    intro p b S M l wl bl V VW B W0 hnF hR hnd hap hl1 hvw hW0 hbh h hbk hB hV hQ
    obtain ⟨n1, n2, n3⟩ := hnF
    have hjn := n1.1
    have hh60 := h.1.1.1
    rw [csF_br] at hB
    rw [l1_ws_br] at hW0
    have hpre : bt_pre (.branch j k s) = j :: (bt_pre k ++ bt_pre s) := rfl
    rw [hpre] at hnd hap hV
    rw [List.length_cons, List.length_append] at hV
    obtain ⟨a1, a2⟩ := List.nodup_cons.mp hnd
    rw [List.nodup_append] at a2
    have hji : ¬ nI j = nI i := fun e => n1.2.1 ((nI_eq (by omega) (by omega)).mp e)
    have hb1 := bhc_sib hR hjn hji hbh
    show LD xs K h0 Q A i f d S (nI j)
    have hbg := bgn_eq h.2.2.2.2.2.2.1.2
    have hseq : LNp xs K h0 Q A P nn W i f D d T ox oy (.branch j k (.leaf ())) W0 (bt_hd b s) S wl V VW B (M.1 37).toInt (f_nd M j (f_ln k M)) := by
      refine LNp.seq hQ (fun S' l' wl' bl' V' VW' B' h' hbk' v2 v4 v6 v7 _ hs => ?_)
      refine ihs p b S' _ l' wl' bl' V' VW' B' _ n3 hR.2.2.2.2.2 a2.2.1 (fun q hq x hx r => ?_) hl1.2.2 (fun w hw => ?_) (by omega) hbh h' hbk' (by omega) (by omega) hs
      · rcases v2 q hq with c | c
        · exact hap q c x (List.mem_cons_of_mem _ (List.mem_append_right _ hx)) r
        · rcases List.mem_cons.mp (c x r) with e | e
          · exact a1 (by rw [← e]; exact List.mem_append_right _ hx)
          · exact a2.2.2 x e x hx rfl
      · rcases v4 w hw with c | c
        · have := hvw w c; omega
        · omega
    by_cases hm0 : P.2 12 j = 0
    · refine kk_gone hi h.1 hjn hm0 hb1 ?_
      have hb0 : f_isBox P (nI j) = 0 := by unfold f_isBox; rw [nI_clamp (by omega), hm0]; rfl
      have e : f_nd M j (f_ln k M) = M := by
        unfold f_nd
        have hbx : f_isBox M (nI j) = f_isBox P (nI j) := by unfold f_isBox; rw [h.2.1.1 12 (by decide)]
        rw [hbx, hb0, h.2.1.1 12 (by decide), hm0]
        simp
      rw [e] at hseq
      refine hseq S l wl bl V VW B (Int.le_refl _) FR.rf h hbk (fun q hq => hq) (fun q hq => Or.inl hq) (fun w hw => hw) (fun w hw => Or.inl hw) ⟨fun c => ?_, fun c => ?_, fun c => ?_, trivial⟩ (by omega) (by omega)
      · rcases c with c | c
        · exact absurd hb0 c
        · rw [hm0] at c; exact absurd c (by decide)
      · rw [hm0] at c; exact absurd c (by decide)
      · rw [hm0] at c; exact absurd c (by decide)
    refine kk_nd (W0 := W0) (b := bt_hd b s) hSP hib hi hf13 hox hoy hD hDd hm0 (fun m hk' => ?_) n1 hR.2.2.1 hR.2.2.2.2.1 hl1.1.1 (by omega) (fun q hq x hx => hap q hq x (by
      rcases List.mem_cons.mp hx with r | r
      · exact List.mem_cons.mpr (Or.inl r)
      · exact List.mem_cons_of_mem _ (List.mem_append_left _ r))) hvw hb1 h.1 (by rw [hbg]; exact h) (by rw [hbg]; exact hbk) (by omega) (by omega) hseq (fun hb => (n1.2.2.2.1 hb).2.1)
    rw [hbg] at hk' ⊢
    have hw0 : l1_w P j = 0 := by
      unfold l1_w
      rw [m, if_neg (by decide)]
    have hl1k := hl1.2.1
    rw [hw0, Nat.add_zero] at hl1k
    have hcsk : csF P k ≤ cs P j k := by
      unfold csF cs
      rw [Nat.mul_add, Nat.mul_add]
      omega
    exact ihk (nI j) (bt_hd b s) S M l wl bl V VW B W0 (n2 m) hR.2.2.2.2.1 a2.1 (fun q hq x hx => hap q hq x (List.mem_cons_of_mem _ (List.mem_append_left _ hx))) hl1k hvw (by omega) hb1 h hbk (by omega) (by omega) hk'
end LNU
