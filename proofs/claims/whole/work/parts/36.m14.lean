/-! the reference: widen, layFlex (by hand: wip/whole/gen/m14.py) -/
def f_wideOf (M : md_S) (i : Nat) (k : bt) : Int32 :=
  if ¬ f_told M (nI i) (f_inner M (M.2 14 i)) = -1 then f_told M (nI i) (f_inner M (M.2 14 i)) else if M.2 13 i = 0 then (if ¬ M.2 12 (M.2 14 i).toNatClampNeg = 2 then f_inner M (M.2 14 i) - 2 * f_of M (nI i) 4 else f_ol M i k + 2 * f_edges M (nI i)) else f_less (f_inner M (M.2 14 i) - 2 * f_of M (nI i) 4) (f_ol M i k + 2 * f_edges M (nI i))
def f_widen_M (M : md_S) (i : Nat) (k : bt) : md_S :=
  if ¬ M.2 12 i = 4 then md_up2 M 17 i (f_more (f_wideOf M i k) (2 * f_edges M (nI i)))
  else md_up2 (md_up2 M 17 i (if ¬ f_told M (nI i) (f_inner M (M.2 14 i)) = -1 then f_told M (nI i) (f_inner M (M.2 14 i)) else 8)) 18 i (if ¬ f_of M (nI i) 3 = -1 then f_of M (nI i) 3 else 8)
theorem c_widen {xs : List Int32} {mo : Nat} {ad : Nat → Nat} {d : Nat} {M : md_S} {i : Nat} {p : Int32} {k s : bt} (hD : md_D mo ad) (hR : bt_R (M.2 4) (M.2 5) (M.2 7) p (.branch i k s)) (hy : ∀ x ∈ i :: bt_pre k, by_ok M x) (hn : i ∉ bt_pre k) (hb : vp_in (M.2 14 i) 60) : ∀ Q', Q' none (f_widen_M M i k) → md_C xs mo ad (d + 6) 127 [.int (nI i)] M Q' := by
  intro Q' hQ
  have hi : i < 60 := hR.1
  have hvi : vp_in (nI i) 60 := vp_nI hi (by decide)
  have hc : (nI i).toNatClampNeg = i := nI_clamp (by omega)
  refine md_intro (ms127 xs) (Nat.le_of_ble_eq_true rfl) (fun h0 => vc127_0 hD ?_)
  rw [hc]
  unfold f_widen_M at hQ
  refine ⟨hvi, hb, fun h4 => ?_, fun h4 => ?_⟩
  · rw [if_pos h4] at hQ
    unfold f_wideOf at hQ
    refine ⟨fun h1 => ?_, fun h1 => ⟨fun h2 => ⟨fun h3 => ?_, fun h3 => ?_⟩, fun h2 => ?_⟩⟩
    · rw [if_pos h1] at hQ
      rintro _ rfl
      exact hQ
    · rw [if_neg h1, if_pos h2, if_pos h3] at hQ
      rintro _ rfl
      exact hQ
    · rw [if_neg h1, if_pos h2, if_neg h3] at hQ
      refine c_oneLine hD hR hy hn _ ⟨_, rfl, hvi, ?_⟩
      rintro _ rfl
      exact hQ
    · rw [if_neg h1, if_neg h2] at hQ
      refine c_oneLine hD hR hy hn _ ⟨_, rfl, hvi, ?_⟩
      rintro _ rfl
      exact hQ
  · rw [if_neg h4] at hQ
    rintro _ rfl _ rfl _ rfl _ rfl
    have e : f_of (md_up2 M 17 i (if ¬ f_told M (nI i) (f_inner M (M.2 14 i)) = -1 then f_told M (nI i) (f_inner M (M.2 14 i)) else 8)) (nI i) 3 = f_of M (nI i) 3 := by
      unfold f_of
      rw [md_up2_ne _ (by decide)]
    rw [e]
    exact hQ
/-- laid in a row, or not -/
def f_boxy (M : md_S) (j : Nat) : Prop := ¬ f_isBox M (nI j) = 0 ∨ M.2 12 j = 4
noncomputable def f_lf : bt → Int32 → Int32 → md_S → Int32 × md_S
  | .leaf _, _, r, M => (r, M)
  | .branch j _ s, a, r, M => @ite _ (f_boxy M j) (Classical.propDecidable _) (f_lf s (a + (M.2 17 j + 2 * f_of M (nI j) 4)) (f_more r (M.2 18 j + 2 * f_of M (nI j) 4)) (md_up2 (md_up2 M 15 j (a + f_of M (nI j) 4)) 16 j (f_of M (nI j) 4))) (f_lf s a r M)
noncomputable def f_layFlex_M (M : md_S) (i : Nat) (k : bt) : md_S := md_up2 (f_lf k 0 0 M).2 18 i (f_heightOf (f_lf k 0 0 M).2 (nI i) (f_lf k 0 0 M).1)
theorem c_layFlex_loop {xs : List Int32} {mo : Nat} {ad : Nat → Nat} (hD : md_D mo ad) {h0 : am_H} {d : Nat} {Q : Option Value → md_S → Prop} {x p : Int32} : ∀ (k : bt) (M : md_S) (a r : Int32) (o5 : Option Value), bt_R (M.2 4) (M.2 5) (M.2 7) p k → (∀ a' o5, md_wp xs mo ad h0 (d + 4) Q I146 12 [some (.ref mo), some (.int x), some (.int a'), some (.int (f_lf k a r M).1), some (.int (-1)), o5] [] (f_lf k a r M).2) → md_wp xs mo ad h0 (d + 4) Q I146 12 [some (.ref mo), some (.int x), some (.int a), some (.int r), some (.int (bt_hd (-1) k)), o5] [] M := by
  intro k
  induction k with
  | leaf u =>
    intro M a r o5 _ hk
    exact hk a o5
  | branch j k s _ ihs =>
    intro M a r o5 hR hk
    obtain ⟨r1, _, _, r4, _, r6⟩ := hR
    have hc : (nI j).toNatClampNeg = j := nI_clamp (by omega)
    have hvj : vp_in (nI j) 60 := vp_nI r1 (by decide)
    unfold f_lf at hk
    have yes : f_boxy M j → ∀ M2, M2 = md_up2 M 15 j (a + f_of M (nI j) 4) → ∀ M3, M3 = md_up2 M2 16 j (f_of M (nI j) 4) → md_wp xs mo ad h0 (d + 4) Q I146 12 [some (.ref mo), some (.int x), some (.int (a + (M3.2 17 j + 2 * f_of M (nI j) 4))), some (.int (f_more r (M3.2 18 j + 2 * f_of M (nI j) 4))), some (.int (M3.2 7 j)), some (.int (f_of M (nI j) 4))] [] M3 := by
      rintro hb _ rfl _ rfl
      rw [if_pos hb] at hk
      rw [md_up2_ne _ (show 17 ≠ 16 by decide), md_up2_ne _ (show 17 ≠ 15 by decide), md_up2_ne _ (show 18 ≠ 16 by decide), md_up2_ne _ (show 18 ≠ 15 by decide), md_up2_ne _ (show 7 ≠ 16 by decide), md_up2_ne _ (show 7 ≠ 15 by decide), r4]
      refine ihs _ _ _ _ ?_ hk
      rw [md_up2_ne _ (show 4 ≠ 16 by decide), md_up2_ne _ (show 4 ≠ 15 by decide), md_up2_ne _ (show 5 ≠ 16 by decide), md_up2_ne _ (show 5 ≠ 15 by decide), md_up2_ne _ (show 7 ≠ 16 by decide), md_up2_ne _ (show 7 ≠ 15 by decide)]
      exact r6
    refine vc146_12 hD ⟨fun q => absurd q (nI_ne_m1 (n := j) (by omega)), fun _ => ?_⟩
    show vp_in (nI j) 60 ∧ _
    rw [show bt_hd (-1) (.branch j k s) = nI j from rfl, hc]
    refine ⟨hvj, fun h1 => yes (Or.inl h1), fun h1 => ⟨fun h2 => yes (Or.inr h2), fun h2 => ?_⟩⟩
    have hb : ¬ f_boxy M j := fun q => q.elim h1 h2
    rw [if_neg hb] at hk
    rw [r4]
    exact ihs M a r o5 r6 hk
theorem c_layFlex {xs : List Int32} {mo : Nat} {ad : Nat → Nat} {d : Nat} {M : md_S} {i : Nat} {k : bt} (hD : md_D mo ad) (hi : i < 60) (hk : bt_R (M.2 4) (M.2 5) (M.2 7) (nI i) k) (hf : M.2 5 i = bt_hd (-1) k) : ∀ Q', Q' none (f_layFlex_M M i k) → md_C xs mo ad (d + 5) 146 [.int (nI i)] M Q' := by
  intro Q' hQ
  have hvi : vp_in (nI i) 60 := vp_nI hi (by decide)
  have hc : (nI i).toNatClampNeg = i := nI_clamp (by omega)
  refine md_intro (ms146 xs) (Nat.le_of_ble_eq_true rfl) (fun h0 => vc146_0 hD ⟨hvi, ?_⟩)
  rw [hc, hf]
  refine c_layFlex_loop hD k M 0 0 none hk (fun a' o5 => vc146_12 hD ⟨fun _ => ?_, fun q => absurd rfl q⟩)
  rw [hc]
  refine ⟨hvi, ?_⟩
  rintro _ rfl
  exact hQ
