/-! the reference: lay's last loops (by hand: wip/whole/gen/m24.py) -/
theorem c_lay199 {xs : List Int32} {mo : Nat} {ad : Nat → Nat} (hD : md_D mo ad) {h0 : am_H} {d : Nat} {Q : Option Value → md_S → Prop} {M : md_S} {x : Int32} {o3 : Option Value} (hk : md_wp xs mo ad h0 (d + 11) Q I115 220 [some (.ref mo), some (.int x), some (.int 0), o3] [] (md_nohad M 60)) : ∀ r j, j + r = 60 → md_wp xs mo ad h0 (d + 11) Q I115 199 [some (.ref mo), some (.int x), some (.int (nI j)), o3] [] (md_nohad M j) := by
  intro r
  induction r with
  | zero =>
    intro j hj
    obtain rfl : j = 60 := by omega
    exact vc115_199 hD ⟨fun _ => hk, fun q => absurd (by decide) q⟩
  | succ r ih =>
    intro j hj
    have hj9 : ¬ (60 : Int32) ≤ nI j := nI_ge (a := j) (b := 60) (by omega) (by decide)
    refine vc115_199 hD ⟨fun q => absurd q hj9, fun _ => ⟨vp_nI (by omega) (by decide), ?_⟩⟩
    rintro _ rfl
    rw [nI_clamp (by omega), show ((0 : Int32) &&& 1) = 0 by decide, md_nohad_succ, nI_1]
    exact ih (j + 1) (by omega)
/-- a word's place, with that of its box -/
def f_wa (M : md_S) (q : Nat) : md_S := md_up2 (md_up2 M 33 q (M.2 33 q + (M.2 15 (M.2 14 (M.2 30 q).toNatClampNeg).toNatClampNeg + f_edges M (M.2 14 (M.2 30 q).toNatClampNeg)))) 34 q (M.2 34 q + (M.2 16 (M.2 14 (M.2 30 q).toNatClampNeg).toNatClampNeg + f_edges M (M.2 14 (M.2 30 q).toNatClampNeg)))
theorem f_wa_X (M : md_S) (q : Nat) : md_X [] [33, 34] M (f_wa M q) := (md_X.rf.up2 (by decide) _ _).up2 (by decide) _ _
theorem c_lay385 {xs : List Int32} {mo : Nat} {ad : Nat → Nat} (hD : md_D mo ad) {h0 : am_H} {d : Nat} {Q : Option Value → md_S → Prop} {x : Int32} {W : Nat} (hW : W ≤ 3700) : ∀ (r j : Nat) (M : md_S) (o3 : Option Value), j + r = W → M.1 29 = nI W → (∀ q, q < W → vp_in (M.2 30 q) 60 ∧ vp_in (M.2 14 (M.2 30 q).toNatClampNeg) 60) → Q (some (.int ((((List.range W).drop j).foldl f_wa M).2 18 0))) (((List.range W).drop j).foldl f_wa M) → md_wp xs mo ad h0 (d + 11) Q I115 385 [some (.ref mo), some (.int x), some (.int (nI j)), o3] [] M := by
  intro r
  induction r with
  | zero =>
    intro j M o3 hj h29 _ hQ
    obtain rfl : j = W := by omega
    rw [List.drop_eq_nil_of_le (by simp)] at hQ
    exact vc115_385 hD ⟨fun _ => hQ, fun q => absurd (by rw [h29]; exact nI_le (Nat.le_refl _) (by omega)) q⟩
  | succ r ih =>
    intro j M o3 hj h29 hv hQ
    rw [ls_rd (show j < W by omega), List.foldl_cons] at hQ
    refine vc115_385 hD ⟨fun q => absurd q (by rw [h29]; exact nI_ge (by omega) (by omega)), fun _ => ?_⟩
    rw [nI_clamp (by omega), nI_1]
    refine ⟨vp_nI (by omega) (by decide), (hv j (by omega)).1, (hv j (by omega)).2, ?_⟩
    intro M1 e1 M2 e2
    have e : M2 = f_wa M j := by
      have q16 : M1.2 16 = M.2 16 := by rw [e1, md_up2_ne _ (by decide)]
      have q34 : M1.2 34 = M.2 34 := by rw [e1, md_up2_ne _ (by decide)]
      have qe : ∀ a, f_edges M1 a = f_edges M a := fun a => by
        unfold f_edges f_of
        rw [e1, md_up2_ne _ (by decide)]
      rw [e2, q16, q34, qe, e1]
      rfl
    have hx := f_wa_X M j
    rw [← e] at hx hQ
    exact ih (j + 1) M2 _ (by omega) ((hx.1 29 (by simp)).trans h29) (fun q hq => by rw [hx.2 30 (by decide), hx.2 14 (by decide)]; exact hv q hq) hQ
