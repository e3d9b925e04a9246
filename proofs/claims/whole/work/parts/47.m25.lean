/-! the reference: lay, the boxes' places (by hand: wip/whole/gen/m25.py) -/
/-- a box's place and size are kept -/
def f_bk (M : md_S) (n : Nat) : md_S := md_up2 (md_up2 (md_up2 (md_up2 (md_up2 M 23 n 1) 24 n (M.2 15 n)) 25 n (M.2 16 n)) 26 n (M.2 17 n)) 27 n (M.2 18 n)
/-- its place, with that of its box -/
def f_bp (M : md_S) (n : Nat) : md_S := md_up2 (md_up2 M 15 n (M.2 15 n + (M.2 15 (M.2 14 n).toNatClampNeg + f_edges M (M.2 14 n)))) 16 n (M.2 16 n + (M.2 16 (M.2 14 n).toNatClampNeg + f_edges M (M.2 14 n)))
noncomputable def f_ba (M : md_S) (n : Nat) : md_S := @ite _ (f_boxy M n) (Classical.propDecidable _) (f_bk (if n = 0 then M else f_bp M n) n) M
def X_D : List Nat := [15, 16, 23, 24, 25, 26, 27]
theorem f_bk_X (M : md_S) (n : Nat) : md_X [] X_D M (f_bk M n) := ((((md_X.rf.up2 (by decide) _ _).up2 (by decide) _ _).up2 (by decide) _ _).up2 (by decide) _ _).up2 (by decide) _ _
theorem f_bp_X (M : md_S) (n : Nat) : md_X [] X_D M (f_bp M n) := (md_X.rf.up2 (by decide) _ _).up2 (by decide) _ _
theorem f_ba_X (M : md_S) (n : Nat) : md_X [] X_D M (f_ba M n) := by
  unfold f_ba
  by_cases h : f_boxy M n
  · rw [if_pos h]
    by_cases h0 : n = 0
    · rw [if_pos h0]
      exact f_bk_X _ _
    · rw [if_neg h0]
      exact (f_bp_X _ _).tr (f_bk_X _ _)
  · rw [if_neg h]
    exact md_X.rf
theorem f_bk_of {M M1 M2 M3 M4 M5 : md_S} {n : Nat} (e1 : M1 = md_up2 M 23 n (1 &&& 1)) (e2 : M2 = md_up2 M1 24 n (M1.2 15 n)) (e3 : M3 = md_up2 M2 25 n (M2.2 16 n)) (e4 : M4 = md_up2 M3 26 n (M3.2 17 n)) (e5 : M5 = md_up2 M4 27 n (M4.2 18 n)) : M5 = f_bk M n := by
  have a1 : M1.2 15 = M.2 15 := by rw [e1, md_up2_ne _ (by decide)]
  have a2 : M2.2 16 = M.2 16 := by rw [e2, md_up2_ne _ (by decide), e1, md_up2_ne _ (by decide)]
  have a3 : M3.2 17 = M.2 17 := by rw [e3, md_up2_ne _ (by decide), e2, md_up2_ne _ (by decide), e1, md_up2_ne _ (by decide)]
  have a4 : M4.2 18 = M.2 18 := by rw [e4, md_up2_ne _ (by decide), e3, md_up2_ne _ (by decide), e2, md_up2_ne _ (by decide), e1, md_up2_ne _ (by decide)]
  rw [e5, a4, e4, a3, e3, a2, e2, a1, e1]
  rfl
theorem f_bp_of {M M6 M7 : md_S} {n : Nat} (e6 : M6 = md_up2 M 15 n (M.2 15 n + (M.2 15 (M.2 14 n).toNatClampNeg + f_edges M (M.2 14 n)))) (e7 : M7 = md_up2 M6 16 n (M6.2 16 n + (M6.2 16 (M6.2 14 n).toNatClampNeg + f_edges M6 (M6.2 14 n)))) : M7 = f_bp M n := by
  have a1 : M6.2 16 = M.2 16 := by rw [e6, md_up2_ne _ (by decide)]
  have a2 : M6.2 14 = M.2 14 := by rw [e6, md_up2_ne _ (by decide)]
  have a3 : ∀ a, f_edges M6 a = f_edges M a := fun a => by
    unfold f_edges f_of
    rw [e6, md_up2_ne _ (by decide)]
  rw [e7, a1, a2, a3, e6]
  rfl
theorem c_lay220 {xs : List Int32} {mo : Nat} {ad : Nat → Nat} (hD : md_D mo ad) {h0 : am_H} {d : Nat} {Q : Option Value → md_S → Prop} {x : Int32} {L : List Nat} (hL : L.length ≤ 60) (h60 : ∀ y ∈ L, y < 60) :
    ∀ (r j : Nat) (M : md_S) (o3 : Option Value), j + r = L.length → M.1 22 = nI L.length → (∀ q y, L[q]? = some y → M.2 21 q = nI y) → (∀ y ∈ L, ¬ y = 0 → vp_in (M.2 14 y) 60) → (∀ o3, md_wp xs mo ad h0 (d + 11) Q I115 385 [some (.ref mo), some (.int x), some (.int 0), o3] [] ((L.drop j).foldl f_ba M)) → md_wp xs mo ad h0 (d + 11) Q I115 220 [some (.ref mo), some (.int x), some (.int (nI j)), o3] [] M := by
  intro r
  induction r with
  | zero =>
    intro j M o3 hj h22 _ _ hk
    obtain rfl : j = L.length := by omega
    rw [List.drop_eq_nil_of_le (Nat.le_refl _)] at hk
    exact vc115_220 hD ⟨fun _ => hk o3, fun q => absurd (by rw [h22]; exact nI_le (Nat.le_refl _) (by omega)) q⟩
  | succ r ih =>
    intro j M o3 hj h22 ho hb hk
    have hjl : j < L.length := by omega
    rw [List.drop_eq_getElem_cons hjl, List.foldl_cons] at hk
    have hmem : L[j] ∈ L := List.getElem_mem hjl
    have hoj : M.2 21 j = nI L[j] := ho j L[j] (List.getElem?_eq_getElem hjl)
    generalize L[j] = n at hmem hoj hk
    have hn := h60 n hmem
    have hcn : (nI n).toNatClampNeg = n := nI_clamp (by omega)
    have hvn : vp_in (nI n) 60 := vp_nI hn (by decide)
    have hz : nI n ≤ 0 ↔ n = 0 := by
      rw [← nI_0, nI_leI (by omega) (by decide)]
      omega
    have next : ∀ M' o3, M' = f_ba M n → md_wp xs mo ad h0 (d + 11) Q I115 220 [some (.ref mo), some (.int x), some (.int (nI j + 1)), o3] [] M' := by
      intro M' o3 e
      have hx := f_ba_X M n
      rw [← e] at hx hk
      rw [nI_1]
      exact ih (j + 1) M' o3 (by omega) ((hx.1 22 (by simp)).trans h22) (fun q y hq => by rw [hx.2 21 (by decide)]; exact ho q y hq) (fun y hy h => by rw [hx.2 14 (by decide)]; exact hb y hy h) hk
    have yes0 : f_boxy M n → nI n ≤ 0 → ∀ M1 : md_S, M1 = md_up2 M 23 n (1 &&& 1) → (∀ M2 : md_S, M2 = md_up2 M1 24 n (M1.2 15 n) → (∀ M3 : md_S, M3 = md_up2 M2 25 n (M2.2 16 n) → (∀ M4 : md_S, M4 = md_up2 M3 26 n (M3.2 17 n) → (∀ M5 : md_S, M5 = md_up2 M4 27 n (M4.2 18 n) → (md_wp xs mo ad h0 (d + 11) Q I115 220 [some (.ref mo), some (.int x), some (.int (nI j + 1)), some (.int (nI n))] [] M5))))) := by
      intro hbx hle M1 e1 M2 e2 M3 e3 M4 e4 M5 e5
      refine next M5 _ ?_
      unfold f_ba
      rw [if_pos hbx, if_pos (hz.mp hle)]
      exact f_bk_of e1 e2 e3 e4 e5
    have yes1 : f_boxy M n → ¬ nI n ≤ 0 → (vp_in (M.2 14 n) 60) ∧ (∀ M6 : md_S, M6 = md_up2 M 15 n (M.2 15 n + (M.2 15 (M.2 14 n).toNatClampNeg + f_edges M (M.2 14 n))) → ((vp_in (M6.2 14 n) 60) ∧ (∀ M7 : md_S, M7 = md_up2 M6 16 n (M6.2 16 n + (M6.2 16 (M6.2 14 n).toNatClampNeg + f_edges M6 (M6.2 14 n))) → (∀ M1 : md_S, M1 = md_up2 M7 23 n (1 &&& 1) → (∀ M2 : md_S, M2 = md_up2 M1 24 n (M1.2 15 n) → (∀ M3 : md_S, M3 = md_up2 M2 25 n (M2.2 16 n) → (∀ M4 : md_S, M4 = md_up2 M3 26 n (M3.2 17 n) → (∀ M5 : md_S, M5 = md_up2 M4 27 n (M4.2 18 n) → (md_wp xs mo ad h0 (d + 11) Q I115 220 [some (.ref mo), some (.int x), some (.int (nI j + 1)), some (.int (nI n))] [] M5))))))))) := by
      intro hbx hle
      have hv := hb n hmem (fun e => hle (hz.mpr e))
      refine ⟨hv, fun M6 e6 => ⟨by rw [e6, md_up2_ne _ (by decide)]; exact hv, fun M7 e7 M1 e1 M2 e2 M3 e3 M4 e4 M5 e5 => ?_⟩⟩
      refine next M5 _ ?_
      unfold f_ba
      rw [if_pos hbx, if_neg (fun e => hle (hz.mpr e)), ← f_bp_of e6 e7]
      exact f_bk_of e1 e2 e3 e4 e5
    refine vc115_220 hD ⟨fun q => absurd q (by rw [h22]; exact nI_ge hjl (by omega)), fun _ => ?_⟩
    rw [nI_clamp (show j < 2 ^ 31 by omega), hoj, hcn]
    refine ⟨vp_nI (by omega) (by decide), hvn, fun c1 => ⟨yes0 (Or.inl c1), yes1 (Or.inl c1)⟩, fun c1 => ⟨fun c2 => ⟨yes0 (Or.inr c2), yes1 (Or.inr c2)⟩, fun c2 => next M _ ?_⟩⟩
    unfold f_ba
    rw [if_neg (fun q => q.elim c1 c2)]
