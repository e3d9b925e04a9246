/-! the reference: putFloat (by hand: wip/whole/gen/m15.py) -/
theorem ls_flt {α : Type} (p q : α → Bool) : ∀ (l : List α), (∀ x ∈ l, p x = true → q x = true) → (∃ x ∈ l, q x = true ∧ p x = false) → (l.filter p).length < (l.filter q).length := by
  intro l
  induction l with
  | nil => rintro _ ⟨x, hx, _⟩; cases hx
  | cons a l ih =>
    intro h1 h2
    have hle : ∀ l : List α, (∀ x ∈ l, p x = true → q x = true) → (l.filter p).length ≤ (l.filter q).length := by
      intro l
      induction l with
      | nil => intro _; exact Nat.le_refl _
      | cons b l ih =>
        intro h
        have := ih (fun x hx => h x (List.mem_cons_of_mem _ hx))
        by_cases hp : p b = true
        · rw [List.filter_cons_of_pos hp, List.filter_cons_of_pos (h b List.mem_cons_self hp)]
          simp only [List.length_cons]
          omega
        · rw [List.filter_cons_of_neg hp]
          by_cases hq : q b = true
          · rw [List.filter_cons_of_pos hq, List.length_cons]
            omega
          · rw [List.filter_cons_of_neg hq]
            exact this
    obtain ⟨x, hx, hqx, hpx⟩ := h2
    have h1' := fun y hy => h1 y (List.mem_cons_of_mem a hy)
    rcases List.mem_cons.mp hx with e | e
    · subst e
      rw [List.filter_cons_of_neg (by simp [hpx]), List.filter_cons_of_pos hqx, List.length_cons]
      have := hle l h1'
      omega
    · have := ih h1' ⟨x, e, hqx, hpx⟩
      by_cases hp : p a = true
      · rw [List.filter_cons_of_pos hp, List.filter_cons_of_pos (h1 a List.mem_cons_self hp)]
        simp only [List.length_cons]
        omega
      · rw [List.filter_cons_of_neg hp]
        by_cases hq : q a = true
        · rw [List.filter_cons_of_pos hq, List.length_cons]
          omega
        · rw [List.filter_cons_of_neg hq]
          exact this
/-- the floats that end below y -/
def sp_cnt (y : Int32) (fs : List sp_fl) : Nat := (fs.filter (fun f => decide (y < f.2.2.2.1))).length
theorem sp_least_of (y : Int32) : ∀ (fs : List sp_fl) (l : Int32), fs.foldl (sp_least1 y) l = l ∨ ∃ f ∈ fs, ¬ f.2.2.2.1 ≤ y ∧ fs.foldl (sp_least1 y) l = f.2.2.2.1 := by
  intro fs
  induction fs with
  | nil => intro l; exact Or.inl rfl
  | cons f fs ih =>
    intro l
    rw [List.foldl_cons]
    have h1 : sp_least1 y l f = l ∨ (¬ f.2.2.2.1 ≤ y ∧ sp_least1 y l f = f.2.2.2.1) := by
      unfold sp_least1
      split
      · exact Or.inl rfl
      · split
        · exact Or.inl rfl
        · next hn =>
          split
          · exact Or.inr ⟨hn, rfl⟩
          · split
            · exact Or.inl rfl
            · exact Or.inr ⟨hn, rfl⟩
    rcases ih (sp_least1 y l f) with h | ⟨g, hg, h2, h3⟩
    · rw [h]
      rcases h1 with e | ⟨e1, e2⟩
      · exact Or.inl e
      · exact Or.inr ⟨f, List.mem_cons_self, e1, e2⟩
    · exact Or.inr ⟨g, List.mem_cons_of_mem _ hg, h2, h3⟩
theorem sp_cnt_least {y : Int32} {fs : List sp_fl} (h : ¬ sp_least y fs = -1) : sp_cnt (sp_least y fs) fs < sp_cnt y fs := by
  rcases sp_least_of y fs (-1) with e | ⟨f, hf, h1, h2⟩
  · exact absurd e h
  · have h2 : sp_least y fs = f.2.2.2.1 := h2
    have hlt : y < f.2.2.2.1 := by
      rw [Int32.lt_iff_toInt_lt]
      rw [Int32.le_iff_toInt_le] at h1
      omega
    rw [h2]
    refine ls_flt _ _ fs (fun g _ hg => ?_) ⟨f, hf, by simpa using hlt, by simp⟩
    have hg : f.2.2.2.1 < g.2.2.2.1 := by simpa using hg
    have : y < g.2.2.2.1 := by
      rw [Int32.lt_iff_toInt_lt] at hg hlt ⊢
      omega
    simpa using this
/-- the first y from here on where w goes between the floats, or none is left -/
def sp_rm (bw w : Int32) (fs : List sp_fl) : Nat → Int32 → Int32
  | 0, y => y
  | n + 1, y => if (sp_edges bw y fs).1 + w ≤ (sp_edges bw y fs).2 then y else if sp_least y fs = -1 then y else sp_rm bw w fs n (sp_least y fs)
theorem sp_rm_enough (bw w : Int32) (fs : List sp_fl) : ∀ (n m : Nat) (y : Int32), sp_cnt y fs < n → n ≤ m → sp_rm bw w fs m y = sp_rm bw w fs n y := by
  intro n
  induction n with
  | zero => intro m y h; omega
  | succ n ih =>
    intro m y h hm
    obtain ⟨m, rfl⟩ : ∃ k, m = k + 1 := ⟨m - 1, by omega⟩
    unfold sp_rm
    split
    · rfl
    · split
      · rfl
      · next hl => exact ih m _ (by have := sp_cnt_least hl; omega) (by omega)
def sp_room (bw w : Int32) (fs : List sp_fl) (y : Int32) : Int32 := sp_rm bw w fs 61 y
theorem sp_cnt_le (y : Int32) (fs : List sp_fl) : sp_cnt y fs ≤ fs.length := List.length_filter_le _ _
def sp_tops (fs : List sp_fl) (y : Int32) : Int32 := fs.foldl (fun a f => f_more a f.2.2.1) y
theorem f_edgesAt_2 (M : md_S) (y : Int32) : (f_edgesAt_M M y).2 = M.2 := rfl
theorem f_edgesAt_ne (M : md_S) (y : Int32) {f : Nat} (h1 : f ≠ 38) (h2 : f ≠ 39) : (f_edgesAt_M M y).1 f = M.1 f := by
  unfold f_edgesAt_M
  rw [md_up1_ne _ h2, md_up1_ne _ h1]
theorem f_edgesAt_38 (M : md_S) (y : Int32) : (f_edgesAt_M M y).1 38 = (sp_edges (M.1 55) y (md_flts M (M.1 46).toNatClampNeg)).1 := by
  unfold f_edgesAt_M
  rw [md_up1_ne _ (by decide), md_up1_at]
theorem f_edgesAt_39 (M : md_S) (y : Int32) : (f_edgesAt_M M y).1 39 = (sp_edges (M.1 55) y (md_flts M (M.1 46).toNatClampNeg)).2 := by
  unfold f_edgesAt_M
  rw [md_up1_at]
theorem f_edgesAt_flts (M : md_S) (y : Int32) (n : Nat) : md_flts (f_edgesAt_M M y) n = md_flts M n := rfl
theorem f_edgesAt_again (M : md_S) (y z : Int32) : f_edgesAt_M (f_edgesAt_M M y) z = f_edgesAt_M M z := by
  have e : ∀ (N : md_S) (a b a' b' : Int32), md_up1 (md_up1 (md_up1 (md_up1 N 38 a) 39 b) 38 a') 39 b' = md_up1 (md_up1 N 38 a') 39 b' := by
    intro N a b a' b'
    rw [md_up1_comm (md_up1 N 38 a) (f := 39) (g := 38) (by decide), md_up1_same, md_up1_same]
  show md_up1 (md_up1 (f_edgesAt_M M y) 38 (sp_edges ((f_edgesAt_M M y).1 55) z (md_flts M ((f_edgesAt_M M y).1 46).toNatClampNeg)).1) 39 (sp_edges ((f_edgesAt_M M y).1 55) z (md_flts M ((f_edgesAt_M M y).1 46).toNatClampNeg)).2 = _
  rw [f_edgesAt_ne M y (show 55 ≠ 38 by decide) (by decide), f_edgesAt_ne M y (show 46 ≠ 38 by decide) (by decide)]
  exact e M _ _ _ _
/-- where float n comes, of the state M with c floats -/
def f_pfAt (M : md_S) (c n : Nat) : Int32 := sp_room (M.1 55) (M.2 17 n + 2 * f_of M (nI n) 4) (md_flts M c) (sp_tops (md_flts M c) (M.1 37))
def f_pfLeft (M : md_S) (c n : Nat) : Int32 := if ¬ f_of M (nI n) 1 = 1 then (sp_edges (M.1 55) (f_pfAt M c n) (md_flts M c)).2 - (M.2 17 n + 2 * f_of M (nI n) 4) else (sp_edges (M.1 55) (f_pfAt M c n) (md_flts M c)).1
def f_putFloat_M (M : md_S) (c n : Nat) : md_S :=
  md_up2 (md_up2 (md_up1 (md_up2 (md_up2 (md_up2 (md_up2 (md_up2 (f_edgesAt_M M (f_pfAt M c n)) 47 c (f_pfLeft M c n)) 48 c (f_pfLeft M c n + (M.2 17 n + 2 * f_of M (nI n) 4))) 49 c (f_pfAt M c n)) 50 c (f_pfAt M c n + M.2 18 n + 2 * f_of M (nI n) 4)) 51 c (f_of M (nI n) 1)) 46 (nI (c + 1))) 15 n (f_pfLeft M c n + f_of M (nI n) 4)) 16 n (f_pfAt M c n + f_of M (nI n) 4)
theorem c_pf_tops {xs : List Int32} {mo : Nat} {ad : Nat → Nat} (hD : md_D mo ad) {h0 : am_H} {d : Nat} {Q : Option Value → md_S → Prop} {M : md_S} {c : Nat} {x m w : Int32} (hc : c ≤ 60) (h46 : M.1 46 = nI c) {Y : Int32}
    (hk : ∀ o6, md_wp xs mo ad h0 (d + 4) Q I137 70 [some (.ref mo), some (.int x), some (.int m), some (.int w), some (.int Y), some (.int (sp_least Y (md_flts M c))), o6] [] (f_edgesAt_M M Y)) : ∀ (r j : Nat) (y : Int32) (o6 : Option Value), j + r = c → ((md_flts M c).drop j).foldl (fun a f => f_more a f.2.2.1) y = Y → md_wp xs mo ad h0 (d + 4) Q I137 27 [some (.ref mo), some (.int x), some (.int m), some (.int w), some (.int y), some (.int (nI j)), o6] [] M := by
  have hv : vp_in (M.1 46) 61 := by rw [h46]; exact vp_nI (by omega) (by decide)
  have hcl : (M.1 46).toNatClampNeg = c := by rw [h46, nI_clamp (by omega)]
  intro r
  induction r with
  | zero =>
    intro j y o6 hj hY
    obtain rfl : j = c := by omega
    rw [md_flts_end (Nat.le_refl _)] at hY
    have hY : y = Y := hY
    subst hY
    refine vc137_27 hD ⟨fun _ => ⟨hv, ?_⟩, fun q => absurd (by rw [h46]; exact nI_le (Nat.le_refl _) (by omega)) q⟩
    rintro _ rfl
    refine ⟨by rw [f_edgesAt_ne _ _ (by decide) (by decide)]; exact hv, ?_⟩
    have e : f_leastEnd (f_edgesAt_M M y) y = sp_least y (md_flts M j) := by
      unfold f_leastEnd
      rw [f_edgesAt_ne _ _ (by decide) (by decide), hcl, f_edgesAt_flts]
    rw [e]
    exact hk o6
  | succ r ih =>
    intro j y o6 hj hY
    refine vc137_27 hD ⟨fun q => absurd q (by rw [h46]; exact nI_ge (by omega) (by omega)), fun _ => ⟨vp_nI (by omega) (by decide), ?_⟩⟩
    rw [md_flts_drop (by omega), List.foldl_cons] at hY
    rw [nI_clamp (by omega), nI_1]
    exact ih (j + 1) _ o6 (by omega) hY
theorem c_putFloat {xs : List Int32} {mo : Nat} {ad : Nat → Nat} {d : Nat} {M : md_S} {c n : Nat} (hD : md_D mo ad) (hn : n < 60) (hc : c < 60) (h46 : M.1 46 = nI c) : ∀ Q', Q' none (f_putFloat_M M c n) → md_C xs mo ad (d + 5) 137 [.int (nI n)] M Q' := by
  intro Q' hQ
  have hvi : vp_in (nI n) 60 := vp_nI hn (by decide)
  have hci : (nI n).toNatClampNeg = n := nI_clamp (by omega)
  have hcl : (nI c).toNatClampNeg = c := nI_clamp (by omega)
  refine md_intro (ms137 xs) (Nat.le_of_ble_eq_true rfl) (fun h0 => vc137_0 hD ⟨hvi, ?_⟩)
  rw [hci]
  refine c_pf_tops hD (show c ≤ 60 by omega) h46 (fun o6 => ?_) c 0 _ none (by omega) rfl
  have hat : f_pfAt M c n = sp_rm (M.1 55) (M.2 17 n + 2 * f_of M (nI n) 4) (md_flts M c) 61 (sp_tops (md_flts M c) (M.1 37)) := rfl
  have hcnt : sp_cnt (sp_tops (md_flts M c) (M.1 37)) (md_flts M c) < 61 := by
    have := sp_cnt_le (sp_tops (md_flts M c) (M.1 37)) (md_flts M c)
    have hl : (md_flts M c).length = c := by simp [md_flts]
    omega
  have key : ∀ (k : Nat) (y : Int32), sp_cnt y (md_flts M c) < k → sp_rm (M.1 55) (M.2 17 n + 2 * f_of M (nI n) 4) (md_flts M c) k y = f_pfAt M c n → md_wp xs mo ad h0 (d + 4) Q' I137 70 [some (.ref mo), some (.int (nI n)), some (.int (f_of M (nI n) 4)), some (.int (M.2 17 n + 2 * f_of M (nI n) 4)), some (.int y), some (.int (sp_least y (md_flts M c))), o6] [] (f_edgesAt_M M y) := by
    intro k
    induction k with
    | zero => intro y h; omega
    | succ k ih =>
      intro y hy hrm
      have he46 : (f_edgesAt_M M y).1 46 = nI c := by rw [f_edgesAt_ne _ _ (by decide) (by decide)]; exact h46
      have hcm : (M.1 46).toNatClampNeg = c := by rw [h46, hcl]
      have hv46 : ∀ N : md_S, N.1 46 = nI c → vp_in (N.1 46) 60 := fun N hN => by rw [hN]; exact vp_nI hc (by decide)
      unfold sp_rm at hrm
      have fin : y = f_pfAt M c n → (vp_in (nI n) 60) ∧ (∀ s1 : Int32, s1 = (if ¬ (f_of (f_edgesAt_M M y) (nI n) 1) = 1 then (((f_edgesAt_M M y).1 39) - (M.2 17 n + 2 * f_of M (nI n) 4)) else ((f_edgesAt_M M y).1 38)) → s1 = f_pfLeft M c n) := by
        intro hy
        refine ⟨hvi, fun s1 e1 => ?_⟩
        rw [e1, f_edgesAt_38, f_edgesAt_39, hcm, hy]
        rfl
      refine vc137_70 hD ?_
      rw [f_edgesAt_38, f_edgesAt_39, hcm, he46, hcl, hci]
      have fq : ∀ (s1 : Int32) (M1 M2 M3 M4 M5 M6 M7 M8 : md_S), y = f_pfAt M c n → s1 = (if ¬ f_of (f_edgesAt_M M y) (nI n) 1 = 1 then (sp_edges (M.1 55) y (md_flts M c)).2 - (M.2 17 n + 2 * f_of M (nI n) 4) else (sp_edges (M.1 55) y (md_flts M c)).1) → M1 = md_up2 (f_edgesAt_M M y) 47 c s1 → M2 = md_up2 M1 48 (M1.1 46).toNatClampNeg (s1 + (M.2 17 n + 2 * f_of M (nI n) 4)) → M3 = md_up2 M2 49 (M2.1 46).toNatClampNeg y → M4 = md_up2 M3 50 (M3.1 46).toNatClampNeg (y + M3.2 18 n + 2 * f_of M (nI n) 4) → M5 = md_up2 M4 51 (M4.1 46).toNatClampNeg (f_of M4 (nI n) 1) → M6 = md_up1 M5 46 (M5.1 46 + 1) → M7 = md_up2 M6 15 n (s1 + f_of M (nI n) 4) → M8 = md_up2 M7 16 n (y + f_of M (nI n) 4) → Q' none M8 := by
        intro s1 M1 M2 M3 M4 M5 M6 M7 M8 hy e0 e1 e2 e3 e4 e5 e6 e7 e8
        have es : s1 = f_pfLeft M c n := by rw [e0, hy]; rfl
        have q1 : M1.1 46 = nI c := by rw [e1, md_up2_1]; exact he46
        have q2 : M2.1 46 = nI c := by rw [e2, md_up2_1]; exact q1
        have q3 : M3.1 46 = nI c := by rw [e3, md_up2_1]; exact q2
        have q4 : M4.1 46 = nI c := by rw [e4, md_up2_1]; exact q3
        have q5 : M5.1 46 = nI c := by rw [e5, md_up2_1]; exact q4
        have a18 : M3.2 18 = M.2 18 := by rw [e3, md_up2_ne _ (by decide), e2, md_up2_ne _ (by decide), e1, md_up2_ne _ (by decide)]; rfl
        have a9 : f_of M4 (nI n) 1 = f_of M (nI n) 1 := by
          unfold f_of
          rw [e4, md_up2_ne _ (by decide), e3, md_up2_ne _ (by decide), e2, md_up2_ne _ (by decide), e1, md_up2_ne _ (by decide)]
          rfl
        rw [q1, hcl] at e2
        rw [q2, hcl] at e3
        rw [q3, hcl, a18] at e4
        rw [q4, hcl, a9] at e5
        rw [q5, nI_1] at e6
        rw [e8, e7, e6, e5, e4, e3, e2, e1, es, hy]
        exact hQ
      have hv : ∀ N : md_S, N.1 46 = nI c → vp_in (N.1 46) 60 := hv46
      have hvc : vp_in (nI c) 60 := vp_nI hc (by decide)
      have u46 : ∀ (N : md_S) (f i : Nat) (v : Int32), N.1 46 = nI c → (md_up2 N f i v).1 46 = nI c := fun N f i v h => h
      refine ⟨fun h1 => ⟨hvi, fun s1 e0 => ⟨hvc, fun M1 e1 => ?_⟩⟩, fun h1 => ⟨fun h2 => ⟨hvi, fun s1 e0 => ⟨hvc, fun M1 e1 => ?_⟩⟩, fun h2 => ?_⟩⟩
      · rw [if_pos h1] at hrm
        have q1 : M1.1 46 = nI c := by rw [e1, md_up2_1]; exact he46
        refine ⟨hv _ q1, fun M2 e2 => ?_⟩
        have q2 : M2.1 46 = nI c := by rw [e2, md_up2_1]; exact q1
        refine ⟨hv _ q2, fun M3 e3 => ?_⟩
        have q3 : M3.1 46 = nI c := by rw [e3, md_up2_1]; exact q2
        refine ⟨hv _ q3, fun M4 e4 => ?_⟩
        have q4 : M4.1 46 = nI c := by rw [e4, md_up2_1]; exact q3
        refine ⟨hv _ q4, fun M5 e5 M6 e6 M7 e7 M8 e8 => ?_⟩
        exact fq s1 M1 M2 M3 M4 M5 M6 M7 M8 hrm e0 e1 e2 e3 e4 e5 e6 e7 e8
      · rw [if_neg h1, if_pos h2] at hrm
        have q1 : M1.1 46 = nI c := by rw [e1, md_up2_1]; exact he46
        refine ⟨hv _ q1, fun M2 e2 => ?_⟩
        have q2 : M2.1 46 = nI c := by rw [e2, md_up2_1]; exact q1
        refine ⟨hv _ q2, fun M3 e3 => ?_⟩
        have q3 : M3.1 46 = nI c := by rw [e3, md_up2_1]; exact q2
        refine ⟨hv _ q3, fun M4 e4 => ?_⟩
        have q4 : M4.1 46 = nI c := by rw [e4, md_up2_1]; exact q3
        refine ⟨hv _ q4, fun M5 e5 M6 e6 M7 e7 M8 e8 => ?_⟩
        exact fq s1 M1 M2 M3 M4 M5 M6 M7 M8 hrm e0 e1 e2 e3 e4 e5 e6 e7 e8
      · rw [if_neg h1, if_neg h2] at hrm
        have hv61 : vp_in (nI c) 61 := vp_nI (by omega) (by decide)
        refine ⟨hv61, ?_⟩
        rintro _ rfl
        rw [f_edgesAt_again]
        refine ⟨by rw [f_edgesAt_ne _ _ (by decide) (by decide), h46]; exact hv61, ?_⟩
        have e : f_leastEnd (f_edgesAt_M M (sp_least y (md_flts M c))) (sp_least y (md_flts M c)) = sp_least (sp_least y (md_flts M c)) (md_flts M c) := by
          unfold f_leastEnd
          rw [f_edgesAt_ne _ _ (by decide) (by decide), hcm, f_edgesAt_flts]
        rw [e]
        exact ih _ (by have := sp_cnt_least h2; omega) hrm
  exact key 61 _ hcnt hat.symm
