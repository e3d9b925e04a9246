/-! the reference's invariant: clear, node, text keep it (by hand: wip/whole/gen/c58.py) -/
section N58
variable {M : md_S} {K : bt} {nn p : Nat} {k q : Int32}
theorem fr2_9 {n x j : Nat} (hj : j < 9) : (f_fr2 M n k).2 9 (9 * x + j) = if x = n then (if j = 0 then (if k = 0 then 0 else 1) else if j = 2 then -1 else if j = 3 then -1 else if j = 8 then 1 else 0) else M.2 9 (9 * x + j) := by
  unfold f_fr2
  by_cases c : x = n
  · subst c
    rw [if_pos rfl]
    by_cases j8 : j = 8
    · subst j8
      rw [md_up2_at]
      simp
    · rw [md_up2_off _ _ (by omega)]
      by_cases j3 : j = 3
      · subst j3
        rw [md_up2_at]
        simp
      · rw [md_up2_off _ _ (by omega)]
        by_cases j2 : j = 2
        · subst j2
          rw [md_up2_at]
          simp
        · rw [md_up2_off _ _ (by omega)]
          by_cases j0 : j = 0
          · subst j0
            rw [Nat.add_zero, md_up2_at]
            simp
          · rw [md_up2_off _ _ (by omega), if_neg j0, if_neg j2, if_neg j3, if_neg j8]
            show (if 9 = 9 ∧ 9 * x ≤ 9 * x + j ∧ 9 * x + j < 9 * x + 9 then (0 : Int32) else _) = 0
            rw [if_pos (by omega)]
  · rw [if_neg c, md_up2_off _ _ (by omega), md_up2_off _ _ (by omega), md_up2_off _ _ (by omega), md_up2_off _ _ (by omega)]
    show (if 9 = 9 ∧ 9 * n ≤ 9 * x + j ∧ 9 * x + j < 9 * n + 9 then (0 : Int32) else _) = _
    rw [if_neg (by omega)]
/-- what node makes -/
theorem node_f (hp : p < nn) (h60 : nn < 60) : 
    ((∀ f, ¬ f = 2 → (f_node_M M nn (nI p) k).1 f = M.1 f) ∧ (f_node_M M nn (nI p) k).1 2 = nI (nn + 1)) ∧
    (∀ x, (f_node_M M nn (nI p) k).2 3 x = if x = nn then k else M.2 3 x) ∧
    (∀ x, (f_node_M M nn (nI p) k).2 4 x = if x = nn then nI p else M.2 4 x) ∧
    (∀ x, (f_node_M M nn (nI p) k).2 5 x = if x = nn then -1 else if x = p ∧ M.2 6 p = -1 then nI nn else M.2 5 x) ∧
    (∀ x, (f_node_M M nn (nI p) k).2 6 x = if x = p then nI nn else if x = nn then -1 else M.2 6 x) ∧
    (∀ x, (f_node_M M nn (nI p) k).2 7 x = if ¬ M.2 6 p = -1 ∧ x = (M.2 6 p).toNatClampNeg then nI nn else if x = nn then -1 else M.2 7 x) ∧
    (∀ x, (f_node_M M nn (nI p) k).2 8 x = if x = nn then M.2 8 p + 1 else M.2 8 x) ∧
    (∀ x j, j < 9 → (f_node_M M nn (nI p) k).2 9 (9 * x + j) = if x = nn then (if j = 0 then (if k = 0 then 0 else 1) else if j = 2 then -1 else if j = 3 then -1 else if j = 8 then 1 else 0) else M.2 9 (9 * x + j)) ∧
    (∀ x, (f_node_M M nn (nI p) k).2 11 x = if x = nn then 0 else M.2 11 x) ∧
    (∀ x, (f_node_M M nn (nI p) k).2 23 x = if x = nn then 0 else M.2 23 x) ∧
    ∀ f, f ∉ [3, 4, 5, 6, 7, 8, 9, 11, 23] → (f_node_M M nn (nI p) k).2 f = M.2 f := by
  have cp : (nI p).toNatClampNeg = p := nI_clamp (by omega)
  have hne : ¬ nI p = -1 := nI_ne_m1 (by omega)
  have x6 : (f_fr2 (f_fr1 M nn (nI p) k) nn k).2 6 p = M.2 6 p := by
    rw [f_fr2_ne _ _ _ (by decide)]
    unfold f_fr1
    rw [md_up2_ne _ (by decide), md_up2_ne _ (by decide), md_up2_ne _ (by decide), md_up2_off _ _ (by omega), md_up2_ne _ (by decide), md_up2_ne _ (by decide), md_up2_ne _ (by decide)]
  have e0 : f_node_M M nn (nI p) k = md_up1 (md_up2 (if M.2 6 p = -1 then md_up2 (md_up2 (f_fr2 (f_fr1 M nn (nI p) k) nn k) 5 p (nI nn)) 6 p (nI nn) else md_up2 (md_up2 (f_fr2 (f_fr1 M nn (nI p) k) nn k) 7 (M.2 6 p).toNatClampNeg (nI nn)) 6 p (nI nn)) 23 nn 0) 2 (nI (nn + 1)) := by
    unfold f_node_M f_fresh_M f_fr3
    rw [if_neg hne, cp, x6]
  have hX : ∀ g x, ¬ g = 9 → (f_fr2 (f_fr1 M nn (nI p) k) nn k).2 g x = (f_fr1 M nn (nI p) k).2 g x := fun g x hg => by rw [f_fr2_ne _ _ _ hg]
  have h1 : ∀ g x, (f_fr1 M nn (nI p) k).2 g x = if x = nn ∧ g = 11 then 0 else if x = nn ∧ g = 8 then M.2 8 p + 1 else if x = nn ∧ (g = 5 ∨ g = 6 ∨ g = 7) then -1 else if x = nn ∧ g = 4 then nI p else if x = nn ∧ g = 3 then k else M.2 g x := fun g x => by
    unfold f_fr1
    rw [if_neg hne, cp]
    by_cases c : x = nn
    · subst c
      simp only [md_up2]
      by_cases g11 : g = 11
      · simp [g11]
      · by_cases g8 : g = 8
        · simp [g8]
        · by_cases g7 : g = 7
          · simp [g7]
          · by_cases g6 : g = 6
            · simp [g6]
            · by_cases g5 : g = 5
              · simp [g5]
              · by_cases g4 : g = 4
                · simp [g4]
                · by_cases g3 : g = 3
                  · simp [g3]
                  · simp [g3, g4, g5, g6, g7, g8, g11]
    · simp [md_up2, c]
  have hN : ∀ g x, (f_node_M M nn (nI p) k).2 g x = if g = 23 ∧ x = nn then 0 else if g = 6 ∧ x = p then nI nn else if M.2 6 p = -1 then (if g = 5 ∧ x = p then nI nn else (f_fr2 (f_fr1 M nn (nI p) k) nn k).2 g x) else (if g = 7 ∧ x = (M.2 6 p).toNatClampNeg then nI nn else (f_fr2 (f_fr1 M nn (nI p) k) nn k).2 g x) := fun g x => by
    rw [e0]
    by_cases c : M.2 6 p = -1
    · rw [if_pos c, if_pos c]
      simp only [md_up1, md_up2]
    · rw [if_neg c, if_neg c]
      simp only [md_up1, md_up2]
  refine ⟨⟨fun f hf => ?_, ?_⟩, fun x => ?_, fun x => ?_, fun x => ?_, fun x => ?_, fun x => ?_, fun x => ?_, fun x j hj => ?_, fun x => ?_, fun x => ?_, fun f hf => ?_⟩
  · unfold f_node_M
    rw [md_up1_ne _ hf, md_up2_1, f_fresh_1]
  · exact md_up1_at _ _ _
  · rw [hN, hX 3 x (by decide), h1]
    simp
  · rw [hN, hX 4 x (by decide), h1]
    simp
  · rw [hN, hX 5 x (by decide), h1]
    by_cases c1 : x = nn
    · subst c1
      have : ¬ x = p := by omega
      simp [this]
    · by_cases c2 : M.2 6 p = -1
      · simp [c1, c2]
      · simp [c1, c2]
  · rw [hN, hX 6 x (by decide), h1]
    simp
  · rw [hN, hX 7 x (by decide), h1]
    by_cases c2 : M.2 6 p = -1
    · simp [c2]
    · simp [c2]
  · rw [hN, hX 8 x (by decide), h1]
    simp
  · rw [hN, fr2_9 hj]
    have : (f_fr1 M nn (nI p) k).2 9 (9 * x + j) = M.2 9 (9 * x + j) := by
      rw [h1]
      simp
    rw [this]
    simp
  · rw [hN, hX 11 x (by decide), h1]
    simp
  · rw [hN, hX 23 x (by decide), h1]
    simp
  · funext x
    simp only [List.mem_cons, List.not_mem_nil, or_false, not_or] at hf
    rw [hN, hX f x (by omega), h1]
    simp [hf]
theorem of_eq {M N : md_S} {i : Nat} (hi : i < 60) (h : ∀ j, j < 9 → N.2 9 (9 * i + j) = M.2 9 (9 * i + j)) (hr : rng M i) : rng N i := by
  have e : ∀ q, q < 9 → f_of N (nI i) (nI q) = f_of M (nI i) (nI q) := fun q hq => by rw [f_of_n hi hq, f_of_n hi hq, h q hq]
  have e0 : f_of N (nI i) 0 = f_of M (nI i) 0 := e 0 (by decide)
  have e1 : f_of N (nI i) 1 = f_of M (nI i) 1 := e 1 (by decide)
  have e2 : f_of N (nI i) 2 = f_of M (nI i) 2 := e 2 (by decide)
  have e3 : f_of N (nI i) 3 = f_of M (nI i) 3 := e 3 (by decide)
  have e4 : f_of N (nI i) 4 = f_of M (nI i) 4 := e 4 (by decide)
  have e5 : f_of N (nI i) 5 = f_of M (nI i) 5 := e 5 (by decide)
  have e6 : f_of N (nI i) 6 = f_of M (nI i) 6 := e 6 (by decide)
  have e7 : f_of N (nI i) 7 = f_of M (nI i) 7 := e 7 (by decide)
  have e8 : f_of N (nI i) 8 = f_of M (nI i) 8 := e 8 (by decide)
  unfold rng at hr ⊢
  rw [e0, e1, e2, e3, e4, e5, e6, e7, e8]
  exact hr
/-- what a new node has is in its ranges -/
theorem rng_new {N : md_S} {i : Nat} {k : Int32} (hi : i < 60) (h : ∀ j, j < 9 → N.2 9 (9 * i + j) = (if j = 0 then (if k = 0 then 0 else 1) else if j = 2 then -1 else if j = 3 then -1 else if j = 8 then 1 else 0)) : rng N i := by
  have e : ∀ q, q < 9 → f_of N (nI i) (nI q) = (if q = 0 then (if k = 0 then 0 else 1) else if q = 2 then -1 else if q = 3 then -1 else if q = 8 then 1 else 0) := fun q hq => by rw [f_of_n hi hq, h q hq]
  have e0 : f_of N (nI i) 0 = (if k = 0 then 0 else 1) := e 0 (by decide)
  have e1 : f_of N (nI i) 1 = 0 := e 1 (by decide)
  have e2 : f_of N (nI i) 2 = -1 := e 2 (by decide)
  have e3 : f_of N (nI i) 3 = -1 := e 3 (by decide)
  have e4 : f_of N (nI i) 4 = 0 := e 4 (by decide)
  have e5 : f_of N (nI i) 5 = 0 := e 5 (by decide)
  have e6 : f_of N (nI i) 6 = 0 := e 6 (by decide)
  have e7 : f_of N (nI i) 7 = 0 := e 7 (by decide)
  have e8 : f_of N (nI i) 8 = 1 := e 8 (by decide)
  unfold rng
  rw [e0, e1, e2, e3, e4, e5, e6, e7, e8]
  refine ⟨?_, by decide, by decide, by decide, by unfold nz; decide, by unfold nz; decide, by unfold nz; decide, by unfold nz; decide, by decide, by decide⟩
  split <;> decide
theorem kind_in {k : Int32} (h1 : ¬ k < 0) (h2 : ¬ 3 < k) : k ∈ ([0, 1, 2, 3] : List Int32) := by
  rw [Int32.lt_iff_toInt_lt, lit_0] at h1
  rw [Int32.lt_iff_toInt_lt, show (3 : Int32).toInt = 3 by decide] at h2
  have hc : k.toInt = 0 ∨ k.toInt = 1 ∨ k.toInt = 2 ∨ k.toInt = 3 := by omega
  have e : ∀ {a : Int32}, k.toInt = a.toInt → k = a := fun q => Int32.toInt_inj.mp q
  rcases hc with q | q | q | q
  · rw [e (a := 0) q]; decide
  · rw [e (a := 1) q]; decide
  · rw [e (a := 2) q]; decide
  · rw [e (a := 3) q]; decide
theorem IV.node (h : IV M K nn) (hL : LK (M.2 6) (bt_root K)) (hp : p < nn) (h60 : nn < 60) (h3 : M.2 3 p = 0) (hk1 : ¬ k < 0) (hk2 : ¬ 3 < k) (h8 : ¬ M.2 8 p = 12) : ∃ K', IV (f_node_M M nn (nI p) k) K' (nn + 1) ∧ LK ((f_node_M M nn (nI p) k).2 6) (bt_root K') := by
  have hiff := md_N_iff h.1
  obtain ⟨⟨n1, ⟨n2, n3, n4, n5⟩, n6⟩, hv⟩ := h
  obtain ⟨⟨g1, g1'⟩, g3, g4, g5, g6, g7, g8, g9, g11, g23, go⟩ := node_f (M := M) (k := k) hp h60
  generalize f_node_M M nn (nI p) k = N at *
  have n4' : (bt_pre (bt_root K)).length = nn := n4
  have hmem : p ∈ bt_pre (bt_root K) := (hiff p).mp hp
  have hnew : nn ∉ bt_pre (bt_root K) := fun q => by have := (hiff nn).mpr q; omega
  have hl : M.2 6 p = bt_lst (bt_kids (bt_root K) p) := LK_kids hL hmem
  have hlast : ¬ M.2 6 p = -1 → ∃ y, y < nn ∧ M.2 6 p = nI y := by
    intro c
    rcases lst_mem (bt_kids (bt_root K) p) with ⟨u, q⟩ | ⟨y, hy, ey⟩
    · rw [hl, q] at c
      exact absurd rfl c
    · obtain ⟨_, _, _, _, hsub, _⟩ := bt_kids_R n2 n3 hmem
      exact ⟨y, (hiff y).mpr (hsub y hy), hl.trans ey⟩
  have hlk : lk_ok (M.2 4) (M.2 5) (M.2 7) (N.2 4) (N.2 5) (N.2 7) p nn (bt_lst (bt_kids (bt_root K) p)) := by
    rw [← hl]
    refine ⟨h60, by rw [g4, if_pos rfl], by rw [g5, if_pos rfl], ?_, ?_, fun x hx hxn => ⟨by rw [g4, if_neg hxn], fun hxp => by rw [g5, if_neg hxn, if_neg (fun q => hxp q.1)], fun hxl => ?_, fun hxl => ?_⟩⟩
    · rw [g7, if_neg, if_pos rfl]
      rintro ⟨q1, q2⟩
      obtain ⟨y, hy, ey⟩ := hlast q1
      rw [ey, nI_clamp (by omega)] at q2
      omega
    · rw [g5, if_neg (by omega)]
      by_cases c : M.2 6 p = -1
      · rw [if_pos ⟨rfl, c⟩, if_pos c]
      · rw [if_neg (fun q => c q.2), if_neg c]
    · rw [g7, if_neg, if_neg hxn]
      rintro ⟨q1, q2⟩
      obtain ⟨y, hy, ey⟩ := hlast q1
      rw [ey, nI_clamp (by omega)] at q2
      exact hxl (by rw [ey, q2])
    · rw [g7, if_pos]
      rw [← hxl]
      exact ⟨nI_ne_m1 (by omega), (nI_clamp (by omega)).symm⟩
  have hperm := add_perm (n := nn) (bt_root K) n3 hmem
  have eK : ∃ K', bt_root K' = bt_add p nn (bt_root K) := by
    by_cases c : 0 = p
    · exact ⟨bt_snoc K nn, by show _ = (if 0 = p then _ else _); rw [if_pos c]⟩
    · exact ⟨bt_add p nn K, by show _ = (if 0 = p then _ else _); rw [if_neg c]; rfl⟩
  obtain ⟨K', eK⟩ := eK
  have hR := add_R (bt_root K) (-1) (fun x hx => bt_R_mem n2 x hx) n3 hmem hnew hlk n2
  rw [← eK] at hperm hR
  refine ⟨K', ⟨⟨g1', ⟨hR, hperm.nodup_iff.mpr (List.nodup_cons.mpr ⟨hnew, n3⟩), ?_, by omega⟩, fun i hi => ?_⟩, fun i hi => ?_⟩, ?_⟩
  · rw [hperm.length_eq, List.length_cons, n4']
  · rw [hperm.mem_iff, List.mem_cons]
    by_cases c : i = nn
    · exact Or.inl c
    · exact Or.inr ((hiff i).mp (by omega))
  · by_cases c : i = nn
    · subst c
      have hvp := hv p hp
      have hd : ∃ e, e < 12 ∧ M.2 8 p = nI e := by
        by_cases p0 : p = 0
        · subst p0
          exact ⟨0, by decide, (hvp.1 rfl).2.2⟩
        · obtain ⟨p', e, _, he, _, _, _, h8'⟩ := hvp.2.1 p0
          refine ⟨e + 1, ?_, h8'⟩
          rcases Nat.lt_or_ge (e + 1) 12 with q | q
          · exact q
          · exfalso
            have : e + 1 = 12 := by omega
            rw [this] at h8'
            exact h8 h8'
      obtain ⟨e, he, e8⟩ := hd
      refine ⟨fun q => by omega, fun _ => ⟨p, e, hp, he, by rw [g4, if_pos rfl], by rw [g3, if_neg (by omega)]; exact h3, by rw [g8, if_neg (by omega)]; exact e8, by rw [g8, if_pos rfl, e8, nI_1]⟩, by rw [g3, if_pos rfl]; exact kind_in hk1 hk2, fun _ => by rw [g5, if_pos rfl], fun _ => by rw [g11, if_pos rfl], ⟨0, by decide, by rw [g11, if_pos rfl]; rfl⟩, rng_new h60 (fun j hj => by rw [g9 _ j hj, if_pos rfl])⟩
    · have hin : i < nn := by omega
      obtain ⟨v1, v2, v3, v4, v5, v6, v7⟩ := hv i hin
      refine ⟨fun q => ?_, fun q => ?_, by rw [g3, if_neg c]; exact v3, fun q => ?_, fun q => ?_, ?_, of_eq (by omega) (fun j hj => by rw [g9 _ j hj, if_neg c]) v7⟩
      · rw [g4, g3, g8, if_neg (by omega), if_neg (by omega), if_neg (by omega)]
        exact v1 q
      · obtain ⟨p', e, w1, w2, w3, w4, w5, w6⟩ := v2 q
        exact ⟨p', e, w1, w2, by rw [g4, if_neg c]; exact w3, by rw [g3, if_neg (by omega)]; exact w4, by rw [g8, if_neg (by omega)]; exact w5, by rw [g8, if_neg c]; exact w6⟩
      · rw [g3, if_neg c] at q
        rw [g5, if_neg c, if_neg (fun x => q (by rw [x.1]; exact h3))]
        exact v4 q
      · rw [g3, if_neg c] at q
        rw [g11, if_neg c]
        exact v5 q
      · obtain ⟨b, b1, b2⟩ := v6
        exact ⟨b, b1, by rw [g11, if_neg c]; exact b2⟩
  · rw [eK]
    refine LK_add (f := M.2 6) ?_ (by rw [g6, if_pos rfl]) (fun x hx hxp => by rw [g6, if_neg hxp, if_neg hx]) _ n3 hnew hL
    rw [g6, if_neg (by omega), if_pos rfl]
/-- what clear makes -/
theorem clear_f : (∀ f, ¬ f = 2 → ¬ f = 29 → (f_clear_M M).1 f = M.1 f) ∧ (f_clear_M M).1 2 = 1 ∧ (f_clear_M M).1 29 = 0 ∧ ((f_clear_M M).2 3 0 = 0 ∧ (f_clear_M M).2 4 0 = -1 ∧ (f_clear_M M).2 5 0 = -1 ∧ (f_clear_M M).2 6 0 = -1 ∧ (f_clear_M M).2 7 0 = -1 ∧ (f_clear_M M).2 8 0 = 0 ∧ (f_clear_M M).2 11 0 = 0) ∧ (∀ j, j < 9 → (f_clear_M M).2 9 (9 * 0 + j) = (if j = 0 then (if (0 : Int32) = 0 then 0 else 1) else if j = 2 then -1 else if j = 3 then -1 else if j = 8 then 1 else 0)) ∧ (∀ x, x < 60 → (f_clear_M M).2 23 x = 0) ∧ (f_clear_M M).2 0 = M.2 0 := by
  have e3 : ∀ (X : md_S), f_fresh_M X 0 (-1) 0 = f_fr2 (f_fr1 X 0 (-1) 0) 0 0 := fun X => by
    unfold f_fresh_M f_fr3
    rw [if_pos rfl]
  have eg : ∀ g x, ¬ g = 23 → ¬ g = 9 → (f_clear_M M).2 g x = (f_fr1 (md_up1 M 2 1) 0 (-1) 0).2 g x := fun g x h1 h2 => by
    unfold f_clear_M
    rw [e3]
    show (if g = 23 ∧ x < 60 then (0 : Int32) else _) = _
    rw [if_neg (fun q => h1 q.1), md_up1_2, f_fr2_ne _ _ _ h2]
  refine ⟨fun f h1 h2 => ?_, ?_, ?_, ⟨?_, ?_, ?_, ?_, ?_, ?_, ?_⟩, fun j hj => ?_, fun x hx => ?_, ?_⟩
  · show (md_up1 (f_fresh_M (md_up1 M 2 1) 0 (-1) 0) 29 0).1 f = _
    rw [md_up1_ne _ h2, f_fresh_1, md_up1_ne _ h1]
  · show (md_up1 (f_fresh_M (md_up1 M 2 1) 0 (-1) 0) 29 0).1 2 = _
    rw [md_up1_ne _ (by decide), f_fresh_1, md_up1_at]
  · show (md_up1 (f_fresh_M (md_up1 M 2 1) 0 (-1) 0) 29 0).1 29 = _
    rw [md_up1_at]
  · rw [eg 3 0 (by decide) (by decide)]; simp [f_fr1, md_up2, md_up1]
  · rw [eg 4 0 (by decide) (by decide)]; simp [f_fr1, md_up2, md_up1]
  · rw [eg 5 0 (by decide) (by decide)]; simp [f_fr1, md_up2, md_up1]
  · rw [eg 6 0 (by decide) (by decide)]; simp [f_fr1, md_up2, md_up1]
  · rw [eg 7 0 (by decide) (by decide)]; simp [f_fr1, md_up2, md_up1]
  · rw [eg 8 0 (by decide) (by decide)]; simp [f_fr1, md_up2, md_up1]
  · rw [eg 11 0 (by decide) (by decide)]; simp [f_fr1, md_up2, md_up1]
  · unfold f_clear_M
    rw [e3]
    rw [(nohad_X _ 60).2 9 (by decide), md_up1_2, fr2_9 hj, if_pos rfl]
  · show (if 23 = 23 ∧ x < 60 then (0 : Int32) else _) = 0
    rw [if_pos ⟨rfl, hx⟩]
  · funext x
    rw [eg 0 x (by decide) (by decide)]
    simp [f_fr1, md_up2, md_up1]
theorem IV_clear : IV (f_clear_M M) (.leaf ()) 1 ∧ LK ((f_clear_M M).2 6) (bt_root (.leaf ())) := by
  obtain ⟨g1, g2, g29, ⟨g3, g4, g5, g6, g7, g8, g11⟩, g9, g23, g0⟩ := clear_f (M := M)
  generalize f_clear_M M = N at *
  refine ⟨⟨⟨g2, ⟨⟨by decide, g4, g5, g7, trivial, trivial⟩, by simp [bt_pre], rfl, by decide⟩, fun i hi => ?_⟩, fun i hi => ?_⟩, ⟨g6, trivial, trivial⟩⟩
  · have : i = 0 := by omega
    subst this
    simp [bt_pre]
  · have : i = 0 := by omega
    subst this
    exact ⟨fun _ => ⟨g4, g3, g8⟩, fun q => absurd rfl q, by rw [g3]; decide, fun _ => g5, fun _ => g11, ⟨0, by decide, g11⟩, rng_new (by decide) g9⟩
theorem text_o {n t f : Nat} (h1 : ¬ f = 10) (h2 : ¬ f = 11) : (f_text_M M n t).2 f = M.2 f := by
  funext x
  unfold f_text_M
  rw [md_up1_2, md_up2_ne _ h2]
  show (if f = 10 ∧ _ then _ else _) = _
  rw [if_neg (fun q => h1 q.1)]
theorem text_11 {n t x : Nat} : (f_text_M M n t).2 11 x = if x = n then nI t else M.2 11 x := by
  unfold f_text_M
  rw [md_up1_2]
  by_cases c : x = n
  · rw [if_pos c, c, md_up2_at]
  · rw [if_neg c, md_up2_off _ _ c]
    simp [md_cp]
theorem text_10 {n t x : Nat} : (f_text_M M n t).2 10 x = if 120 * n ≤ x ∧ x < 120 * n + t then (M.2 0 (x - 120 * n)).toInt8.toInt32 else M.2 10 x := by
  unfold f_text_M
  rw [md_up1_2, md_up2_ne _ (by decide)]
  show (if 10 = 10 ∧ _ then _ else _) = _
  by_cases c : 120 * n ≤ x ∧ x < 120 * n + t
  · rw [if_pos c, if_pos ⟨rfl, c⟩]
  · rw [if_neg c, if_neg (fun q => c q.2)]
theorem IV.text {t : Nat} (h : IV M K nn) (hp : p < nn) (ht : t ≤ 120) (h3 : M.2 3 p = 1) : IV (f_text_M M p t) K nn := by
  obtain ⟨⟨n1, ⟨n2, n3, n4, n5⟩, n6⟩, hv⟩ := h
  refine ⟨⟨?_, ⟨by rw [text_o (f := 4) (by decide) (by decide), text_o (f := 5) (by decide) (by decide), text_o (f := 7) (by decide) (by decide)]; exact n2, n3, n4, n5⟩, n6⟩, fun i hi => ?_⟩
  · show (md_up1 _ 1 0).1 2 = _
    rw [md_up1_ne _ (by decide), md_up2_1]
    exact n1
  · obtain ⟨v1, v2, v3, v4, v5, v6, v7⟩ := hv i hi
    have e3 := text_o (M := M) (n := p) (t := t) (f := 3) (by decide) (by decide)
    have e4 := text_o (M := M) (n := p) (t := t) (f := 4) (by decide) (by decide)
    have e5 := text_o (M := M) (n := p) (t := t) (f := 5) (by decide) (by decide)
    have e8 := text_o (M := M) (n := p) (t := t) (f := 8) (by decide) (by decide)
    have e9 := text_o (M := M) (n := p) (t := t) (f := 9) (by decide) (by decide)
    refine ⟨by rw [e3, e4, e8]; exact v1, by rw [e3, e4, e8]; exact v2, by rw [e3]; exact v3, by rw [e3, e5]; exact v4, fun q => ?_, ?_, of_eq (by omega) (fun j _ => by rw [e9]) v7⟩
    · rw [e3] at q
      rw [text_11, if_neg (fun x => q (by rw [x]; exact h3))]
      exact v5 q
    · by_cases c : i = p
      · exact ⟨t, ht, by rw [text_11, if_pos c]⟩
      · obtain ⟨b, b1, b2⟩ := v6
        exact ⟨b, b1, by rw [text_11, if_neg c]; exact b2⟩
end N58
