/-! the reference: modes whole; oneLine (by hand: wip/whole/gen/m12.py) -/
/-- the reference's links hold the tree T, its root 0 -/
def md_T (M : md_S) (K : bt) (nn : Nat) : Prop := bt_R (M.2 4) (M.2 5) (M.2 7) (-1) (.branch 0 K (.leaf ())) ∧ (bt_pre (.branch 0 K (.leaf ()))).Nodup ∧ (bt_pre (.branch 0 K (.leaf ()))).length = nn ∧ nn ≤ 60
theorem md_T_pre (K : bt) : bt_pre (.branch 0 K (.leaf ())) = 0 :: bt_pre K := by simp [bt_pre]
theorem md_T_pq {M : md_S} {K : bt} {nn : Nat} (h : md_T M K nn) : bt_pq M (.branch 0 K (.leaf ())) := by
  intro i hi h0
  obtain ⟨h1, h2, _, _⟩ := h
  rw [md_T_pre] at hi
  have hiK : i ∈ bt_pre K := by
    rcases List.mem_cons.mp hi with e | e
    · exact absurd e h0
    · exact e
  rcases bt_par h1.2.2.2.2.1 i hiK with e | ⟨q, hq, e⟩
  · rw [e]
    exact vp_nI (by decide) (by decide)
  · rw [e]
    exact vp_nI (bt_R_mem h1.2.2.2.2.1 q hq) (by decide)
def mo_F (M M' : md_S) (K : bt) (nn : Nat) : Prop := md_X [22] [12, 13, 14, 19, 20, 21] M M' ∧ M'.1 22 = nI nn ∧ mo_ord M' (.branch 0 K (.leaf ())) 0 ∧ (∀ i ∈ bt_pre (.branch 0 K (.leaf ())), mo_eq M' i) ∧ bt_all (fun i k => M'.2 3 i = 0 → mg_eq M' i k) (.branch 0 K (.leaf ()))
theorem c_modes {xs : List Int32} {mo : Nat} {ad : Nat → Nat} {d : Nat} {M : md_S} {K : bt} {nn : Nat} (hD : md_D mo ad) (hT : md_T M K nn) : ∀ Q', (∀ M', mo_F M M' K nn → Q' none M') → md_C xs mo ad (d + 6) 116 [] M Q' := by
  intro Q' hQ
  refine md_intro (ms116 xs) (Nat.le_of_ble_eq_true rfl) (fun h0 => vc116_0 hD ?_)
  intro M1 e1
  have hpq := md_T_pq hT
  obtain ⟨hR, hn, hl, h60⟩ := hT
  have x1 : md_X [22] [12, 13, 14, 21] M M1 := by rw [e1]; exact md_X.rf.up1 (by decide) _
  have l1 : M1.2 = M.2 := by rw [e1]; rfl
  have o1 : M1.1 22 = nI 0 := by rw [e1, md_up1_at]; rfl
  have hn' := hn
  rw [md_T_pre] at hn' hl
  obtain ⟨n0, nK⟩ := List.nodup_cons.mp hn'
  rw [← l1] at hR
  have hl' : (bt_pre K).length + 1 = nn := by simpa using hl
  refine c_visit (i := 0) (ord := 0) (c := -1) hD hR bh_top o1 (by decide) (fun q => absurd rfl q) (fun M2 hV => ?_)
  have l2 : M2.2 4 = M1.2 4 ∧ M2.2 5 = M1.2 5 ∧ M2.2 7 = M1.2 7 := ⟨hV.1.2 4 (by decide), hV.1.2 5 (by decide), hV.1.2 7 (by decide)⟩
  refine c_modes1 hD K M2 0 1 (-1) (by rw [l2.1, l2.2.1, l2.2.2]; exact hR.2.2.2.2.1) bh_top nK n0 (by decide) n0 hV.2.1 (by omega) (fun M3 hP => ?_)
  have hF : mo_P M1 M3 (.branch 0 K (.leaf ())) 0 := by
    refine mo_P_comp hR hn (fun q => absurd rfl q) hV hP ⟨md_X.rf, ?_, fun _ _ => rfl, ?_, fun _ _ => ⟨rfl, rfl, rfl⟩, ?_⟩
    · exact hP.2.1
    · intro j x hx
      simp [bt_pre] at hx
    · intro i hi
      cases hi
  refine vc116_7 hD ⟨fun _ => ?_, fun q => absurd rfl q⟩
  rw [hF.2.1]
  have l3 : M3.2 4 = M1.2 4 ∧ M3.2 5 = M1.2 5 ∧ M3.2 7 = M1.2 7 := ⟨hF.1.2 4 (by decide), hF.1.2 5 (by decide), hF.1.2 7 (by decide)⟩
  refine c_modes2 hD (.branch 0 K (.leaf ())) M3 (-1) 0 (by rw [l3.1, l3.2.1, l3.2.2]; exact hR) hn (fun i hi h => by rw [l3.1, l1]; exact hpq i hi h) hF.2.2.2.1 (by rw [md_T_pre]; simp; omega) (fun M4 hG => ?_)
  refine vc116_176 hD ⟨fun _ => ?_, fun q => absurd (by decide) q⟩
  refine hQ M4 ⟨?_, ?_, ?_, ?_, hG.2.2⟩
  · exact ((x1.tr hF.1).sub (by decide) (by decide)).tr (hG.1.sub (by decide) (by decide))
  · rw [hG.1.1 22 (by decide), hF.2.1, md_T_pre, Nat.zero_add, hl]
  · exact mo_ord_same (hG.1.2 21 (by decide)) hF.2.2.2.1
  · intro i hi
    have hx := hG.1
    have hat : ∀ j, mo_at M3 M4 j := fun j => ⟨by rw [hx.2 12 (by decide)], by rw [hx.2 13 (by decide)], by rw [hx.2 14 (by decide)]⟩
    exact mo_eq_congr (hx.2 3 (by decide)) (hx.2 4 (by decide)) (hx.2 9 (by decide)) (bt_R_mem hR i hi) (hat i) (fun _ => hat _) (hF.2.2.2.2.2 i hi)
/-- the bytes of node i -/
def by_of (M : md_S) (i : Nat) : List Int32 := (List.range (M.2 11 i).toNatClampNeg).map (fun j => M.2 10 (120 * i + j))
def ol_st (s : Int32) (e : Int32 × Int32 × Int32) (b : Int32) : Int32 × Int32 × Int32 := if f_blank b = 0 then (e.1 + (e.2.1 + f_glyph b * s), 0, 1) else (e.1, if e.2.2 = 0 then e.2.1 else if ¬ e.2.1 = 0 then e.2.1 else 3 * s, e.2.2)
def ol_fd (M : md_S) (s : Int32) (t : bt) (e : Int32 × Int32 × Int32) : Int32 × Int32 × Int32 := ((bt_pre t).flatMap (by_of M)).foldl (ol_st s) e
/-- the bytes are in order -/
def by_ok (M : md_S) (i : Nat) : Prop := ∃ c, c ≤ 120 ∧ M.2 11 i = nI c
theorem nI_120 (n j : Nat) : (120 : Int32) * nI n + nI j = nI (120 * n + j) := by rw [show (120 : Int32) = nI 120 from rfl, pk_mul, nI_add]
theorem c_ol_bytes {xs : List Int32} {mo : Nat} {ad : Nat → Nat} (hD : md_D mo ad) {h0 : am_H} {d : Nat} {Q : Option Value → md_S → Prop} {M : md_S} {s tp : Int32} {i c : Nat} (hi : i < 60) (hc : c ≤ 120) (he : M.2 11 i = nI c)
    {E : Int32 × Int32 × Int32} (hk : ∀ o7 o8, md_C xs mo ad (d + 3) 120 [.int (nI i), .int tp] M (fun v N1 => ∃ y1, v = some (.int y1) ∧ md_wp xs mo ad h0 (d + 3) Q I130 19 [some (.ref mo), some (.int tp), some (.int E.1), some (.int E.2.1), some (.int E.2.2), some (.int s), some (.int y1), o7, o8] [] N1)) :
    ∀ (r j : Nat) (e : Int32 × Int32 × Int32) (o8 : Option Value), j + r = c → ((by_of M i).drop j).foldl (ol_st s) e = E → md_wp xs mo ad h0 (d + 3) Q I130 28 [some (.ref mo), some (.int tp), some (.int e.1), some (.int e.2.1), some (.int e.2.2), some (.int s), some (.int (nI i)), some (.int (nI j)), o8] [] M := by
  have hci : (nI i).toNatClampNeg = i := nI_clamp (by omega)
  have hlen : (by_of M i).length = c := by simp [by_of, he, nI_clamp (show c < 2 ^ 31 by omega)]
  intro r
  induction r with
  | zero =>
    intro j e o8 hj hE
    obtain rfl : j = c := by omega
    rw [List.drop_eq_nil_of_le (by omega)] at hE
    have hE : e = E := hE
    subst hE
    refine vc130_28 hD ⟨vp_nI hi (by decide), fun _ => hk _ _, fun q => absurd (by rw [hci, he]; exact nI_le (Nat.le_refl _) (by omega)) q⟩
  | succ r ih =>
    intro j e o8 hj hE
    refine vc130_28 hD ⟨vp_nI hi (by decide), fun q => absurd q (by rw [hci, he]; exact nI_ge (by omega) (by omega)), fun _ => ?_⟩
    rw [nI_120, nI_clamp (show 120 * i + j < 2 ^ 31 by omega), nI_1]
    refine ⟨vp_nI (by omega) (by decide), ?_⟩
    intro s2 e2 s3 e3 s4 e4
    have hg : (by_of M i)[j]'(by omega) = M.2 10 (120 * i + j) := by simp [by_of]
    rw [List.drop_eq_getElem_cons (by omega), List.foldl_cons, hg] at hE
    have hst : (s2, s3, s4) = ol_st s e (M.2 10 (120 * i + j)) := by
      rw [e2, e3, e4]
      unfold ol_st
      by_cases hb : f_blank (M.2 10 (120 * i + j)) = 0
      · rw [if_pos hb, if_pos hb, if_pos hb, if_pos hb]
      · rw [if_neg hb, if_neg hb, if_neg hb, if_neg hb]
        simp only [ite_self]
    rw [← hst] at hE
    exact ih (j + 1) (s2, s3, s4) _ (by omega) hE
theorem c_ol_node {xs : List Int32} {mo : Nat} {ad : Nat → Nat} (hD : md_D mo ad) {h0 : am_H} {d : Nat} {Q : Option Value → md_S → Prop} {M : md_S} {s tp p c : Int32} {i : Nat} {k sb : bt} (hR : bt_R (M.2 4) (M.2 5) (M.2 7) p (.branch i k sb)) (hb : bh (M.2 4) (M.2 7) tp (nI i) c) (hy : by_ok M i) (e : Int32 × Int32 × Int32) (o7 o8 : Option Value)
    (hk : ∀ o7 o8, md_wp xs mo ad h0 (d + 3) Q I130 19 [some (.ref mo), some (.int tp), some (.int ((by_of M i).foldl (ol_st s) e).1), some (.int ((by_of M i).foldl (ol_st s) e).2.1), some (.int ((by_of M i).foldl (ol_st s) e).2.2), some (.int s), some (.int (bt_hd c k)), o7, o8] [] M) :
    md_wp xs mo ad h0 (d + 3) Q I130 19 [some (.ref mo), some (.int tp), some (.int e.1), some (.int e.2.1), some (.int e.2.2), some (.int s), some (.int (nI i)), o7, o8] [] M := by
  obtain ⟨n, hn, he⟩ := hy
  have hi : i < 60 := hR.1
  refine vc130_19 hD ⟨fun q => absurd q (nI_ne_m1 (by omega)), fun _ => ?_⟩
  refine c_ol_bytes hD hi hn he (fun o7 o8 => ?_) n 0 e o8 (by omega) (by rw [List.drop_zero])
  exact c_after hD hR hb _ ⟨_, rfl, hk o7 o8⟩
theorem c_ol_tree {xs : List Int32} {mo : Nat} {ad : Nat → Nat} (hD : md_D mo ad) {h0 : am_H} {d : Nat} {Q : Option Value → md_S → Prop} {M : md_S} {s tp : Int32} : ∀ (t : bt) (p b : Int32) (e : Int32 × Int32 × Int32) (o7 o8 : Option Value), bt_R (M.2 4) (M.2 5) (M.2 7) p t → bh (M.2 4) (M.2 7) tp p b → (∀ x ∈ bt_pre t, by_ok M x ∧ ¬ nI x = tp) →
    (∀ o7 o8, md_wp xs mo ad h0 (d + 3) Q I130 19 [some (.ref mo), some (.int tp), some (.int (ol_fd M s t e).1), some (.int (ol_fd M s t e).2.1), some (.int (ol_fd M s t e).2.2), some (.int s), some (.int b), o7, o8] [] M) →
    md_wp xs mo ad h0 (d + 3) Q I130 19 [some (.ref mo), some (.int tp), some (.int e.1), some (.int e.2.1), some (.int e.2.2), some (.int s), some (.int (bt_hd b t)), o7, o8] [] M := by
  intro t
  induction t with
  | leaf u =>
    intro p b e o7 o8 _ _ _ hk
    exact hk o7 o8
  | branch i k sb ihk ihs =>
    intro p b e o7 o8 hR hb hy hk
    have hs := bh_sib hR (hy i (by simp [bt_pre])).2 hb
    refine c_ol_node hD hR hs (hy i (by simp [bt_pre])).1 e o7 o8 (fun o7 o8 => ?_)
    refine ihk (nI i) _ _ o7 o8 hR.2.2.2.2.1 hs (fun x hx => hy x (by simp [bt_pre, hx])) (fun o7 o8 => ?_)
    refine ihs p b _ o7 o8 hR.2.2.2.2.2 hb (fun x hx => hy x (by simp [bt_pre, hx])) (fun o7 o8 => ?_)
    have ee : ol_fd M s (.branch i k sb) e = ol_fd M s sb (ol_fd M s k ((by_of M i).foldl (ol_st s) e)) := by
      simp [ol_fd, bt_pre, List.flatMap_cons, List.flatMap_append, List.foldl_append]
    rw [← ee]
    exact hk o7 o8
/-- the width in one line of node i with these children -/
def f_ol (M : md_S) (i : Nat) (k : bt) : Int32 := (ol_fd M (f_of M (nI i) 8) (.branch i k (.leaf ())) (0, 0, 0)).1
theorem c_oneLine {xs : List Int32} {mo : Nat} {ad : Nat → Nat} {d : Nat} {M : md_S} {i : Nat} {p : Int32} {k s : bt} (hD : md_D mo ad) (hR : bt_R (M.2 4) (M.2 5) (M.2 7) p (.branch i k s)) (hy : ∀ x ∈ i :: bt_pre k, by_ok M x) (hn : i ∉ bt_pre k) : ∀ Q', Q' (some (.int (f_ol M i k))) M → md_C xs mo ad (d + 4) 130 [.int (nI i)] M Q' := by
  intro Q' hQ
  have hi : i < 60 := hR.1
  refine md_intro (ms130 xs) (Nat.le_of_ble_eq_true rfl) (fun h0 => vc130_0 hD ⟨vp_nI hi (by decide), ?_⟩)
  refine c_ol_node (e := (0, 0, 0)) (c := -1) hD hR bh_top (hy i (by simp)) none none (fun o7 o8 => ?_)
  refine c_ol_tree hD k (nI i) (-1) _ o7 o8 hR.2.2.2.2.1 bh_top (fun x hx => ⟨hy x (by simp [hx]), fun e => ?_⟩) (fun o7 o8 => ?_)
  · have hx6 := bt_R_mem hR.2.2.2.2.1 x hx
    rw [nI_eq (by omega) (by omega)] at e
    exact hn (e ▸ hx)
  · refine vc130_19 hD ⟨fun _ => ?_, fun q => absurd rfl q⟩
    have : f_ol M i k = (ol_fd M (f_of M (nI i) 8) k ((by_of M i).foldl (ol_st (f_of M (nI i) 8)) (0, 0, 0))).1 := by
      simp [f_ol, ol_fd, bt_pre, List.flatMap_cons, List.foldl_append]
    rw [this] at hQ
    exact hQ
