/-! the reference: lay, widths and words (by hand: wip/whole/gen/m27.py) -/
def f_wv (M : md_S) (i : Nat) (k : bt) : Int32 := if ¬ M.2 12 i = 4 then f_more (f_wideOf M i k) (2 * f_edges M (nI i)) else (if ¬ f_told M (nI i) (f_inner M (M.2 14 i)) = -1 then f_told M (nI i) (f_inner M (M.2 14 i)) else 8)
def f_hv (M : md_S) (i : Nat) : Int32 := if ¬ f_of M (nI i) 3 = -1 then f_of M (nI i) 3 else 8
def X_E : List Nat := [17, 18, 28, 30, 31, 32, 35, 36]
theorem of_same {M M' : md_S} (h9 : M'.2 9 = M.2 9) (a b : Int32) : f_of M' a b = f_of M a b := by
  unfold f_of
  rw [h9]
theorem ol_same {M M' : md_S} (h9 : M'.2 9 = M.2 9) (h10 : M'.2 10 = M.2 10) (h11 : M'.2 11 = M.2 11) (i : Nat) (k : bt) : f_ol M' i k = f_ol M i k := by
  have e : by_of M' = by_of M := funext (by_same h10 h11)
  unfold f_ol ol_fd
  rw [e, of_same h9]
theorem f_wv_same {M M' : md_S} (h : md_X [29] X_E M M') {i : Nat} {k : bt} (hb : M'.2 17 (M.2 14 i).toNatClampNeg = M.2 17 (M.2 14 i).toNatClampNeg) : f_wv M' i k = f_wv M i k := by
  have h9 := h.2 9 (by decide)
  have h12 := h.2 12 (by decide)
  have h13 := h.2 13 (by decide)
  have h14 := h.2 14 (by decide)
  have he : ∀ a, f_edges M' a = f_edges M a := fun a => by
    unfold f_edges
    rw [of_same h9, of_same h9]
  have hin : f_inner M' (M.2 14 i) = f_inner M (M.2 14 i) := by
    unfold f_inner
    rw [hb, he]
  have ht : ∀ a b, f_told M' a b = f_told M a b := fun a b => by
    unfold f_told
    rw [of_same h9]
  unfold f_wv f_wideOf
  rw [h12, h13, h14, hin, ht, he, of_same h9, ol_same h9 (h.2 10 (by decide)) (h.2 11 (by decide))]
def l1_w (M : md_S) (i : Nat) : Nat := if M.2 12 i = 6 then (ws_of M i).length else 0
def l1_ws (M : md_S) (t : bt) : Nat := ((bt_pre t).map (l1_w M)).sum
theorem l1_ws_br (M : md_S) (i : Nat) (k s : bt) : l1_ws M (.branch i k s) = l1_w M i + l1_ws M k + l1_ws M s := by
  simp [l1_ws, bt_pre, List.sum_append]
  omega
theorem l1_w_same {M M' : md_S} (h : md_X [29] X_E M M') (i : Nat) : l1_w M' i = l1_w M i := by
  unfold l1_w
  rw [h.2 12 (by decide), ws_same (h.2 9 (by decide)) (h.2 10 (by decide)) (h.2 11 (by decide))]
theorem l1_ws_same {M M' : md_S} (h : md_X [29] X_E M M') (t : bt) : l1_ws M' t = l1_ws M t := by
  unfold l1_ws
  congr 1
  apply List.map_congr_left
  intro x _
  exact l1_w_same h x
/-- what the first loop of lay makes of node i -/
def l1_N (w : Int32) (M : md_S) (i : Nat) (k : bt) (W : Nat) : Prop :=
  M.2 28 i = nI W ∧ (i = 0 → M.2 17 i = w) ∧ (¬ i = 0 → f_boxy M i → M.2 17 i = f_wv M i k ∧ (M.2 12 i = 4 → M.2 18 i = f_hv M i)) ∧ (M.2 12 i = 6 → ∀ j r, (ws_of M i)[j]? = some r → wd_at M i (f_of M (nI i) 8) (W + j) r)
def l1_F (w : Int32) (M : md_S) : bt → Nat → Prop
  | .leaf _, _ => True
  | .branch i k s, W => l1_N w M i k W ∧ l1_F w M k (W + l1_w M i) ∧ l1_F w M s (W + l1_w M i + l1_ws M k)
def l1_at (M M' : md_S) (j : Nat) : Prop := M'.2 17 j = M.2 17 j ∧ M'.2 18 j = M.2 18 j ∧ M'.2 28 j = M.2 28 j
theorem l1_at.tr {M M1 M2 : md_S} {j : Nat} (a : l1_at M M1 j) (b : l1_at M1 M2 j) : l1_at M M2 j := ⟨b.1.trans a.1, b.2.1.trans a.2.1, b.2.2.trans a.2.2⟩
theorem l1_N_same {M M' : md_S} {w : Int32} {i W : Nat} {k : bt} (h : md_X [29] X_E M M') (h1 : l1_at M M' i) (hb : ¬ i = 0 → M'.2 17 (M.2 14 i).toNatClampNeg = M.2 17 (M.2 14 i).toNatClampNeg) (hw : ∀ j, j < W + l1_w M i → wd_sm M M' j) (hN : l1_N w M i k W) : l1_N w M' i k W := by
  obtain ⟨n1, n2, n3, n4⟩ := hN
  obtain ⟨a1, a2, a3⟩ := h1
  have hbx : f_boxy M' i ↔ f_boxy M i := by
    unfold f_boxy f_isBox
    rw [h.2 12 (by decide)]
  refine ⟨a3.trans n1, fun e => a1.trans (n2 e), fun e q => ?_, fun h6 j r hr => ?_⟩
  · rw [f_wv_same h (hb e), a1, a2, h.2 12 (by decide)]
    have : f_hv M' i = f_hv M i := by
      unfold f_hv
      rw [of_same (h.2 9 (by decide))]
    rw [this]
    exact n3 e (hbx.mp q)
  · rw [h.2 12 (by decide)] at h6
    rw [ws_same (h.2 9 (by decide)) (h.2 10 (by decide)) (h.2 11 (by decide))] at hr
    rw [of_same (h.2 9 (by decide))]
    obtain ⟨b1, b2, b3, b4, b5⟩ := n4 h6 j r hr
    have hj : j < l1_w M i := by
      unfold l1_w
      rw [if_pos h6]
      exact (List.getElem?_eq_some_iff.mp hr).1
    obtain ⟨c1, c2, c3, c4, c5⟩ := hw (W + j) (by omega)
    exact ⟨c1.trans b1, c2.trans b2, c3.trans b3, c4.trans b4, c5.trans b5⟩
def l1_V (w : Int32) (M M' : md_S) (i : Nat) (k : bt) (W : Nat) : Prop := md_X [29] X_E M M' ∧ M'.1 29 = nI (W + l1_w M i) ∧ (∀ j, j < W → wd_sm M M' j) ∧ (∀ j, ¬ j = i → l1_at M M' j) ∧ l1_N w M' i k W
theorem c_l1 {xs : List Int32} {mo : Nat} {ad : Nat → Nat} (hD : md_D mo ad) {h0 : am_H} {d : Nat} {Q : Option Value → md_S → Prop} {M : md_S} {i ord nn W : Nat} {p w : Int32} {k s : bt} {o3 : Option Value} (hR : bt_R (M.2 4) (M.2 5) (M.2 7) p (.branch i k s)) (hy : ∀ x ∈ i :: bt_pre k, by_ok M x) (hn : i ∉ bt_pre k) (hb : ¬ i = 0 → ∃ q, q < 60 ∧ ¬ q = i ∧ M.2 14 i = nI q) (hr : i = 0 → ¬ M.2 12 i = 6)
    (h22 : M.1 22 = nI nn) (h60 : nn ≤ 60) (ho : ord < nn) (hoi : M.2 21 ord = nI i) (h29 : M.1 29 = nI W) (hW : W + l1_w M i ≤ 3700)
    (hk : ∀ M' o3, l1_V w M M' i k W → md_wp xs mo ad h0 (d + 11) Q I115 26 [some (.ref mo), some (.int w), some (.int (nI (ord + 1))), o3] [] M') : md_wp xs mo ad h0 (d + 11) Q I115 26 [some (.ref mo), some (.int w), some (.int (nI ord)), o3] [] M := by
  have hi : i < 60 := hR.1
  have hci : (nI i).toNatClampNeg = i := nI_clamp (by omega)
  have hz : nI i = 0 ↔ i = 0 := by rw [← nI_0, nI_eq (by omega) (by decide)]
  refine vc115_26 hD ⟨fun q => absurd q (by rw [h22]; exact nI_ge ho (by omega)), fun _ => ?_⟩
  rw [nI_clamp (show ord < 2 ^ 31 by omega), hoi, hci, h29, nI_1]
  refine ⟨vp_nI (by omega) (by decide), vp_nI hi (by decide), ?_⟩
  intro M1 e1
  have x1 : md_X [29] X_E M M1 := by rw [e1]; exact md_X.rf.up2 (by decide) _ _
  have at1 : ∀ j, ¬ j = i → l1_at M M1 j := by
    intro j hj
    rw [e1]
    exact ⟨by simp [md_up2], by simp [md_up2], by simp [md_up2, hj]⟩
  have a28 : M1.2 28 i = nI W := by rw [e1, md_up2_at]
  have sm1 : ∀ j, wd_sm M M1 j := by
    intro j
    rw [e1]
    refine ⟨?_, ?_, ?_, ?_, ?_⟩ <;> rw [md_up2_ne _ (by decide)]
  have b29 : M1.1 29 = nI W := by rw [e1]; exact h29
  have l4 : M1.2 4 = M.2 4 := x1.2 4 (by decide)
  have hR1 : bt_R (M1.2 4) (M1.2 5) (M1.2 7) p (.branch i k s) := by rw [l4, x1.2 5 (by decide), x1.2 7 (by decide)]; exact hR
  have hy1 : ∀ x ∈ i :: bt_pre k, by_ok M1 x := fun x hx => by
    obtain ⟨c, c1, c2⟩ := hy x hx
    exact ⟨c, c1, by rw [x1.2 11 (by decide)]; exact c2⟩
  -- a box or a piece
  have wid : ¬ i = 0 → f_boxy M1 i → md_C xs mo ad (d + 11) 127 [.int (nI i)] M1 (fun v N1 => v = none ∧ md_wp xs mo ad h0 (d + 11) Q I115 26 [some (.ref mo), some (.int w), some (.int (nI (ord + 1))), some (.int (nI i))] [] N1) := by
    intro h0i hbx
    obtain ⟨q, hq, hqi, hbq⟩ := hb h0i
    have hbq1 : M1.2 14 i = nI q := by rw [x1.2 14 (by decide)]; exact hbq
    refine c_widen hD hR1 hy1 hn (by rw [hbq1]; exact vp_nI hq (by decide)) _ ⟨rfl, ?_⟩
    refine hk _ _ ?_
    have x2 : md_X [29] X_E M1 (f_widen_M M1 i k) := by
      unfold f_widen_M
      split
      · exact md_X.rf.up2 (by decide) _ _
      · exact (md_X.rf.up2 (by decide) _ _).up2 (by decide) _ _
    have at2 : ∀ j, ¬ j = i → l1_at M1 (f_widen_M M1 i k) j := by
      intro j hj
      unfold f_widen_M
      split
      · exact ⟨by simp [md_up2, hj], by simp [md_up2], by simp [md_up2]⟩
      · exact ⟨by simp [md_up2, hj], by simp [md_up2, hj], by simp [md_up2]⟩
    have v17 : (f_widen_M M1 i k).2 17 i = f_wv M1 i k := by
      unfold f_widen_M f_wv
      split
      · rw [md_up2_at]
      · rw [md_up2_ne _ (by decide), md_up2_at]
    have hwv : f_wv (f_widen_M M1 i k) i k = f_wv M1 i k := f_wv_same x2 (by rw [hbq1, nI_clamp (by omega)]; exact (at2 q hqi).1)
    have h6 : ¬ M.2 12 i = 6 := by
      intro e
      rcases hbx with q | q
      · apply q
        unfold f_isBox
        rw [hci, x1.2 12 (by decide), e]
        rfl
      · rw [x1.2 12 (by decide), e] at q
        exact absurd q (by decide)
    have hw0 : l1_w M i = 0 := by unfold l1_w; rw [if_neg h6]
    refine ⟨x1.tr x2, ?_, fun j _ => (sm1 j).tr ?_, fun j hj => (at1 j hj).tr (at2 j hj), ?_, fun e => absurd e h0i, fun _ _ => ⟨v17.trans hwv.symm, fun h4 => ?_⟩, fun e => ?_⟩
    · rw [hw0, Nat.add_zero]
      unfold f_widen_M
      split <;> exact b29
    · unfold f_widen_M
      split
      · refine ⟨?_, ?_, ?_, ?_, ?_⟩ <;> simp [md_up2]
      · refine ⟨?_, ?_, ?_, ?_, ?_⟩ <;> simp [md_up2]
    · rw [show (f_widen_M M1 i k).2 28 i = M1.2 28 i by
        unfold f_widen_M
        split <;> simp [md_up2]]
      exact a28
    · rw [x2.2 12 (by decide)] at h4
      have : f_hv (f_widen_M M1 i k) i = f_hv M1 i := by
        unfold f_hv
        rw [of_same (x2.2 9 (by decide))]
      rw [this]
      unfold f_widen_M f_hv
      rw [if_neg (fun q => q h4), md_up2_at]
    · rw [x2.2 12 (by decide), x1.2 12 (by decide)] at e
      exact absurd e h6
  refine ⟨fun hi0 => ?_, fun hi0 => ?_⟩
  · have h0i : ¬ i = 0 := fun e => hi0 (hz.mpr e)
    refine ⟨fun c1 => wid h0i (Or.inl c1), fun c1 => ⟨fun c2 => ⟨fun c3 => ?_, fun c3 => ?_⟩, fun c2 => wid h0i (Or.inr (Classical.not_not.mp c2))⟩⟩
    · have h6 : ¬ M.2 12 i = 6 := by rw [← x1.2 12 (by decide)]; exact c3
      refine hk M1 _ ⟨x1, ?_, fun j _ => sm1 j, at1, a28, fun e => absurd e h0i, fun _ q => absurd q (fun q => q.elim c1 c2), fun e => absurd e c3⟩
      rw [b29, l1_w, if_neg h6, Nat.add_zero]
    · have c3 : M1.2 12 i = 6 := Classical.not_not.mp c3
      have h6 : M.2 12 i = 6 := by rw [← x1.2 12 (by decide)]; exact c3
      have ews : ws_of M1 i = ws_of M i := ws_same (x1.2 9 (by decide)) (x1.2 10 (by decide)) (x1.2 11 (by decide)) i
      have elw : l1_w M i = (ws_of M1 i).length := by rw [l1_w, if_pos h6, ews]
      refine c_split hD hi (hy1 i (by simp)) b29 (by rw [← elw]; exact hW) _ (fun M2 hP => ⟨rfl, ?_⟩)
      obtain ⟨p1, p2, p3, p4⟩ := hP
      have x2 : md_X [29] X_E M1 M2 := p1.sub (by decide) (by decide)
      refine hk M2 _ ⟨x1.tr x2, by rw [p2, elw], fun j hj => (sm1 j).tr (p3 j hj), fun j hj => (at1 j hj).tr ⟨by rw [p1.2 17 (by decide)], by rw [p1.2 18 (by decide)], by rw [p1.2 28 (by decide)]⟩, by rw [p1.2 28 (by decide)]; exact a28, fun e => absurd e h0i, fun _ q => ?_, fun _ j r hr => ?_⟩
      · exfalso
        unfold f_boxy f_isBox at q
        rw [p1.2 12 (by decide), hci, c3] at q
        rcases q with q | q
        · exact q rfl
        · exact absurd q (by decide)
      · rw [ws_same (p1.2 9 (by decide)) (p1.2 10 (by decide)) (p1.2 11 (by decide))] at hr
        rw [of_same (p1.2 9 (by decide))]
        exact p4 j r hr
  · have h0i : i = 0 := hz.mp (Classical.not_not.mp hi0)
    intro M2 e2
    have e2 : M2 = md_up2 M1 17 0 w := e2
    have x2 : md_X [29] X_E M1 M2 := by rw [e2]; exact md_X.rf.up2 (by decide) _ _
    refine hk M2 _ ⟨x1.tr x2, ?_, fun j _ => (sm1 j).tr ?_, fun j hj => (at1 j hj).tr ?_, ?_, fun _ => ?_, fun q => absurd h0i q, fun e => ?_⟩
    · rw [l1_w, if_neg (hr h0i), Nat.add_zero, e2]
      exact b29
    · rw [e2]
      refine ⟨?_, ?_, ?_, ?_, ?_⟩ <;> rw [md_up2_ne _ (by decide)]
    · rw [e2]
      exact ⟨md_up2_off _ _ (by omega) _, by rw [md_up2_ne _ (by decide)], by rw [md_up2_ne _ (by decide)]⟩
    · rw [e2, md_up2_ne _ (by decide)]
      exact a28
    · rw [e2, h0i, md_up2_at]
    · rw [x2.2 12 (by decide), x1.2 12 (by decide)] at e
      exact absurd e (hr h0i)
