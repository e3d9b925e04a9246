/-! the law: what one call of both makes (by hand: wip/whole/gen/c77.py) -/
/-- the reference's cells -/
def Km (mo : Nat) (ad : Nat → Nat) (a : Nat) : Prop := a = mo ∨ ∃ f, (md_ar f).isSome = true ∧ a = ad f
/-- what holds after i calls -/
def LQ (i : Nat) (A : cl_A) (S : cl_S) (M : md_S) (K : bt) (nn W t Wp : Nat) : Prop := INV A S M K nn W t Wp ∧ FL M nn ∧ BD S Wp (200 + 3 * i) (60000 + 150 * i) ∧ A 8 0 = 0
def OPi (xs : List Int32) (mo : Nat) (ad : Nat → Nat) (i mi mr : Nat) (as : List Value) (M : md_S) (h : am_H) : Prop := ∃ RP : Int32 → md_S → Prop, am_T (am_Bx xs) am_nm 1200 mi (.ref 0 :: as) h (fun v h1 => ∃ x, v = some (.int x) ∧ cl_Fr (Km mo ad) h h1 ∧ ∀ x' M', RP x' M' → x' = x ∧ ∃ A' S' K' nn' W' t' Wp', cl_R (Km mo ad) A' S' h1 ∧ LQ (i + 1) A' S' M' K' nn' W' t' Wp') ∧ md_C xs mo ad 1200 mr as M (fun v M' => ∃ x', v = some (.int x') ∧ RP x' M')
theorem BD.mono {S : cl_S} {Wp B1 B2 C1 C2 : Nat} (h : BD S Wp B1 B2) (h1 : B1 ≤ C1) (h2 : B2 ≤ C2) : BD S Wp C1 C2 := by
  obtain ⟨a, b, c⟩ := h
  exact ⟨a, by omega, by omega⟩
theorem BD.add {S S' : cl_S} {Wp B1 B2 a b : Nat} (h : BD S Wp B1 B2) (hc : cap S' = cap S) (e : S'.2.2 = (S.2.2.1 + a, S.2.2.2 + b)) : BD S' Wp (B1 + a) (B2 + b) := by
  obtain ⟨x, y, z⟩ := h
  unfold BD
  rw [hc, e]
  exact ⟨x, by simp only; omega, by simp only; omega⟩
section OPS
variable {xs : List Int32} {mo : Nat} {ad : Nat → Nat} {i : Nat} {A : cl_A} {S S' : cl_S} {M M' : md_S} {K : bt} {nn W t t' Wp : Nat} {h : am_H}
theorem op_mk {mi mr : Nat} {as : List Value} (hR : cl_R (Km mo ad) A S h) (h8 : A 8 0 = 0) (RP : Int32 → md_S → Prop) (HC : cl_C xs (Km mo ad) 1200 mi (cl_rf A 8 0 :: as) A S (fun v A' S' => ∃ x, v = some (.int x) ∧ ∀ x' M', RP x' M' → x' = x ∧ ∃ K' nn' W' t' Wp', LQ (i + 1) A' S' M' K' nn' W' t' Wp')) (HM : md_C xs mo ad 1200 mr as M (fun v M' => ∃ x', v = some (.int x') ∧ RP x' M')) : OPi xs mo ad i mi mr as M h := by
  refine ⟨RP, ?_, HM⟩
  have e : cl_rf A 8 0 = .ref 0 := by
    unfold cl_rf
    rw [if_neg (by decide)]
    show Value.ref (A 8 0) = _
    rw [h8]
  have := HC h hR
  rw [e] at this
  refine am_T_mono ?_ this
  rintro v h1 ⟨A', S', k1, k2, x, k3, k4⟩
  refine ⟨x, k3, k2, fun x' M' rp => ?_⟩
  obtain ⟨e1, K', nn', W', t', Wp', e2⟩ := k4 x' M' rp
  exact ⟨e1, A', S', K', nn', W', t', Wp', k1, e2⟩
theorem LQ.sm (h : LQ i A S M K nn W t Wp) (hI : INV A S' M' K nn W t' Wp) (hF : FL M' nn) {cs : List Nat} (e : cl_X cs S S') (hc : ∀ g ∈ [1001, 2501], g ∉ cs) : LQ (i + 1) A S' M' K nn W t' Wp := ⟨hI, hF, (BD_same h.2.2.1 e hc).mono (by omega) (by omega), h.2.2.2⟩
theorem LQ.nx (h : LQ i A S M K nn W t Wp) : LQ (i + 1) A S M K nn W t Wp := ⟨h.1, h.2.1, h.2.2.1.mono (by omega) (by omega), h.2.2.2⟩
theorem INV.sm (h : INV A S M K nn W t Wp) (hC : CR S' M' K nn W t') (h6 : M'.2 6 = M.2 6) (e : cl_X X_sm S S') : INV A S' M' K nn W t' Wp := ⟨hC, by rw [h6]; exact h.2.1, ⟨h.2.2.1.1.x e (by decide), h.2.2.1.2.1, h.2.2.1.2.2⟩, h.2.2.2.x e (by decide)⟩
theorem FL.of (h : FL M nn) (e3 : M'.2 3 = M.2 3) (e9 : M'.2 9 = M.2 9) : FL M' nn := by
  unfold FL at h ⊢
  rw [e3, e9]
  exact h
theorem feed_o {a b c e f : Int32} {g : Nat} (hg : ¬ g = 0) : (f_feed_M M t a b c e f).2 g = M.2 g := by
  have h1 : ∀ (M : md_S) t b, (f_pf1 M t b).2 g = M.2 g := fun M t b => by
    unfold f_pf1
    rw [md_up1_2, md_up2_ne _ hg]
  unfold f_feed_M f_pf
  simp only [h1]
theorem op_feed (hD : md_D mo ad) (hL : LQ i A S M K nn W t Wp) (hR : cl_R (Km mo ad) A S h) (a b c e f : Int32) : OPi xs mo ad i 12 107 [.int a, .int b, .int c, .int e, .int f] M h := by
  have hC := hL.1.1
  have h5 := hC.2.2.2.2.1
  refine op_mk hR hL.2.2.2 (fun x' M' => x' = (if t ≤ 380 then nI (t + 20) else -1) ∧ M' = (if t ≤ 380 then f_feed_M M t a b c e f else M)) (kk_feed (d := 1198) hC hL.1.2.2.2.2.1 _ (fun S' t' k1 k2 k3 => ⟨_, rfl, ?_⟩)) (c_feed (d := 1198) hD h5.2.1 h5.2.2.1 _ ⟨_, rfl, rfl, rfl⟩)
  rintro x' M' ⟨rfl, rfl⟩
  have eo : ∀ g, ¬ g = 0 → (if t ≤ 380 then f_feed_M M t a b c e f else M).2 g = M.2 g := fun g hg => by
    split
    · exact feed_o hg
    · rfl
  refine ⟨rfl, K, nn, W, t', Wp, hL.sm ⟨k1, by rw [eo 6 (by decide)]; exact hL.1.2.1, ⟨hL.1.2.2.1.1.x k2 (by decide), hL.1.2.2.1.2.1, hL.1.2.2.1.2.2⟩, hL.1.2.2.2.fd k2 k3⟩ (hL.2.1.of (eo 3 (by decide)) (eo 9 (by decide))) k2 (by decide)⟩
theorem end_o {x : Int32} : (f_end_M M x).2 = M.2 := by
  unfold f_end_M
  split
  · rfl
  · split <;> rfl
theorem op_end (hD : md_D mo ad) (hL : LQ i A S M K nn W t Wp) (hR : cl_R (Km mo ad) A S h) (a : Int32) : OPi xs mo ad i 14 109 [.int a] M h := by
  refine op_mk hR hL.2.2.2 (fun x' M' => x' = f_end M a ∧ M' = f_end_M M a) (kk_end (d := 1199) hL.1.1 _ (fun S' t' k1 k2 => ⟨_, rfl, ?_⟩)) (c_f_end (d := 1199) hD _ ⟨_, rfl, rfl, rfl⟩)
  rintro x' M' ⟨rfl, rfl⟩
  exact ⟨rfl, K, nn, W, t', Wp, hL.sm (hL.1.sm k1 (by rw [end_o]) k2) (hL.2.1.of (by rw [end_o]) (by rw [end_o])) k2 (by decide)⟩
theorem Km_lt (hM : md_R mo ad M h) (hR : cl_R (Km mo ad) A S h) : ∀ a, Km mo ad a → a < S.2.2.1 := by
  intro a ha
  rw [← hR.2.2.1]
  rcases ha with rfl | ⟨f, hf, rfl⟩
  · exact (List.getElem?_eq_some_iff.mp hM.1).1
  · cases e : md_ar f with
    | none => rw [e] at hf; cases hf
    | some q => exact (List.getElem?_eq_some_iff.mp (hM.2 f q.1 q.2 e)).1
theorem LQ.wp (h : LQ i A S M K nn W t Wp) : Wp ≤ 3600 := h.1.2.2.1.2.2
theorem LQ.cells (h : LQ i A S M K nn W t Wp) (hi : i ≤ 600) : S.2.2.1 + 2 < 2000000 := by
  have h1 := h.2.2.1.2.1
  have h2 := h.wp
  omega
theorem FL_clear : FL (f_clear_M M) 1 := by
  obtain ⟨_, _, _, ⟨g3, _⟩, g9, _⟩ := clear_f (M := M)
  refine ⟨Or.inl ?_, fun i hi c => ?_⟩
  · exact g9 0 (by decide)
  · have : i = 0 := by omega
    subst this
    exact absurd g3 c
theorem FL_node {p : Nat} {k : Int32} (hF : FL M nn) (hp : p < nn) (h60 : nn < 60) : FL (f_node_M M nn (nI p) k) (nn + 1) := by
  obtain ⟨_, g3, _, _, _, _, _, g9, _⟩ := node_f (M := M) (k := k) hp h60
  refine ⟨?_, fun i hi c => ?_⟩
  · have := g9 0 0 (by decide)
    rw [if_neg (by omega)] at this
    rw [show 0 = 9 * 0 + 0 from rfl, this]
    exact hF.1
  · rw [g9 i 1 (by decide)]
    by_cases q : i = nn
    · rw [if_pos q]
      rfl
    · rw [if_neg q]
      rw [g3, if_neg q] at c
      exact hF.2 i (by omega) c
theorem FL_set {p : Nat} {w v : Int32} (hF : FL M nn) (hp : p < nn) (h60 : nn ≤ 60) (hv : iv M p) (hm : ¬ f_mayBe M (nI p) w v = 0) : FL (f_set_M M p w.toNatClampNeg v) nn := by
  have hw := (md_vin (f_mayBe_w hm)).2
  have hcp : (nI p).toNatClampNeg = p := nI_clamp (by omega)
  refine ⟨?_, fun i hi c => ?_⟩
  · unfold f_set_M
    by_cases q : 0 = 9 * p + w.toNatClampNeg
    · have hp0 : p = 0 := by omega
      have hw0 : w.toNatClampNeg = 0 := by omega
      have ew : w = 0 := by
        have := nat_of (md_vin (f_mayBe_w hm)).1
        rw [hw0] at this
        exact this
      subst hp0
      subst ew
      have e0 : (md_up2 M 9 (9 * 0 + (0 : Int32).toNatClampNeg) v).2 9 0 = v := md_up2_at M 9 0 v
      rw [e0]
      unfold f_mayBe at hm
      rw [if_pos rfl, if_neg (not_not_intro (show nI 0 = (0 : Int32) from rfl))] at hm
      by_cases v0 : v = 0
      · exact Or.inl v0
      · rw [if_neg v0] at hm
        by_cases v2 : v = 2
        · exact Or.inr v2
        · rw [if_pos v2] at hm
          exact absurd rfl hm
    · rw [md_up2_off _ _ q]
      exact hF.1
  · rw [f_set_o (by decide)] at c
    unfold f_set_M
    by_cases q : 9 * i + 1 = 9 * p + w.toNatClampNeg
    · have hip : i = p := by omega
      have hw1 : w.toNatClampNeg = 1 := by omega
      have ew : w = 1 := by
        have := nat_of (md_vin (f_mayBe_w hm)).1
        rw [hw1] at this
        exact this
      subst hip
      subst ew
      rw [show 9 * i + 1 = 9 * i + (1 : Int32).toNatClampNeg from rfl, md_up2_at]
      unfold f_mayBe at hm
      rw [if_neg (by decide), if_pos rfl, hcp] at hm
      by_cases v0 : v = 0
      · exact v0
      · rw [if_neg v0] at hm
        by_cases x0 : nI i ≤ 0
        · rw [if_pos x0] at hm
          exact absurd rfl hm
        · rw [if_neg x0, if_pos c] at hm
          exact absurd rfl hm
    · rw [md_up2_off _ _ q]
      exact hF.2 i hi c
theorem op_node (hD : md_D mo ad) (hL : LQ i A S M K nn W t Wp) (hR : cl_R (Km mo ad) A S h) (hM : md_R mo ad M h) (hi : i ≤ 600) (a k : Int32) : OPi xs mo ad i 17 110 [.int a, .int k] M h := by
  have hC := hL.1.1
  have h60 := hC.2.1.1
  refine op_mk hR hL.2.2.2 (fun x' M' => (f_node_ok M a k ∧ x' = nI nn ∧ M' = f_node_M M nn a k) ∨ (¬ f_node_ok M a k ∧ x' = -1 ∧ M' = M)) (kk_node (d := 1196) hL.1 (Km_lt hM hR) (hL.cells hi) _ (fun ok K' S' k1 k2 k3 k4 => ⟨_, rfl, ?_⟩) (fun no => ⟨_, rfl, ?_⟩)) (c_node (d := 1196) hD hC.1.1.1 h60 (fun j hj c => ?_) _ (fun ok => ⟨_, rfl, Or.inl ⟨ok, rfl, rfl⟩⟩) (fun no => ⟨_, rfl, Or.inr ⟨no, rfl, rfl⟩⟩))
  · rintro x' M' (⟨_, rfl, rfl⟩ | ⟨no, _⟩)
    · refine ⟨rfl, K', nn + 1, W, t, Wp, k1, ?_, (hL.2.2.1.add k3 k2).mono (by omega) (by omega), ?_⟩
      · obtain ⟨p, hp, rfl⟩ := (there_iff hC.1.1.1 h60 a).mp ok.1
        exact FL_node hL.2.1 hp k4
      · rw [nA_o (by decide) (by decide) (by decide)]
        exact hL.2.2.2
    · exact absurd ok no
  · rintro x' M' (⟨ok, _⟩ | ⟨_, rfl, rfl⟩)
    · exact absurd ok no
    · exact ⟨rfl, K, nn, W, t, Wp, hL.nx⟩
  · rcases kids_lt hC hL.1.2.1 hj 6 (by decide) with q | ⟨y, hy, q⟩
    · exact absurd q c
    · rw [q]
      exact vp_nI (by omega) (by decide)
theorem op_text (hD : md_D mo ad) (hL : LQ i A S M K nn W t Wp) (hR : cl_R (Km mo ad) A S h) (hM : md_R mo ad M h) (a : Int32) : OPi xs mo ad i 21 112 [.int a] M h := by
  have hC := hL.1.1
  have h60 := hC.2.1.1
  have h5 := hC.2.2.2.2.1
  refine op_mk hR hL.2.2.2 (fun x' M' => (f_text_ok M a ∧ x' = nI t ∧ M' = f_text_M M a.toNatClampNeg t) ∨ (¬ f_text_ok M a ∧ x' = -1 ∧ M' = M)) (kk_text (d := 1196) hL.1 (Km_lt hM hR) _ (fun ok A' S' k1 k2 k3 k4 k5 => ⟨_, rfl, ?_⟩) (fun no => ⟨_, rfl, ?_⟩)) (c_text (d := 1198) hD hC.1.1.1 h60 h5.2.1 h5.2.2.1 _ (fun ok => ⟨_, rfl, Or.inl ⟨ok, rfl, rfl⟩⟩) (fun no => ⟨_, rfl, Or.inr ⟨no, rfl, rfl⟩⟩))
  · rintro x' M' (⟨_, rfl, rfl⟩ | ⟨no, _⟩)
    · refine ⟨rfl, K, nn, W, 0, Wp, k1, hL.2.1.of (text_o (by decide) (by decide)) (text_o (by decide) (by decide)), (hL.2.2.1.add k5 k3).mono (by omega) (by omega), ?_⟩
      rw [k2]
      exact hL.2.2.2
    · exact absurd ok no
  · rintro x' M' (⟨ok, _⟩ | ⟨_, rfl, rfl⟩)
    · exact absurd ok no
    · exact ⟨rfl, K, nn, W, t, Wp, hL.nx⟩
theorem op_set (hD : md_D mo ad) (hL : LQ i A S M K nn W t Wp) (hR : cl_R (Km mo ad) A S h) (a w v : Int32) : OPi xs mo ad i 23 113 [.int a, .int w, .int v] M h := by
  have hC := hL.1.1
  have h60 := hC.2.1.1
  refine op_mk hR hL.2.2.2 (fun x' M' => (f_set_ok M a w v ∧ x' = M.2 9 (9 * a.toNatClampNeg + w.toNatClampNeg) ∧ M' = f_set_M M a.toNatClampNeg w.toNatClampNeg v) ∨ (¬ f_set_ok M a w v ∧ x' = -2 ∧ M' = M)) (kk_set (d := 1196) hC _ (fun ok S' k1 k2 => ⟨_, rfl, ?_⟩) (fun no => ⟨_, rfl, ?_⟩)) (c_set (d := 1198) hD hC.1.1.1 h60 _ (fun ok => ⟨_, rfl, Or.inl ⟨ok, rfl, rfl⟩⟩) (fun no => ⟨_, rfl, Or.inr ⟨no, rfl, rfl⟩⟩))
  · rintro x' M' (⟨_, rfl, rfl⟩ | ⟨no, _⟩)
    · refine ⟨rfl, K, nn, W, t, Wp, hL.sm (hL.1.sm k1 (f_set_o (by decide)) k2) ?_ k2 (by decide)⟩
      obtain ⟨p, hp, rfl⟩ := (there_iff hC.1.1.1 h60 a).mp ok.1
      rw [nI_clamp (by omega)]
      exact FL_set hL.2.1 hp h60 (hC.1.2 p hp) ok.2
    · exact absurd ok no
  · rintro x' M' (⟨ok, _⟩ | ⟨_, rfl, rfl⟩)
    · exact absurd ok no
    · exact ⟨rfl, K, nn, W, t, Wp, hL.nx⟩
theorem op_box (hD : md_D mo ad) (hL : LQ i A S M K nn W t Wp) (hR : cl_R (Km mo ad) A S h) (a b : Int32) : OPi xs mo ad i 99 147 [.int a, .int b] M h := by
  have hC := hL.1.1
  have h60 := hC.2.1.1
  refine op_mk hR hL.2.2.2 (fun x' M' => x' = f_box M a b ∧ M' = M) (kk_box (d := 1198) hC _ ⟨_, rfl, ?_⟩) (c_f_box (d := 1198) hD (fun c => ?_) _ ⟨_, rfl, rfl, rfl⟩)
  · rintro x' M' ⟨rfl, rfl⟩
    exact ⟨rfl, K, nn, W, t, Wp, hL.nx⟩
  · obtain ⟨p, hp, rfl⟩ := (there_iff hC.1.1.1 h60 a).mp c
    exact vp_nI (by omega) (by decide)
theorem op_words (hD : md_D mo ad) (hL : LQ i A S M K nn W t Wp) (hR : cl_R (Km mo ad) A S h) : OPi xs mo ad i 100 148 [] M h := by
  refine op_mk hR hL.2.2.2 (fun x' M' => x' = f_words M ∧ M' = M) (kk_words (d := 1199) hL.1.1 _ ⟨_, rfl, ?_⟩) (c_f_words (d := 1199) hD _ ⟨_, rfl, rfl, rfl⟩)
  rintro x' M' ⟨rfl, rfl⟩
  exact ⟨rfl, K, nn, W, t, Wp, hL.nx⟩
theorem op_word (hD : md_D mo ad) (hL : LQ i A S M K nn W t Wp) (hR : cl_R (Km mo ad) A S h) (a b : Int32) : OPi xs mo ad i 101 149 [.int a, .int b] M h := by
  have hC := hL.1.1
  have h29 : M.1 29 = nI W := hC.2.2.2.2.2.2.2.1
  have h36 : W ≤ 3600 := hC.2.2.2.2.2.2.2.2.1
  refine op_mk hR hL.2.2.2 (fun x' M' => x' = f_word M a b ∧ M' = M) (kk_word (d := 1193) hC _ ⟨_, rfl, ?_⟩) (c_f_word (d := 1199) hD (fun c1 c2 => ?_) _ ⟨_, rfl, rfl, rfl⟩)
  · rintro x' M' ⟨rfl, rfl⟩
    exact ⟨rfl, K, nn, W, t, Wp, hL.nx⟩
  · rw [h29, Int32.lt_iff_toInt_lt, nI_toInt (by omega)] at c2
    refine fun q => q.elim c1 (fun q => ?_)
    have e : a.toNatClampNeg = a.toInt.toNat := rfl
    rw [e] at q
    omega
theorem op_line (hD : md_D mo ad) (hL : LQ i A S M K nn W t Wp) (hR : cl_R (Km mo ad) A S h) (a : Int32) : OPi xs mo ad i 102 150 [.int a] M h := by
  have hC := hL.1.1
  refine op_mk hR hL.2.2.2 (fun x' M' => x' = (if ¬ f_there M a = 0 ∧ M.2 3 a.toNatClampNeg = 0 then f_ol M a.toNatClampNeg (bt_kids (bt_root K) a.toNatClampNeg) else -1) ∧ M' = M) (kk_line (d := 1130) hC _ (fun S' k1 k2 => ⟨_, rfl, ?_⟩)) (c_line (d := 1193) hD hC.1.1 (fun x hx => ?_) _ (fun ok => ⟨_, rfl, ?_, rfl⟩) (fun no => ⟨_, rfl, ?_, rfl⟩))
  · rintro x' M' ⟨rfl, rfl⟩
    exact ⟨rfl, K, nn, W, t, Wp, hL.sm (hL.1.sm k1 rfl k2) hL.2.1 k2 (by decide)⟩
  · exact (hC.1.2 x ((md_N_iff hC.1.1 x).mpr hx)).2.2.2.2.2.1
  · exact (if_pos ok).symm
  · exact (if_neg no).symm
theorem op_margin (hD : md_D mo ad) (hL : LQ i A S M K nn W t Wp) (hR : cl_R (Km mo ad) A S h) (hM : md_R mo ad M h) (a b : Int32) : OPi xs mo ad i 103 151 [.int a, .int b] M h := by
  have hC := hL.1.1
  have hmr : ∀ Q', (f_marg_ok M a → ∀ M', mo_F M M' K nn → Q' (some (.int (if b = 0 then M'.2 19 a.toNatClampNeg else M'.2 20 a.toNatClampNeg))) M') → (¬ f_marg_ok M a → Q' (some (.int (-1))) M) → md_C xs mo ad 1200 151 [.int a, .int b] M Q' := c_margin (d := 1192) hD hC.1.1
  obtain ⟨v0, h0', M1, _, _, hF1⟩ := am_T_ex (c_modes (xs := xs) (d := 1194) hD hC.1.1.2.1 (fun v M' => mo_F M M' K nn) (fun M' hF => hF) h hM)
  by_cases ok : f_marg_ok M a
  · -- there are margins
    refine ⟨fun x' M' => mo_F M M' K nn ∧ x' = (if b = 0 then M'.2 19 a.toNatClampNeg else M'.2 20 a.toNatClampNeg), ?_, hmr _ (fun _ M' hF => ⟨_, rfl, hF, rfl⟩) (fun no => absurd ok no)⟩
    have e : cl_rf A 8 0 = .ref 0 := by
      unfold cl_rf
      rw [if_neg (by decide)]
      show Value.ref (A 8 0) = _
      rw [hL.2.2.2]
    have hp : ∀ p : {M' : md_S // mo_F M M' K nn}, am_T (am_Bx xs) am_nm 1200 103 [.ref 0, .int a, .int b] h (fun v h1 => ∃ A' S', cl_R (Km mo ad) A' S' h1 ∧ cl_Fr (Km mo ad) h h1 ∧ v = some (.int (if b = 0 then p.1.2 19 a.toNatClampNeg else p.1.2 20 a.toNatClampNeg)) ∧ A' = A ∧ S' = S) := fun p => by
      have := kk_margin (xs := xs) (Kp := Km mo ad) (A := A) (d := 1110) hC p.2 (x := a) (b := b) (fun v A' S' => v = some (.int (if b = 0 then p.1.2 19 a.toNatClampNeg else p.1.2 20 a.toNatClampNeg)) ∧ A' = A ∧ S' = S) (fun _ => ⟨rfl, rfl, rfl⟩) (fun no => absurd ok no) h hR
      rw [e] at this
      exact this
    have hall := am_T_all (ι := {M' : md_S // mo_F M M' K nn}) 1200 103 _ h _ _ (hp ⟨M1, hF1⟩) hp
    refine am_T_mono ?_ hall
    rintro v h1 ⟨⟨A', S', k1, k2, k3, rfl, rfl⟩, k4⟩
    refine ⟨_, k3, k2, ?_⟩
    rintro x' M' ⟨hF, rfl⟩
    obtain ⟨A2, S2, m1, m2, m3, rfl, rfl⟩ := k4 ⟨M', hF⟩
    refine ⟨?_, A2, S2, K, nn, W, t, Wp, m1, (hL.sm (hL.1.sm (hC.mo hF) (hF.1.2 6 (by decide)) cl_X.rf) (hL.2.1.of (hF.1.2 3 (by decide)) (hF.1.2 9 (by decide))) (cs := []) cl_X.rf (by decide))⟩
    have := m3.symm.trans k3
    exact Value.int.inj (Option.some.inj this)
  · refine op_mk hR hL.2.2.2 (fun x' M' => x' = -1 ∧ M' = M) (kk_margin (d := 1110) hC hF1 _ (fun ok' => absurd ok' ok) (fun _ => ⟨_, rfl, ?_⟩)) (hmr _ (fun ok' => absurd ok' ok) (fun _ => ⟨_, rfl, rfl, rfl⟩))
    rintro x' M' ⟨rfl, rfl⟩
    exact ⟨rfl, K, nn, W, t, Wp, hL.nx⟩
theorem lay4_o {w : Int32} {W : Nat} (h : HS M K nn W w) (a : Nat) (ha : a ∉ [15, 16, 18, 23, 24, 25, 26, 27, 33, 34, 44, 45, 47, 48, 49, 50, 51, 52]) : (f_lay4 M K W).2 a = M.2 a := by
  obtain ⟨hP, hF, hl⟩ := p2_HS h
  obtain ⟨w1, w2⟩ := wa_fold (f_lay3 M K) W
  have ew : f_lay4 M K W = (List.range W).foldl f_wa (f_lay3 M K) := rfl
  have x6 := f_bas_X (bt_pre (bt_root K)) (md_nohad (md_up2 (md_up2 (f_p2 (bt_root K) M) 15 0 0) 16 0 0) 60)
  have sub : ∀ l : List Nat, (∀ x ∈ l, x ∈ [15, 16, 18, 23, 24, 25, 26, 27, 33, 34, 44, 45, 47, 48, 49, 50, 51, 52]) → a ∉ l := fun l hl q => ha (hl a q)
  rw [ew, w1.2 a (sub _ (by decide))]
  show ((bt_pre (bt_root K)).foldl f_ba (md_nohad (md_up2 (md_up2 (f_p2 (bt_root K) M) 15 0 0) 16 0 0) 60)).2 a = _
  rw [x6.2 a (sub _ (by decide)), (nohad_X _ 60).2 a (sub _ (by decide)), md_up2_ne _ (fun q => sub [16] (by decide) (by simp [q])), md_up2_ne _ (fun q => sub [15] (by decide) (by simp [q])), hF.1 a (sub _ (by decide))]
theorem op_lay (hD : md_D mo ad) (hL : LQ i A S M K nn W t Wp) (hR : cl_R (Km mo ad) A S h) (hM : md_R mo ad M h) (hi : i ≤ 600) (w : Int32) : OPi xs mo ad i 28 115 [.int w] M h := by
  have hC := hL.1.1
  have hmr : ∀ Q', (lay_ok w → ∀ M1 M2 W, mo_F M M1 K nn → l1_P w (md_up1 M1 29 0) M2 (bt_root K) 0 → W = l1_ws M2 (bt_root K) → (∀ f, f ∉ X_L → (f_lay4 M2 K W).1 f = M2.1 f) → Q' (some (.int ((f_lay4 M2 K W).2 18 0))) (f_lay4 M2 K W)) → (¬ lay_ok w → Q' (some (.int (-1))) M) → md_C xs mo ad 1200 115 [.int w] M Q' := c_layX (d := 1188) hD hC.1.1.2.1 (fun x hx => (hC.1.2 x ((md_N_iff hC.1.1 x).mpr hx)).2.2.2.2.2.1)
  by_cases ok : lay_ok w
  · obtain ⟨v0, h0', M0, _, _, M1, M2, g1, g2, g3⟩ := am_T_ex (hmr (fun v M' => ∃ M1 M2, mo_F M M1 K nn ∧ l1_P w (md_up1 M1 29 0) M2 (bt_root K) 0 ∧ ∀ f, f ∉ X_L → (f_lay4 M2 K (l1_ws M2 (bt_root K))).1 f = M2.1 f) (fun _ M1 M2 W k1 k2 k3 k4 => ⟨M1, M2, k1, k2, by rw [← k3]; exact k4⟩) (fun no => absurd ok no) h hM)
    refine ⟨fun x' M' => ∃ M1 M2, mo_F M M1 K nn ∧ l1_P w (md_up1 M1 29 0) M2 (bt_root K) 0 ∧ (∀ f, f ∉ X_L → (f_lay4 M2 K (l1_ws M2 (bt_root K))).1 f = M2.1 f) ∧ M' = f_lay4 M2 K (l1_ws M2 (bt_root K)) ∧ x' = (f_lay4 M2 K (l1_ws M2 (bt_root K))).2 18 0, ?_, hmr _ (fun _ M1 M2 W k1 k2 k3 k4 => ⟨_, rfl, M1, M2, k1, k2, by rw [← k3]; exact k4, by rw [k3], by rw [k3]⟩) (fun no => absurd ok no)⟩
    have e : cl_rf A 8 0 = .ref 0 := by
      unfold cl_rf
      rw [if_neg (by decide)]
      show Value.ref (A 8 0) = _
      rw [hL.2.2.2]
    have hp : ∀ p : {p : md_S × md_S // mo_F M p.1 K nn ∧ l1_P w (md_up1 p.1 29 0) p.2 (bt_root K) 0 ∧ ∀ f, f ∉ X_L → (f_lay4 p.2 K (l1_ws p.2 (bt_root K))).1 f = p.2.1 f}, am_T (am_Bx xs) am_nm 1200 28 [.ref 0, .int w] h (fun v h1 => ∃ A' S', cl_R (Km mo ad) A' S' h1 ∧ cl_Fr (Km mo ad) h h1 ∧ v = some (.int ((f_lay4 p.1.2 K (l1_ws p.1.2 (bt_root K))).2 18 0)) ∧ ∃ Wp', INV A' S' (f_lay4 p.1.2 K (l1_ws p.1.2 (bt_root K))) K nn (l1_ws p.1.2 (bt_root K)) t Wp' ∧ BD S' Wp' (200 + 3 * i) (60000 + 150 * i) ∧ A' 8 = A 8) := fun p => by
      have := kk_lay (xs := xs) (Kp := Km mo ad) (A := A) (d := 398) (w := w) hL.1 hL.2.1 hL.2.2.1 (Km_lt hM hR) (by omega) (fun v A' S' => v = some (.int ((f_lay4 p.1.2 K (l1_ws p.1.2 (bt_root K))).2 18 0)) ∧ ∃ Wp', INV A' S' (f_lay4 p.1.2 K (l1_ws p.1.2 (bt_root K))) K nn (l1_ws p.1.2 (bt_root K)) t Wp' ∧ BD S' Wp' (200 + 3 * i) (60000 + 150 * i) ∧ A' 8 = A 8) (fun _ => ⟨p.1.1, p.1.2, p.2.1, p.2.2.1, p.2.2.2, fun A' S' Wp' k1 k2 k3 _ => ⟨rfl, Wp', k1, k2, k3⟩⟩) (fun no => absurd ok no) h hR
      rw [e] at this
      exact this
    have hall := am_T_all 1200 28 _ h _ _ (hp ⟨(M1, M2), g1, g2, g3⟩) hp
    refine am_T_mono ?_ hall
    rintro v h1 ⟨⟨A', S', k1, k2, k3, _⟩, k4⟩
    refine ⟨_, k3, k2, ?_⟩
    rintro x' M' ⟨N1, N2, n1, n2, n3, rfl, rfl⟩
    obtain ⟨A2, S2, m1, m2, m3, Wp2, m4, m5, m6⟩ := k4 ⟨(N1, N2), n1, n2, n3⟩
    refine ⟨Value.int.inj (Option.some.inj (m3.symm.trans k3)), A2, S2, K, nn, _, t, Wp2, m1, m4, ?_, m5.mono (by omega) (by omega), by rw [m6]; exact hL.2.2.2⟩
    obtain ⟨eM, _, _⟩ := M2_eq n1 n2
    have hHS : HS N2 K nn (l1_ws N2 (bt_root K)) w := HS_of hC.1 n1 n2 rfl ok
    have e3 : (f_lay4 N2 K (l1_ws N2 (bt_root K))).2 3 = M.2 3 := (lay4_o hHS 3 (by decide)).trans (eM 3 (by decide))
    have e9 : (f_lay4 N2 K (l1_ws N2 (bt_root K))).2 9 = M.2 9 := (lay4_o hHS 9 (by decide)).trans (eM 9 (by decide))
    exact hL.2.1.of e3 e9
  · refine op_mk hR hL.2.2.2 (fun x' M' => x' = -1 ∧ M' = M) (kk_lay (d := 398) hL.1 hL.2.1 hL.2.2.1 (Km_lt hM hR) (by omega) _ (fun ok' => absurd ok' ok) (fun _ => ⟨_, rfl, ?_⟩)) (hmr _ (fun ok' => absurd ok' ok) (fun _ => ⟨_, rfl, rfl, rfl⟩))
    rintro x' M' ⟨rfl, rfl⟩
    exact ⟨rfl, K, nn, W, t, Wp, hL.nx⟩
end OPS
