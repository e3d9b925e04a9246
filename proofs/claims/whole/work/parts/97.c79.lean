/-! the law's begin (by hand: wip/whole/gen/c79.py) -/
theorem wp_0 : wp_R S0 0 := ⟨by decide, rfl, Nat.zero_le _, fun q => absurd q (by decide), fun w hw => absurd hw (Nat.not_lt_zero _)⟩
theorem L0_f {f i : Nat} (h : L0 f i) : f ∈ [8, 20, 21, 3, 10, 24, 6, 2, 1, 4] := by
  rcases h with ⟨h, _⟩ | ⟨h, _⟩
  · exact (show ∀ f ∈ [8, 20, 21, 3, 10, 24, 6], f ∈ [8, 20, 21, 3, 10, 24, 6, 2, 1, 4] by decide) f h
  · exact (show ∀ f ∈ [2, 1, 4], f ∈ [8, 20, 21, 3, 10, 24, 6, 2, 1, 4] by decide) f h
theorem L0_z {f i : Nat} (h : L0 f i) (hf : f ∉ [2, 1, 4]) : i = 0 := by
  rcases h with ⟨_, h⟩ | ⟨h, _⟩
  · exact h
  · exact absurd h hf
theorem CE_0 : CE A0 S0 0 := by
  refine ⟨GA_0, ⟨fun j hj => L0_z hj (by decide), fun j hj => L0_z hj (by decide)⟩, rfl, ⟨fun j hj => absurd (L0_f hj) (by decide), fun j hj => absurd (L0_f hj) (by decide)⟩, fun j hj => absurd (L0_f hj) (by decide), fun j hj => absurd (L0_f hj) (by decide), fun p _ => rfl, fun f i hi => ?_, ⟨fun _ => rfl, fun _ => rfl⟩, fun j hj => absurd (L0_f hj) (by decide), fun p => ⟨0, rfl⟩⟩
  have : ∀ f ∈ [8, 20, 21, 3, 10, 24, 6, 2, 1, 4], f ≤ 25 := by decide
  exact this f (L0_f hi)
theorem PRE_0 : PRE A0 S0 MZ 0 0 := ⟨z_0, f_0, ⟨rfl, rfl, by decide, fun p hp => absurd hp (Nat.not_lt_zero _)⟩, ⟨wp_0, by decide⟩, CE_0⟩
theorem pl_301 : (plS A0 S0).2.1 301 0 = 0 := by
  unfold plS
  rw [cl_up_off _ _ (by decide), cl_up_off _ _ (by decide), nS_of (by decide)]
  rfl
theorem pl_cap : cap (plS A0 S0) = 0 := by
  rw [plS_cap]
  rfl
theorem INV_0 : INV (nA A0 0 46) (plS A0 S0) (f_clear_M MZ) (.leaf ()) 1 0 0 0 := plant_INV (A := A0) (S := S0) PRE_0 (by decide) cl_X.rf pl_301
theorem INV.cn {A : cl_A} {S : cl_S} {M : md_S} {K : bt} {nn W t Wp : Nat} (h : INV A S M K nn W t Wp) (x : Nat × Nat) : INV A (S.1, S.2.1, x) M K nn W t Wp := h
theorem sl_cons (e : am_E) (t : am_H) : am_sl (e :: t) = am_sz e + am_sl t := by simp [am_sl]
theorem sl_app (s t : am_H) : am_sl (s ++ t) = am_sl s + am_sl t := by simp [am_sl]
theorem sl_nil : am_sl [] = 0 := rfl
theorem sz_rep (ty : FieldType) (n : Nat) (v : Value) : am_sz (.inr (ty, List.replicate n v)) = n := List.length_replicate
theorem sl_lyt : am_sl (lyt 4 13) = 304 := by decide
theorem sl_H0 : am_sl H0 = 773 := by
  unfold H0 T0
  rw [sl_cons, sl_app, sl_cons, sl_cons, sl_cons, sl_lyt, sz_rep, sz_rep, sl_nil]
  rfl
theorem sl_mdT : am_sl mdT ≤ 50000 := by
  unfold mdT
  simp only [sl_cons, sz_rep, sl_nil]
  omega
theorem am_goal (xs : List Int32) (hL : xs.length ≤ 3072) : am_wp (am_Bx xs) am_nm (am_T (am_Bx xs) am_nm 1200) am_Ql am_Il (0, [some (.retAddr 0), none, none, none], [], []) := by
  refine ax_new (dd DL_ok 0 rfl) pl12_7 rfl rfl rfl ?_
  refine ax_dup (dd DL_ok 1 rfl) ?_
  have hpl : am_T (am_Bx xs) am_nm 1199 9 [.ref 0] H0 (fun v h => v = none ∧ cl_R (fun _ => False) (nA A0 0 46) (plS A0 S0) h) := by
    have := kk_plant (xs := xs) (Kp := fun _ => False) (d := 1196) (A := A0) (S := S0) z_0 (fun j hj => L0_z hj (by decide)) GA_0 CE_0.2.2.2.2.2.2.2.1 (fun a ha => ha.elim) (fun v A' S' => v = none ∧ A' = nA A0 0 46 ∧ S' = plS A0 S0) ⟨rfl, rfl, rfl⟩ H0 R_0
    refine am_T_mono ?_ this
    rintro v h ⟨A', S', k1, _, rfl, rfl, rfl⟩
    exact ⟨rfl, k1⟩
  refine ax_init (as := []) (b := 0) (rest := [.ref 0]) (dd DL_ok 2 rfl) pl12_9 (Or.inl rfl) rfl (Nat.le_of_ble_eq_true rfl) rfl (r0 (d := 1195) (am_T_mono ?_ hpl))
  rintro v h1 ⟨rfl, hR1⟩
  refine ⟨rfl, rfl, ?_⟩
  have hlen1 : h1.length = 49 := hR1.2.2.1
  have hsl1 : am_sl h1 = am_sl H0 + 30 := hR1.2.2.2
  refine ax_astore_n (dd DL_ok 3 rfl) (Nat.le_of_ble_eq_true rfl) (Or.inr (Or.inl ⟨_, rfl⟩)) ?_
  refine ax_new (dd DL_ok 4 rfl) pl12_10 rfl rfl rfl ?_
  refine ax_dup (dd DL_ok 5 rfl) ?_
  have hb : (h1 ++ [mdB])[h1.length]? = some mdB := by
    rw [List.getElem?_append_right (Nat.le_refl _), Nat.sub_self]
    rfl
  have hH : (h1 ++ [mdB]).length = h1.length + 1 := by simp
  refine ax_init (as := []) (b := h1.length) (rest := [.ref h1.length]) (dd DL_ok 6 rfl) pl12_12 (Or.inl rfl) rfl (Nat.le_of_ble_eq_true rfl) rfl (r104 (H := h1 ++ [mdB]) (d := 1195) hb _ (fun h' hM hF => ⟨rfl, ?_⟩))
  refine ax_astore_n (dd DL_ok 7 rfl) (Nat.le_of_ble_eq_true rfl) (Or.inr (Or.inl ⟨_, rfl⟩)) ?_
  refine ax_iconst (v := 0) (dd DL_ok 8 rfl) (by decide) ?_
  refine ax_istore_n (dd DL_ok 9 rfl) (Nat.le_of_ble_eq_true rfl) ?_
  refine law_loop (mo := h1.length) (ad := mdA (h1 ++ [mdB]).length) (md_D0 (by omega)) hL (xs.length / 6) 0 h' (by omega) ?_
  have hlt : ∀ f i, (plS A0 S0).1 f i → nA A0 0 46 f i < h1.length := fun f i hs => (List.getElem?_eq_some_iff.mp (hR1.1 f i hs).1).1
  have hnK : ∀ a, a < h1.length → ¬ Km h1.length (mdA (h1 ++ [mdB]).length) a := by
    rintro a ha (q | ⟨f, _, q⟩)
    · omega
    · unfold mdA at q
      omega
  have hlen' : h'.length = 91 := by
    rw [hF.1, XH_len, hH, hlen1]
    rfl
  have hsl' : am_sl h' ≤ 60000 := by
    rw [hF.2.1]
    have e1 : am_sl (XH (h1 ++ [mdB]) h1.length (mdC (h1 ++ [mdB]).length) mdT) = am_sl ((h1 ++ [mdB]).set h1.length (mdC (h1 ++ [mdB]).length)) + am_sl mdT := by
      unfold XH am_sl
      rw [List.map_append, List.sum_append]
    have e2 : am_sl ((h1 ++ [mdB]).set h1.length (mdC (h1 ++ [mdB]).length)) = am_sl (h1 ++ [mdB]) := am_sl_set _ _ _ mdB hb (by simp [mdC, mdB, am_sz])
    have e3 : am_sl (h1 ++ [mdB]) = am_sl h1 + 56 := by
      unfold am_sl
      rw [List.map_append, List.sum_append]
      rfl
    rw [e1, e2, e3, hsl1, sl_H0]
    have := sl_mdT
    omega
  refine ⟨nA A0 0 46, ((plS A0 S0).1, (plS A0 S0).2.1, h'.length, am_sl h'), f_clear_M MZ, .leaf (), 1, 0, 0, 0, ⟨fun f i hs => ⟨?_, hnK _ (hlt f i hs)⟩, hR1.2.1, rfl, rfl⟩, hM, INV_0.cn _, FL_clear, ⟨?_, ?_, ?_⟩, ?_⟩
  · have ha := hlt f i hs
    rw [hF.2.2 _ (by omega) (fun g hg q => by unfold mdA at q; omega), XH_o (by omega) (by omega), List.getElem?_append_left ha]
    exact (hR1.1 f i hs).1
  · show cap (plS A0 S0) ≤ _
    rw [pl_cap]
    omega
  · show h'.length ≤ _
    omega
  · show am_sl h' ≤ 60000 + 150 * 0 + 9 * 0 + 4 * cap (plS A0 S0)
    omega
  · rw [nA_o (by decide) (by decide) (by decide)]
    rfl
