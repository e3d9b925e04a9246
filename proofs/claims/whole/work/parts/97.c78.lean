/-! the law's loop (by program and by hand: wip/whole/gen/c78.py) -/
section LAW
variable {xs : List Int32} {mo : Nat} {ad : Nat → Nat} {i : Nat} {h : am_H}
/-- before the i-th call -/
def LH (mo : Nat) (ad : Nat → Nat) (i : Nat) (h : am_H) : Prop := ∃ A S M K nn W t Wp, cl_R (Km mo ad) A S h ∧ md_R mo ad M h ∧ LQ i A S M K nn W t Wp
theorem md_R.fr {M : md_S} {h1 : am_H} (hM : md_R mo ad M h) (hF : cl_Fr (Km mo ad) h h1) : md_R mo ad M h1 := by
  refine ⟨(hF.2 mo (Or.inl rfl)).trans hM.1, fun f ty n hf => ?_⟩
  exact (hF.2 (ad f) (Or.inr ⟨f, by rw [hf]; rfl, rfl⟩)).trans (hM.2 f ty n hf)
theorem cl_R.fr {A : cl_A} {S : cl_S} {h1 : am_H} (hR : cl_R (Km mo ad) A S h) (hF : md_Fr mo ad h h1) : cl_R (Km mo ad) A S h1 := by
  refine ⟨fun f j hs => ⟨?_, (hR.1 f j hs).2⟩, hR.2.1, hF.1.trans hR.2.2.1, hF.2.1.trans hR.2.2.2⟩
  have hk := (hR.1 f j hs).2
  rw [hF.2.2 _ (fun q => hk (Or.inl q)) (fun g hg q => hk (Or.inr ⟨g, hg, q⟩))]
  exact (hR.1 f j hs).1
theorem law_arr (h : am_H) : am_arr (am_Bx xs) h (.retAddr 0) = some (.int, xs.map Value.int) := rfl
theorem law_ld {pc k : Nat} {kk : Int32} {ls : List (Option Value)} {st : List Value} (hd : decode am_Il.2.1 pc = .ok (.iaload, 1)) (hk : nI (6 * i) + kk = nI (6 * i + k)) (hlt : 6 * i + k < xs.length) (hl : xs.length ≤ 3072) (k' : am_wp (am_Bx xs) am_nm (am_T (am_Bx xs) am_nm 1200) am_Ql am_Il (pc + 1, ls, .int (xs.getD (6 * i + k) 0) :: st, h)) : am_wp (am_Bx xs) am_nm (am_T (am_Bx xs) am_nm 1200) am_Ql am_Il (pc, ls, .int (nI (6 * i) + kk) :: .retAddr 0 :: st, h) := by
  refine am_r hd rfl (show am_nx _ _ _ _ _ _ _ _ _ _ from ⟨nI (6 * i) + kk, .retAddr 0, st, .int, xs.map Value.int, .int (xs.getD (6 * i + k) 0), rfl, law_arr h, rfl, ?_, ?_, k'⟩)
  · rw [hk]
    exact nI_pos (by omega)
  · rw [hk, nI_clamp (by omega), List.getElem?_map, List.getD_eq_getElem?_getD, List.getElem?_eq_getElem hlt]
    rfl
theorem law_ld0 {pc : Nat} {ls : List (Option Value)} {st : List Value} (hd : decode am_Il.2.1 pc = .ok (.iaload, 1)) (hlt : 6 * i + 0 < xs.length) (hl : xs.length ≤ 3072) (k' : am_wp (am_Bx xs) am_nm (am_T (am_Bx xs) am_nm 1200) am_Ql am_Il (pc + 1, ls, .int (xs.getD (6 * i + 0) 0) :: st, h)) : am_wp (am_Bx xs) am_nm (am_T (am_Bx xs) am_nm 1200) am_Ql am_Il (pc, ls, .int (nI (6 * i)) :: .retAddr 0 :: st, h) := by
  refine am_r hd rfl (show am_nx _ _ _ _ _ _ _ _ _ _ from ⟨nI (6 * i), .retAddr 0, st, .int, xs.map Value.int, .int (xs.getD (6 * i + 0) 0), rfl, law_arr h, rfl, nI_pos (by omega), ?_, k'⟩)
  rw [nI_clamp (by omega), List.getElem?_map, List.getD_eq_getElem?_getD, Nat.add_zero, List.getElem?_eq_getElem (show 6 * i < xs.length from hlt)]
  rfl
theorem ax_tsw {pc len tgt : Nat} {dflt lo hi : Int} {offs : Array Int} {x : Int32} {ls : List (Option Value)} {st : List Value} (hd : decode am_Il.2.1 pc = .ok (.tableswitch dflt lo hi offs, len)) (ht : (x.toInt < lo ∨ hi < x.toInt) ∧ (pc : Int) + dflt = (tgt : Int) ∨ ¬ x.toInt < lo ∧ ¬ hi < x.toInt ∧ ∃ off, offs[(x.toInt - lo).toNat]? = some off ∧ (pc : Int) + off = (tgt : Int)) (k : am_wp (am_Bx xs) am_nm (am_T (am_Bx xs) am_nm 1200) am_Ql am_Il (tgt, ls, st, h)) : am_wp (am_Bx xs) am_nm (am_T (am_Bx xs) am_nm 1200) am_Ql am_Il (pc, ls, .int x :: st, h) :=
  am_r hd rfl (show am_nx _ _ _ _ _ _ _ _ _ _ from ⟨x, st, rfl, tgt, ht, k⟩)
theorem op_clear (hD : md_D mo ad) {A : cl_A} {S : cl_S} {M : md_S} {K : bt} {nn W t Wp : Nat} (hL : LQ i A S M K nn W t Wp) (hR : cl_R (Km mo ad) A S h) (hM : md_R mo ad M h) (hi : i ≤ 600) : am_T (am_Bx xs) am_nm 1200 15 [.ref 0] h (fun v h1 => v = none ∧ cl_Fr (Km mo ad) h h1 ∧ ∃ A' S', cl_R (Km mo ad) A' S' h1 ∧ LQ (i + 1) A' S' (f_clear_M M) (.leaf ()) 1 0 t Wp) ∧ md_C xs mo ad 1200 105 [] M (fun v M' => v = none ∧ M' = f_clear_M M) := by
  refine ⟨?_, c_clear (d := 1196) hD _ ⟨rfl, rfl⟩⟩
  have e : cl_rf A 8 0 = .ref 0 := by
    unfold cl_rf
    rw [if_neg (by decide)]
    show Value.ref (A 8 0) = _
    rw [hL.2.2.2]
  have := kk_clear (xs := xs) (Kp := Km mo ad) (A := A) (d := 1196) hL.1 (Km_lt hM hR) (hL.cells hi) (fun v A' S' => v = none ∧ LQ (i + 1) A' S' (f_clear_M M) (.leaf ()) 1 0 t Wp) (fun S' k1 k2 k3 => ⟨rfl, k1, FL_clear, (hL.2.2.1.add k3 k2).mono (by omega) (by omega), by rw [nA_o (by decide) (by decide) (by decide)]; exact hL.2.2.2⟩) h hR
  rw [e] at this
  refine am_T_mono ?_ this
  rintro v h1 ⟨A', S', k1, k2, rfl, k3⟩
  exact ⟨rfl, k2, A', S', k1, k3⟩
theorem six_lt {n : Nat} (h6 : 6 * i + 6 ≤ n) {k : Nat} (hk : k < 6) : 6 * i + k < n := by omega
theorem nI_k {k : Nat} : nI (6 * i) + nI k = nI (6 * i + k) := nI_add _ _
theorem law_0 (hD : md_D mo ad) (hl : xs.length ≤ 3072) (h6 : 6 * i + 6 ≤ xs.length) (hi : i ≤ 600) (hH : LH mo ad i h) (fin : ∀ h2, LH mo ad (i + 1) h2 → am_wp (am_Bx xs) am_nm (am_T (am_Bx xs) am_nm 1200) am_Ql am_Il (466, [some (.retAddr 0), some (.ref 0), some (.ref mo), some (.int (nI (6 * i)))], [], h2)) : am_wp (am_Bx xs) am_nm (am_T (am_Bx xs) am_nm 1200) am_Ql am_Il (96, [some (.retAddr 0), some (.ref 0), some (.ref mo), some (.int (nI (6 * i)))], [], h) := by
  obtain ⟨A, S, M, K, nn, W, t, Wp, hR, hM, hL⟩ := hH
  have hx8 : h[0]? = some (.inl (8, (List.range 5).map (fun k => cl_fv A S 8 k 0))) := by
    have := (hR.1 8 0 hL.1.1.2.1.2.1.2.2.1).1
    rw [hL.2.2.2] at this
    rw [this]
    rfl
  obtain ⟨RP, H1, H2⟩ := op_feed (xs := xs) hD hL hR (xs.getD (6 * i + 1) 0) (xs.getD (6 * i + 2) 0) (xs.getD (6 * i + 3) 0) (xs.getD (6 * i + 4) 0) (xs.getD (6 * i + 5) 0)
  refine ax_aload_n (dd DL_ok 22 rfl) rfl (Or.inr (Or.inl ⟨_, rfl⟩)) ?_
  refine ax_aload_n (dd DL_ok 23 rfl) rfl (Or.inr (Or.inr ⟨_, rfl⟩)) ?_
  refine ax_iload_n (dd DL_ok 24 rfl) rfl ?_
  refine ax_iconst (v := 1) (dd DL_ok 25 rfl) (by decide) ?_
  refine ax_iadd (dd DL_ok 26 rfl) ?_
  refine law_ld (k := 1) (kk := 1) (dd DL_ok 27 rfl) nI_k (six_lt h6 (by decide)) hl ?_
  refine ax_aload_n (dd DL_ok 28 rfl) rfl (Or.inr (Or.inr ⟨_, rfl⟩)) ?_
  refine ax_iload_n (dd DL_ok 29 rfl) rfl ?_
  refine ax_iconst (v := 2) (dd DL_ok 30 rfl) (by decide) ?_
  refine ax_iadd (dd DL_ok 31 rfl) ?_
  refine law_ld (k := 2) (kk := 2) (dd DL_ok 32 rfl) nI_k (six_lt h6 (by decide)) hl ?_
  refine ax_aload_n (dd DL_ok 33 rfl) rfl (Or.inr (Or.inr ⟨_, rfl⟩)) ?_
  refine ax_iload_n (dd DL_ok 34 rfl) rfl ?_
  refine ax_iconst (v := 3) (dd DL_ok 35 rfl) (by decide) ?_
  refine ax_iadd (dd DL_ok 36 rfl) ?_
  refine law_ld (k := 3) (kk := 3) (dd DL_ok 37 rfl) nI_k (six_lt h6 (by decide)) hl ?_
  refine ax_aload_n (dd DL_ok 38 rfl) rfl (Or.inr (Or.inr ⟨_, rfl⟩)) ?_
  refine ax_iload_n (dd DL_ok 39 rfl) rfl ?_
  refine ax_iconst (v := 4) (dd DL_ok 40 rfl) (by decide) ?_
  refine ax_iadd (dd DL_ok 41 rfl) ?_
  refine law_ld (k := 4) (kk := 4) (dd DL_ok 42 rfl) nI_k (six_lt h6 (by decide)) hl ?_
  refine ax_aload_n (dd DL_ok 43 rfl) rfl (Or.inr (Or.inr ⟨_, rfl⟩)) ?_
  refine ax_iload_n (dd DL_ok 44 rfl) rfl ?_
  refine ax_iconst (v := 5) (dd DL_ok 45 rfl) (by decide) ?_
  refine ax_iadd (dd DL_ok 46 rfl) ?_
  refine law_ld (k := 5) (kk := 5) (dd DL_ok 47 rfl) nI_k (six_lt h6 (by decide)) hl ?_
  refine ax_callv (as := [.int (xs.getD (6 * i + 1) 0), .int (xs.getD (6 * i + 2) 0), .int (xs.getD (6 * i + 3) 0), .int (xs.getD (6 * i + 4) 0), .int (xs.getD (6 * i + 5) 0)]) (rest := []) (dd DL_ok 48 rfl) pl12_13 rfl (Nat.le_of_ble_eq_true rfl) rfl (ms12 xs) hx8 (am_T_mono ?_ H1)
  rintro v h1 ⟨x, rfl, hF1, hall⟩
  have hM1 := hM.fr hF1
  refine ax_aload_n (dd DL_ok 49 rfl) rfl (Or.inr (Or.inl ⟨_, rfl⟩)) ?_
  refine ax_aload_n (dd DL_ok 50 rfl) rfl (Or.inr (Or.inr ⟨_, rfl⟩)) ?_
  refine ax_iload_n (dd DL_ok 51 rfl) rfl ?_
  refine ax_iconst (v := 1) (dd DL_ok 52 rfl) (by decide) ?_
  refine ax_iadd (dd DL_ok 53 rfl) ?_
  refine law_ld (k := 1) (kk := 1) (dd DL_ok 54 rfl) nI_k (six_lt h6 (by decide)) hl ?_
  refine ax_aload_n (dd DL_ok 55 rfl) rfl (Or.inr (Or.inr ⟨_, rfl⟩)) ?_
  refine ax_iload_n (dd DL_ok 56 rfl) rfl ?_
  refine ax_iconst (v := 2) (dd DL_ok 57 rfl) (by decide) ?_
  refine ax_iadd (dd DL_ok 58 rfl) ?_
  refine law_ld (k := 2) (kk := 2) (dd DL_ok 59 rfl) nI_k (six_lt h6 (by decide)) hl ?_
  refine ax_aload_n (dd DL_ok 60 rfl) rfl (Or.inr (Or.inr ⟨_, rfl⟩)) ?_
  refine ax_iload_n (dd DL_ok 61 rfl) rfl ?_
  refine ax_iconst (v := 3) (dd DL_ok 62 rfl) (by decide) ?_
  refine ax_iadd (dd DL_ok 63 rfl) ?_
  refine law_ld (k := 3) (kk := 3) (dd DL_ok 64 rfl) nI_k (six_lt h6 (by decide)) hl ?_
  refine ax_aload_n (dd DL_ok 65 rfl) rfl (Or.inr (Or.inr ⟨_, rfl⟩)) ?_
  refine ax_iload_n (dd DL_ok 66 rfl) rfl ?_
  refine ax_iconst (v := 4) (dd DL_ok 67 rfl) (by decide) ?_
  refine ax_iadd (dd DL_ok 68 rfl) ?_
  refine law_ld (k := 4) (kk := 4) (dd DL_ok 69 rfl) nI_k (six_lt h6 (by decide)) hl ?_
  refine ax_aload_n (dd DL_ok 70 rfl) rfl (Or.inr (Or.inr ⟨_, rfl⟩)) ?_
  refine ax_iload_n (dd DL_ok 71 rfl) rfl ?_
  refine ax_iconst (v := 5) (dd DL_ok 72 rfl) (by decide) ?_
  refine ax_iadd (dd DL_ok 73 rfl) ?_
  refine law_ld (k := 5) (kk := 5) (dd DL_ok 74 rfl) nI_k (six_lt h6 (by decide)) hl ?_
  refine ax_callv (as := [.int (xs.getD (6 * i + 1) 0), .int (xs.getD (6 * i + 2) 0), .int (xs.getD (6 * i + 3) 0), .int (xs.getD (6 * i + 4) 0), .int (xs.getD (6 * i + 5) 0)]) (rest := [.int x]) (dd DL_ok 75 rfl) pl12_17 rfl (Nat.le_of_ble_eq_true rfl) rfl (ms107 xs) hM1.1 (am_T_mono ?_ (H2 h1 hM1))
  rintro v' h2 ⟨M', hM2, hF2, x', rfl, hrp⟩
  obtain ⟨rfl, A', S', K', nn', W', t', Wp', hR1, hL1⟩ := hall x' M' hrp
  refine ax_icmp_eq (tgt := 466) (dd DL_ok 76 rfl) (by decide) (fun _ => ?_) (fun c => absurd rfl c)
  exact fin h2 ⟨A', S', M', K', nn', W', t', Wp', hR1.fr hF2, hM2, hL1⟩
theorem law_1 (hD : md_D mo ad) (hl : xs.length ≤ 3072) (h6 : 6 * i + 6 ≤ xs.length) (hi : i ≤ 600) (hH : LH mo ad i h) (fin : ∀ h2, LH mo ad (i + 1) h2 → am_wp (am_Bx xs) am_nm (am_T (am_Bx xs) am_nm 1200) am_Ql am_Il (466, [some (.retAddr 0), some (.ref 0), some (.ref mo), some (.int (nI (6 * i)))], [], h2)) : am_wp (am_Bx xs) am_nm (am_T (am_Bx xs) am_nm 1200) am_Ql am_Il (159, [some (.retAddr 0), some (.ref 0), some (.ref mo), some (.int (nI (6 * i)))], [], h) := by
  obtain ⟨A, S, M, K, nn, W, t, Wp, hR, hM, hL⟩ := hH
  have hx8 : h[0]? = some (.inl (8, (List.range 5).map (fun k => cl_fv A S 8 k 0))) := by
    have := (hR.1 8 0 hL.1.1.2.1.2.1.2.2.1).1
    rw [hL.2.2.2] at this
    rw [this]
    rfl
  obtain ⟨RP, H1, H2⟩ := op_end (xs := xs) hD hL hR (xs.getD (6 * i + 1) 0)
  refine ax_aload_n (dd DL_ok 79 rfl) rfl (Or.inr (Or.inl ⟨_, rfl⟩)) ?_
  refine ax_aload_n (dd DL_ok 80 rfl) rfl (Or.inr (Or.inr ⟨_, rfl⟩)) ?_
  refine ax_iload_n (dd DL_ok 81 rfl) rfl ?_
  refine ax_iconst (v := 1) (dd DL_ok 82 rfl) (by decide) ?_
  refine ax_iadd (dd DL_ok 83 rfl) ?_
  refine law_ld (k := 1) (kk := 1) (dd DL_ok 84 rfl) nI_k (six_lt h6 (by decide)) hl ?_
  refine ax_callv (as := [.int (xs.getD (6 * i + 1) 0)]) (rest := []) (dd DL_ok 85 rfl) pl12_18 rfl (Nat.le_of_ble_eq_true rfl) rfl (ms14 xs) hx8 (am_T_mono ?_ H1)
  rintro v h1 ⟨x, rfl, hF1, hall⟩
  have hM1 := hM.fr hF1
  refine ax_aload_n (dd DL_ok 86 rfl) rfl (Or.inr (Or.inl ⟨_, rfl⟩)) ?_
  refine ax_aload_n (dd DL_ok 87 rfl) rfl (Or.inr (Or.inr ⟨_, rfl⟩)) ?_
  refine ax_iload_n (dd DL_ok 88 rfl) rfl ?_
  refine ax_iconst (v := 1) (dd DL_ok 89 rfl) (by decide) ?_
  refine ax_iadd (dd DL_ok 90 rfl) ?_
  refine law_ld (k := 1) (kk := 1) (dd DL_ok 91 rfl) nI_k (six_lt h6 (by decide)) hl ?_
  refine ax_callv (as := [.int (xs.getD (6 * i + 1) 0)]) (rest := [.int x]) (dd DL_ok 92 rfl) pl12_22 rfl (Nat.le_of_ble_eq_true rfl) rfl (ms109 xs) hM1.1 (am_T_mono ?_ (H2 h1 hM1))
  rintro v' h2 ⟨M', hM2, hF2, x', rfl, hrp⟩
  obtain ⟨rfl, A', S', K', nn', W', t', Wp', hR1, hL1⟩ := hall x' M' hrp
  refine ax_icmp_eq (tgt := 466) (dd DL_ok 93 rfl) (by decide) (fun _ => ?_) (fun c => absurd rfl c)
  exact fin h2 ⟨A', S', M', K', nn', W', t', Wp', hR1.fr hF2, hM2, hL1⟩
theorem law_2 (hD : md_D mo ad) (hl : xs.length ≤ 3072) (h6 : 6 * i + 6 ≤ xs.length) (hi : i ≤ 600) (hH : LH mo ad i h) (fin : ∀ h2, LH mo ad (i + 1) h2 → am_wp (am_Bx xs) am_nm (am_T (am_Bx xs) am_nm 1200) am_Ql am_Il (466, [some (.retAddr 0), some (.ref 0), some (.ref mo), some (.int (nI (6 * i)))], [], h2)) : am_wp (am_Bx xs) am_nm (am_T (am_Bx xs) am_nm 1200) am_Ql am_Il (182, [some (.retAddr 0), some (.ref 0), some (.ref mo), some (.int (nI (6 * i)))], [], h) := by
  obtain ⟨A, S, M, K, nn, W, t, Wp, hR, hM, hL⟩ := hH
  have hx8 : h[0]? = some (.inl (8, (List.range 5).map (fun k => cl_fv A S 8 k 0))) := by
    have := (hR.1 8 0 hL.1.1.2.1.2.1.2.2.1).1
    rw [hL.2.2.2] at this
    rw [this]
    rfl
  obtain ⟨H1, H2⟩ := op_clear (xs := xs) hD hL hR hM hi
  refine ax_aload_n (dd DL_ok 96 rfl) rfl (Or.inr (Or.inl ⟨_, rfl⟩)) ?_
  refine ax_callv (as := []) (rest := []) (dd DL_ok 97 rfl) pl12_23 rfl (Nat.le_of_ble_eq_true rfl) rfl (ms15 xs) hx8 (am_T_mono ?_ H1)
  rintro v h1 ⟨rfl, hF1, A', S', hR1, hL1⟩
  have hM1 := hM.fr hF1
  refine ax_aload_n (dd DL_ok 98 rfl) rfl (Or.inr (Or.inl ⟨_, rfl⟩)) ?_
  refine ax_callv (as := []) (rest := []) (dd DL_ok 99 rfl) pl12_26 rfl (Nat.le_of_ble_eq_true rfl) rfl (ms105 xs) hM1.1 (am_T_mono ?_ (H2 h1 hM1))
  rintro v' h2 ⟨M', hM2, hF2, rfl, rfl⟩
  refine ax_goto (tgt := 466) (dd DL_ok 100 rfl) (by decide) ?_
  exact fin h2 ⟨A', S', _, _, _, _, _, _, hR1.fr hF2, hM2, hL1⟩
theorem law_3 (hD : md_D mo ad) (hl : xs.length ≤ 3072) (h6 : 6 * i + 6 ≤ xs.length) (hi : i ≤ 600) (hH : LH mo ad i h) (fin : ∀ h2, LH mo ad (i + 1) h2 → am_wp (am_Bx xs) am_nm (am_T (am_Bx xs) am_nm 1200) am_Ql am_Il (466, [some (.retAddr 0), some (.ref 0), some (.ref mo), some (.int (nI (6 * i)))], [], h2)) : am_wp (am_Bx xs) am_nm (am_T (am_Bx xs) am_nm 1200) am_Ql am_Il (193, [some (.retAddr 0), some (.ref 0), some (.ref mo), some (.int (nI (6 * i)))], [], h) := by
  obtain ⟨A, S, M, K, nn, W, t, Wp, hR, hM, hL⟩ := hH
  have hx8 : h[0]? = some (.inl (8, (List.range 5).map (fun k => cl_fv A S 8 k 0))) := by
    have := (hR.1 8 0 hL.1.1.2.1.2.1.2.2.1).1
    rw [hL.2.2.2] at this
    rw [this]
    rfl
  obtain ⟨RP, H1, H2⟩ := op_node (xs := xs) hD hL hR hM hi (xs.getD (6 * i + 1) 0) (xs.getD (6 * i + 2) 0)
  refine ax_aload_n (dd DL_ok 101 rfl) rfl (Or.inr (Or.inl ⟨_, rfl⟩)) ?_
  refine ax_aload_n (dd DL_ok 102 rfl) rfl (Or.inr (Or.inr ⟨_, rfl⟩)) ?_
  refine ax_iload_n (dd DL_ok 103 rfl) rfl ?_
  refine ax_iconst (v := 1) (dd DL_ok 104 rfl) (by decide) ?_
  refine ax_iadd (dd DL_ok 105 rfl) ?_
  refine law_ld (k := 1) (kk := 1) (dd DL_ok 106 rfl) nI_k (six_lt h6 (by decide)) hl ?_
  refine ax_aload_n (dd DL_ok 107 rfl) rfl (Or.inr (Or.inr ⟨_, rfl⟩)) ?_
  refine ax_iload_n (dd DL_ok 108 rfl) rfl ?_
  refine ax_iconst (v := 2) (dd DL_ok 109 rfl) (by decide) ?_
  refine ax_iadd (dd DL_ok 110 rfl) ?_
  refine law_ld (k := 2) (kk := 2) (dd DL_ok 111 rfl) nI_k (six_lt h6 (by decide)) hl ?_
  refine ax_callv (as := [.int (xs.getD (6 * i + 1) 0), .int (xs.getD (6 * i + 2) 0)]) (rest := []) (dd DL_ok 112 rfl) pl12_27 rfl (Nat.le_of_ble_eq_true rfl) rfl (ms17 xs) hx8 (am_T_mono ?_ H1)
  rintro v h1 ⟨x, rfl, hF1, hall⟩
  have hM1 := hM.fr hF1
  refine ax_aload_n (dd DL_ok 113 rfl) rfl (Or.inr (Or.inl ⟨_, rfl⟩)) ?_
  refine ax_aload_n (dd DL_ok 114 rfl) rfl (Or.inr (Or.inr ⟨_, rfl⟩)) ?_
  refine ax_iload_n (dd DL_ok 115 rfl) rfl ?_
  refine ax_iconst (v := 1) (dd DL_ok 116 rfl) (by decide) ?_
  refine ax_iadd (dd DL_ok 117 rfl) ?_
  refine law_ld (k := 1) (kk := 1) (dd DL_ok 118 rfl) nI_k (six_lt h6 (by decide)) hl ?_
  refine ax_aload_n (dd DL_ok 119 rfl) rfl (Or.inr (Or.inr ⟨_, rfl⟩)) ?_
  refine ax_iload_n (dd DL_ok 120 rfl) rfl ?_
  refine ax_iconst (v := 2) (dd DL_ok 121 rfl) (by decide) ?_
  refine ax_iadd (dd DL_ok 122 rfl) ?_
  refine law_ld (k := 2) (kk := 2) (dd DL_ok 123 rfl) nI_k (six_lt h6 (by decide)) hl ?_
  refine ax_callv (as := [.int (xs.getD (6 * i + 1) 0), .int (xs.getD (6 * i + 2) 0)]) (rest := [.int x]) (dd DL_ok 124 rfl) pl12_31 rfl (Nat.le_of_ble_eq_true rfl) rfl (ms110 xs) hM1.1 (am_T_mono ?_ (H2 h1 hM1))
  rintro v' h2 ⟨M', hM2, hF2, x', rfl, hrp⟩
  obtain ⟨rfl, A', S', K', nn', W', t', Wp', hR1, hL1⟩ := hall x' M' hrp
  refine ax_icmp_eq (tgt := 466) (dd DL_ok 125 rfl) (by decide) (fun _ => ?_) (fun c => absurd rfl c)
  exact fin h2 ⟨A', S', M', K', nn', W', t', Wp', hR1.fr hF2, hM2, hL1⟩
theorem law_4 (hD : md_D mo ad) (hl : xs.length ≤ 3072) (h6 : 6 * i + 6 ≤ xs.length) (hi : i ≤ 600) (hH : LH mo ad i h) (fin : ∀ h2, LH mo ad (i + 1) h2 → am_wp (am_Bx xs) am_nm (am_T (am_Bx xs) am_nm 1200) am_Ql am_Il (466, [some (.retAddr 0), some (.ref 0), some (.ref mo), some (.int (nI (6 * i)))], [], h2)) : am_wp (am_Bx xs) am_nm (am_T (am_Bx xs) am_nm 1200) am_Ql am_Il (226, [some (.retAddr 0), some (.ref 0), some (.ref mo), some (.int (nI (6 * i)))], [], h) := by
  obtain ⟨A, S, M, K, nn, W, t, Wp, hR, hM, hL⟩ := hH
  have hx8 : h[0]? = some (.inl (8, (List.range 5).map (fun k => cl_fv A S 8 k 0))) := by
    have := (hR.1 8 0 hL.1.1.2.1.2.1.2.2.1).1
    rw [hL.2.2.2] at this
    rw [this]
    rfl
  obtain ⟨RP, H1, H2⟩ := op_text (xs := xs) hD hL hR hM (xs.getD (6 * i + 1) 0)
  refine ax_aload_n (dd DL_ok 128 rfl) rfl (Or.inr (Or.inl ⟨_, rfl⟩)) ?_
  refine ax_aload_n (dd DL_ok 129 rfl) rfl (Or.inr (Or.inr ⟨_, rfl⟩)) ?_
  refine ax_iload_n (dd DL_ok 130 rfl) rfl ?_
  refine ax_iconst (v := 1) (dd DL_ok 131 rfl) (by decide) ?_
  refine ax_iadd (dd DL_ok 132 rfl) ?_
  refine law_ld (k := 1) (kk := 1) (dd DL_ok 133 rfl) nI_k (six_lt h6 (by decide)) hl ?_
  refine ax_callv (as := [.int (xs.getD (6 * i + 1) 0)]) (rest := []) (dd DL_ok 134 rfl) pl12_32 rfl (Nat.le_of_ble_eq_true rfl) rfl (ms21 xs) hx8 (am_T_mono ?_ H1)
  rintro v h1 ⟨x, rfl, hF1, hall⟩
  have hM1 := hM.fr hF1
  refine ax_aload_n (dd DL_ok 135 rfl) rfl (Or.inr (Or.inl ⟨_, rfl⟩)) ?_
  refine ax_aload_n (dd DL_ok 136 rfl) rfl (Or.inr (Or.inr ⟨_, rfl⟩)) ?_
  refine ax_iload_n (dd DL_ok 137 rfl) rfl ?_
  refine ax_iconst (v := 1) (dd DL_ok 138 rfl) (by decide) ?_
  refine ax_iadd (dd DL_ok 139 rfl) ?_
  refine law_ld (k := 1) (kk := 1) (dd DL_ok 140 rfl) nI_k (six_lt h6 (by decide)) hl ?_
  refine ax_callv (as := [.int (xs.getD (6 * i + 1) 0)]) (rest := [.int x]) (dd DL_ok 141 rfl) pl12_35 rfl (Nat.le_of_ble_eq_true rfl) rfl (ms112 xs) hM1.1 (am_T_mono ?_ (H2 h1 hM1))
  rintro v' h2 ⟨M', hM2, hF2, x', rfl, hrp⟩
  obtain ⟨rfl, A', S', K', nn', W', t', Wp', hR1, hL1⟩ := hall x' M' hrp
  refine ax_icmp_eq (tgt := 466) (dd DL_ok 142 rfl) (by decide) (fun _ => ?_) (fun c => absurd rfl c)
  exact fin h2 ⟨A', S', M', K', nn', W', t', Wp', hR1.fr hF2, hM2, hL1⟩
theorem law_5 (hD : md_D mo ad) (hl : xs.length ≤ 3072) (h6 : 6 * i + 6 ≤ xs.length) (hi : i ≤ 600) (hH : LH mo ad i h) (fin : ∀ h2, LH mo ad (i + 1) h2 → am_wp (am_Bx xs) am_nm (am_T (am_Bx xs) am_nm 1200) am_Ql am_Il (466, [some (.retAddr 0), some (.ref 0), some (.ref mo), some (.int (nI (6 * i)))], [], h2)) : am_wp (am_Bx xs) am_nm (am_T (am_Bx xs) am_nm 1200) am_Ql am_Il (249, [some (.retAddr 0), some (.ref 0), some (.ref mo), some (.int (nI (6 * i)))], [], h) := by
  obtain ⟨A, S, M, K, nn, W, t, Wp, hR, hM, hL⟩ := hH
  have hx8 : h[0]? = some (.inl (8, (List.range 5).map (fun k => cl_fv A S 8 k 0))) := by
    have := (hR.1 8 0 hL.1.1.2.1.2.1.2.2.1).1
    rw [hL.2.2.2] at this
    rw [this]
    rfl
  obtain ⟨RP, H1, H2⟩ := op_set (xs := xs) hD hL hR (xs.getD (6 * i + 1) 0) (xs.getD (6 * i + 2) 0) (xs.getD (6 * i + 3) 0)
  refine ax_aload_n (dd DL_ok 145 rfl) rfl (Or.inr (Or.inl ⟨_, rfl⟩)) ?_
  refine ax_aload_n (dd DL_ok 146 rfl) rfl (Or.inr (Or.inr ⟨_, rfl⟩)) ?_
  refine ax_iload_n (dd DL_ok 147 rfl) rfl ?_
  refine ax_iconst (v := 1) (dd DL_ok 148 rfl) (by decide) ?_
  refine ax_iadd (dd DL_ok 149 rfl) ?_
  refine law_ld (k := 1) (kk := 1) (dd DL_ok 150 rfl) nI_k (six_lt h6 (by decide)) hl ?_
  refine ax_aload_n (dd DL_ok 151 rfl) rfl (Or.inr (Or.inr ⟨_, rfl⟩)) ?_
  refine ax_iload_n (dd DL_ok 152 rfl) rfl ?_
  refine ax_iconst (v := 2) (dd DL_ok 153 rfl) (by decide) ?_
  refine ax_iadd (dd DL_ok 154 rfl) ?_
  refine law_ld (k := 2) (kk := 2) (dd DL_ok 155 rfl) nI_k (six_lt h6 (by decide)) hl ?_
  refine ax_aload_n (dd DL_ok 156 rfl) rfl (Or.inr (Or.inr ⟨_, rfl⟩)) ?_
  refine ax_iload_n (dd DL_ok 157 rfl) rfl ?_
  refine ax_iconst (v := 3) (dd DL_ok 158 rfl) (by decide) ?_
  refine ax_iadd (dd DL_ok 159 rfl) ?_
  refine law_ld (k := 3) (kk := 3) (dd DL_ok 160 rfl) nI_k (six_lt h6 (by decide)) hl ?_
  refine ax_callv (as := [.int (xs.getD (6 * i + 1) 0), .int (xs.getD (6 * i + 2) 0), .int (xs.getD (6 * i + 3) 0)]) (rest := []) (dd DL_ok 161 rfl) pl12_36 rfl (Nat.le_of_ble_eq_true rfl) rfl (ms23 xs) hx8 (am_T_mono ?_ H1)
  rintro v h1 ⟨x, rfl, hF1, hall⟩
  have hM1 := hM.fr hF1
  refine ax_aload_n (dd DL_ok 162 rfl) rfl (Or.inr (Or.inl ⟨_, rfl⟩)) ?_
  refine ax_aload_n (dd DL_ok 163 rfl) rfl (Or.inr (Or.inr ⟨_, rfl⟩)) ?_
  refine ax_iload_n (dd DL_ok 164 rfl) rfl ?_
  refine ax_iconst (v := 1) (dd DL_ok 165 rfl) (by decide) ?_
  refine ax_iadd (dd DL_ok 166 rfl) ?_
  refine law_ld (k := 1) (kk := 1) (dd DL_ok 167 rfl) nI_k (six_lt h6 (by decide)) hl ?_
  refine ax_aload_n (dd DL_ok 168 rfl) rfl (Or.inr (Or.inr ⟨_, rfl⟩)) ?_
  refine ax_iload_n (dd DL_ok 169 rfl) rfl ?_
  refine ax_iconst (v := 2) (dd DL_ok 170 rfl) (by decide) ?_
  refine ax_iadd (dd DL_ok 171 rfl) ?_
  refine law_ld (k := 2) (kk := 2) (dd DL_ok 172 rfl) nI_k (six_lt h6 (by decide)) hl ?_
  refine ax_aload_n (dd DL_ok 173 rfl) rfl (Or.inr (Or.inr ⟨_, rfl⟩)) ?_
  refine ax_iload_n (dd DL_ok 174 rfl) rfl ?_
  refine ax_iconst (v := 3) (dd DL_ok 175 rfl) (by decide) ?_
  refine ax_iadd (dd DL_ok 176 rfl) ?_
  refine law_ld (k := 3) (kk := 3) (dd DL_ok 177 rfl) nI_k (six_lt h6 (by decide)) hl ?_
  refine ax_callv (as := [.int (xs.getD (6 * i + 1) 0), .int (xs.getD (6 * i + 2) 0), .int (xs.getD (6 * i + 3) 0)]) (rest := [.int x]) (dd DL_ok 178 rfl) pl12_40 rfl (Nat.le_of_ble_eq_true rfl) rfl (ms113 xs) hM1.1 (am_T_mono ?_ (H2 h1 hM1))
  rintro v' h2 ⟨M', hM2, hF2, x', rfl, hrp⟩
  obtain ⟨rfl, A', S', K', nn', W', t', Wp', hR1, hL1⟩ := hall x' M' hrp
  refine ax_icmp_eq (tgt := 466) (dd DL_ok 179 rfl) (by decide) (fun _ => ?_) (fun c => absurd rfl c)
  exact fin h2 ⟨A', S', M', K', nn', W', t', Wp', hR1.fr hF2, hM2, hL1⟩
theorem law_6 (hD : md_D mo ad) (hl : xs.length ≤ 3072) (h6 : 6 * i + 6 ≤ xs.length) (hi : i ≤ 600) (hH : LH mo ad i h) (fin : ∀ h2, LH mo ad (i + 1) h2 → am_wp (am_Bx xs) am_nm (am_T (am_Bx xs) am_nm 1200) am_Ql am_Il (466, [some (.retAddr 0), some (.ref 0), some (.ref mo), some (.int (nI (6 * i)))], [], h2)) : am_wp (am_Bx xs) am_nm (am_T (am_Bx xs) am_nm 1200) am_Ql am_Il (292, [some (.retAddr 0), some (.ref 0), some (.ref mo), some (.int (nI (6 * i)))], [], h) := by
  obtain ⟨A, S, M, K, nn, W, t, Wp, hR, hM, hL⟩ := hH
  have hx8 : h[0]? = some (.inl (8, (List.range 5).map (fun k => cl_fv A S 8 k 0))) := by
    have := (hR.1 8 0 hL.1.1.2.1.2.1.2.2.1).1
    rw [hL.2.2.2] at this
    rw [this]
    rfl
  obtain ⟨RP, H1, H2⟩ := op_lay (xs := xs) hD hL hR hM hi (xs.getD (6 * i + 1) 0)
  refine ax_aload_n (dd DL_ok 182 rfl) rfl (Or.inr (Or.inl ⟨_, rfl⟩)) ?_
  refine ax_aload_n (dd DL_ok 183 rfl) rfl (Or.inr (Or.inr ⟨_, rfl⟩)) ?_
  refine ax_iload_n (dd DL_ok 184 rfl) rfl ?_
  refine ax_iconst (v := 1) (dd DL_ok 185 rfl) (by decide) ?_
  refine ax_iadd (dd DL_ok 186 rfl) ?_
  refine law_ld (k := 1) (kk := 1) (dd DL_ok 187 rfl) nI_k (six_lt h6 (by decide)) hl ?_
  refine ax_callv (as := [.int (xs.getD (6 * i + 1) 0)]) (rest := []) (dd DL_ok 188 rfl) pl12_41 rfl (Nat.le_of_ble_eq_true rfl) rfl (ms28 xs) hx8 (am_T_mono ?_ H1)
  rintro v h1 ⟨x, rfl, hF1, hall⟩
  have hM1 := hM.fr hF1
  refine ax_aload_n (dd DL_ok 189 rfl) rfl (Or.inr (Or.inl ⟨_, rfl⟩)) ?_
  refine ax_aload_n (dd DL_ok 190 rfl) rfl (Or.inr (Or.inr ⟨_, rfl⟩)) ?_
  refine ax_iload_n (dd DL_ok 191 rfl) rfl ?_
  refine ax_iconst (v := 1) (dd DL_ok 192 rfl) (by decide) ?_
  refine ax_iadd (dd DL_ok 193 rfl) ?_
  refine law_ld (k := 1) (kk := 1) (dd DL_ok 194 rfl) nI_k (six_lt h6 (by decide)) hl ?_
  refine ax_callv (as := [.int (xs.getD (6 * i + 1) 0)]) (rest := [.int x]) (dd DL_ok 195 rfl) pl12_44 rfl (Nat.le_of_ble_eq_true rfl) rfl (ms115 xs) hM1.1 (am_T_mono ?_ (H2 h1 hM1))
  rintro v' h2 ⟨M', hM2, hF2, x', rfl, hrp⟩
  obtain ⟨rfl, A', S', K', nn', W', t', Wp', hR1, hL1⟩ := hall x' M' hrp
  refine ax_icmp_eq (tgt := 466) (dd DL_ok 196 rfl) (by decide) (fun _ => ?_) (fun c => absurd rfl c)
  exact fin h2 ⟨A', S', M', K', nn', W', t', Wp', hR1.fr hF2, hM2, hL1⟩
theorem law_7 (hD : md_D mo ad) (hl : xs.length ≤ 3072) (h6 : 6 * i + 6 ≤ xs.length) (hi : i ≤ 600) (hH : LH mo ad i h) (fin : ∀ h2, LH mo ad (i + 1) h2 → am_wp (am_Bx xs) am_nm (am_T (am_Bx xs) am_nm 1200) am_Ql am_Il (466, [some (.retAddr 0), some (.ref 0), some (.ref mo), some (.int (nI (6 * i)))], [], h2)) : am_wp (am_Bx xs) am_nm (am_T (am_Bx xs) am_nm 1200) am_Ql am_Il (315, [some (.retAddr 0), some (.ref 0), some (.ref mo), some (.int (nI (6 * i)))], [], h) := by
  obtain ⟨A, S, M, K, nn, W, t, Wp, hR, hM, hL⟩ := hH
  have hx8 : h[0]? = some (.inl (8, (List.range 5).map (fun k => cl_fv A S 8 k 0))) := by
    have := (hR.1 8 0 hL.1.1.2.1.2.1.2.2.1).1
    rw [hL.2.2.2] at this
    rw [this]
    rfl
  obtain ⟨RP, H1, H2⟩ := op_box (xs := xs) hD hL hR (xs.getD (6 * i + 1) 0) (xs.getD (6 * i + 2) 0)
  refine ax_aload_n (dd DL_ok 199 rfl) rfl (Or.inr (Or.inl ⟨_, rfl⟩)) ?_
  refine ax_aload_n (dd DL_ok 200 rfl) rfl (Or.inr (Or.inr ⟨_, rfl⟩)) ?_
  refine ax_iload_n (dd DL_ok 201 rfl) rfl ?_
  refine ax_iconst (v := 1) (dd DL_ok 202 rfl) (by decide) ?_
  refine ax_iadd (dd DL_ok 203 rfl) ?_
  refine law_ld (k := 1) (kk := 1) (dd DL_ok 204 rfl) nI_k (six_lt h6 (by decide)) hl ?_
  refine ax_aload_n (dd DL_ok 205 rfl) rfl (Or.inr (Or.inr ⟨_, rfl⟩)) ?_
  refine ax_iload_n (dd DL_ok 206 rfl) rfl ?_
  refine ax_iconst (v := 2) (dd DL_ok 207 rfl) (by decide) ?_
  refine ax_iadd (dd DL_ok 208 rfl) ?_
  refine law_ld (k := 2) (kk := 2) (dd DL_ok 209 rfl) nI_k (six_lt h6 (by decide)) hl ?_
  refine ax_callv (as := [.int (xs.getD (6 * i + 1) 0), .int (xs.getD (6 * i + 2) 0)]) (rest := []) (dd DL_ok 210 rfl) pl12_45 rfl (Nat.le_of_ble_eq_true rfl) rfl (ms99 xs) hx8 (am_T_mono ?_ H1)
  rintro v h1 ⟨x, rfl, hF1, hall⟩
  have hM1 := hM.fr hF1
  refine ax_aload_n (dd DL_ok 211 rfl) rfl (Or.inr (Or.inl ⟨_, rfl⟩)) ?_
  refine ax_aload_n (dd DL_ok 212 rfl) rfl (Or.inr (Or.inr ⟨_, rfl⟩)) ?_
  refine ax_iload_n (dd DL_ok 213 rfl) rfl ?_
  refine ax_iconst (v := 1) (dd DL_ok 214 rfl) (by decide) ?_
  refine ax_iadd (dd DL_ok 215 rfl) ?_
  refine law_ld (k := 1) (kk := 1) (dd DL_ok 216 rfl) nI_k (six_lt h6 (by decide)) hl ?_
  refine ax_aload_n (dd DL_ok 217 rfl) rfl (Or.inr (Or.inr ⟨_, rfl⟩)) ?_
  refine ax_iload_n (dd DL_ok 218 rfl) rfl ?_
  refine ax_iconst (v := 2) (dd DL_ok 219 rfl) (by decide) ?_
  refine ax_iadd (dd DL_ok 220 rfl) ?_
  refine law_ld (k := 2) (kk := 2) (dd DL_ok 221 rfl) nI_k (six_lt h6 (by decide)) hl ?_
  refine ax_callv (as := [.int (xs.getD (6 * i + 1) 0), .int (xs.getD (6 * i + 2) 0)]) (rest := [.int x]) (dd DL_ok 222 rfl) pl12_48 rfl (Nat.le_of_ble_eq_true rfl) rfl (ms147 xs) hM1.1 (am_T_mono ?_ (H2 h1 hM1))
  rintro v' h2 ⟨M', hM2, hF2, x', rfl, hrp⟩
  obtain ⟨rfl, A', S', K', nn', W', t', Wp', hR1, hL1⟩ := hall x' M' hrp
  refine ax_icmp_eq (tgt := 466) (dd DL_ok 223 rfl) (by decide) (fun _ => ?_) (fun c => absurd rfl c)
  exact fin h2 ⟨A', S', M', K', nn', W', t', Wp', hR1.fr hF2, hM2, hL1⟩
theorem law_8 (hD : md_D mo ad) (hl : xs.length ≤ 3072) (h6 : 6 * i + 6 ≤ xs.length) (hi : i ≤ 600) (hH : LH mo ad i h) (fin : ∀ h2, LH mo ad (i + 1) h2 → am_wp (am_Bx xs) am_nm (am_T (am_Bx xs) am_nm 1200) am_Ql am_Il (466, [some (.retAddr 0), some (.ref 0), some (.ref mo), some (.int (nI (6 * i)))], [], h2)) : am_wp (am_Bx xs) am_nm (am_T (am_Bx xs) am_nm 1200) am_Ql am_Il (348, [some (.retAddr 0), some (.ref 0), some (.ref mo), some (.int (nI (6 * i)))], [], h) := by
  obtain ⟨A, S, M, K, nn, W, t, Wp, hR, hM, hL⟩ := hH
  have hx8 : h[0]? = some (.inl (8, (List.range 5).map (fun k => cl_fv A S 8 k 0))) := by
    have := (hR.1 8 0 hL.1.1.2.1.2.1.2.2.1).1
    rw [hL.2.2.2] at this
    rw [this]
    rfl
  obtain ⟨RP, H1, H2⟩ := op_words (xs := xs) hD hL hR 
  refine ax_aload_n (dd DL_ok 226 rfl) rfl (Or.inr (Or.inl ⟨_, rfl⟩)) ?_
  refine ax_callv (as := []) (rest := []) (dd DL_ok 227 rfl) pl12_49 rfl (Nat.le_of_ble_eq_true rfl) rfl (ms100 xs) hx8 (am_T_mono ?_ H1)
  rintro v h1 ⟨x, rfl, hF1, hall⟩
  have hM1 := hM.fr hF1
  refine ax_aload_n (dd DL_ok 228 rfl) rfl (Or.inr (Or.inl ⟨_, rfl⟩)) ?_
  refine ax_callv (as := []) (rest := [.int x]) (dd DL_ok 229 rfl) pl12_53 rfl (Nat.le_of_ble_eq_true rfl) rfl (ms148 xs) hM1.1 (am_T_mono ?_ (H2 h1 hM1))
  rintro v' h2 ⟨M', hM2, hF2, x', rfl, hrp⟩
  obtain ⟨rfl, A', S', K', nn', W', t', Wp', hR1, hL1⟩ := hall x' M' hrp
  refine ax_icmp_eq (tgt := 466) (dd DL_ok 230 rfl) (by decide) (fun _ => ?_) (fun c => absurd rfl c)
  exact fin h2 ⟨A', S', M', K', nn', W', t', Wp', hR1.fr hF2, hM2, hL1⟩
theorem law_9 (hD : md_D mo ad) (hl : xs.length ≤ 3072) (h6 : 6 * i + 6 ≤ xs.length) (hi : i ≤ 600) (hH : LH mo ad i h) (fin : ∀ h2, LH mo ad (i + 1) h2 → am_wp (am_Bx xs) am_nm (am_T (am_Bx xs) am_nm 1200) am_Ql am_Il (466, [some (.retAddr 0), some (.ref 0), some (.ref mo), some (.int (nI (6 * i)))], [], h2)) : am_wp (am_Bx xs) am_nm (am_T (am_Bx xs) am_nm 1200) am_Ql am_Il (361, [some (.retAddr 0), some (.ref 0), some (.ref mo), some (.int (nI (6 * i)))], [], h) := by
  obtain ⟨A, S, M, K, nn, W, t, Wp, hR, hM, hL⟩ := hH
  have hx8 : h[0]? = some (.inl (8, (List.range 5).map (fun k => cl_fv A S 8 k 0))) := by
    have := (hR.1 8 0 hL.1.1.2.1.2.1.2.2.1).1
    rw [hL.2.2.2] at this
    rw [this]
    rfl
  obtain ⟨RP, H1, H2⟩ := op_word (xs := xs) hD hL hR (xs.getD (6 * i + 1) 0) (xs.getD (6 * i + 2) 0)
  refine ax_aload_n (dd DL_ok 233 rfl) rfl (Or.inr (Or.inl ⟨_, rfl⟩)) ?_
  refine ax_aload_n (dd DL_ok 234 rfl) rfl (Or.inr (Or.inr ⟨_, rfl⟩)) ?_
  refine ax_iload_n (dd DL_ok 235 rfl) rfl ?_
  refine ax_iconst (v := 1) (dd DL_ok 236 rfl) (by decide) ?_
  refine ax_iadd (dd DL_ok 237 rfl) ?_
  refine law_ld (k := 1) (kk := 1) (dd DL_ok 238 rfl) nI_k (six_lt h6 (by decide)) hl ?_
  refine ax_aload_n (dd DL_ok 239 rfl) rfl (Or.inr (Or.inr ⟨_, rfl⟩)) ?_
  refine ax_iload_n (dd DL_ok 240 rfl) rfl ?_
  refine ax_iconst (v := 2) (dd DL_ok 241 rfl) (by decide) ?_
  refine ax_iadd (dd DL_ok 242 rfl) ?_
  refine law_ld (k := 2) (kk := 2) (dd DL_ok 243 rfl) nI_k (six_lt h6 (by decide)) hl ?_
  refine ax_callv (as := [.int (xs.getD (6 * i + 1) 0), .int (xs.getD (6 * i + 2) 0)]) (rest := []) (dd DL_ok 244 rfl) pl12_54 rfl (Nat.le_of_ble_eq_true rfl) rfl (ms101 xs) hx8 (am_T_mono ?_ H1)
  rintro v h1 ⟨x, rfl, hF1, hall⟩
  have hM1 := hM.fr hF1
  refine ax_aload_n (dd DL_ok 245 rfl) rfl (Or.inr (Or.inl ⟨_, rfl⟩)) ?_
  refine ax_aload_n (dd DL_ok 246 rfl) rfl (Or.inr (Or.inr ⟨_, rfl⟩)) ?_
  refine ax_iload_n (dd DL_ok 247 rfl) rfl ?_
  refine ax_iconst (v := 1) (dd DL_ok 248 rfl) (by decide) ?_
  refine ax_iadd (dd DL_ok 249 rfl) ?_
  refine law_ld (k := 1) (kk := 1) (dd DL_ok 250 rfl) nI_k (six_lt h6 (by decide)) hl ?_
  refine ax_aload_n (dd DL_ok 251 rfl) rfl (Or.inr (Or.inr ⟨_, rfl⟩)) ?_
  refine ax_iload_n (dd DL_ok 252 rfl) rfl ?_
  refine ax_iconst (v := 2) (dd DL_ok 253 rfl) (by decide) ?_
  refine ax_iadd (dd DL_ok 254 rfl) ?_
  refine law_ld (k := 2) (kk := 2) (dd DL_ok 255 rfl) nI_k (six_lt h6 (by decide)) hl ?_
  refine ax_callv (as := [.int (xs.getD (6 * i + 1) 0), .int (xs.getD (6 * i + 2) 0)]) (rest := [.int x]) (dd DL_ok 256 rfl) pl12_57 rfl (Nat.le_of_ble_eq_true rfl) rfl (ms149 xs) hM1.1 (am_T_mono ?_ (H2 h1 hM1))
  rintro v' h2 ⟨M', hM2, hF2, x', rfl, hrp⟩
  obtain ⟨rfl, A', S', K', nn', W', t', Wp', hR1, hL1⟩ := hall x' M' hrp
  refine ax_icmp_eq (tgt := 466) (dd DL_ok 257 rfl) (by decide) (fun _ => ?_) (fun c => absurd rfl c)
  exact fin h2 ⟨A', S', M', K', nn', W', t', Wp', hR1.fr hF2, hM2, hL1⟩
theorem law_10 (hD : md_D mo ad) (hl : xs.length ≤ 3072) (h6 : 6 * i + 6 ≤ xs.length) (hi : i ≤ 600) (hH : LH mo ad i h) (fin : ∀ h2, LH mo ad (i + 1) h2 → am_wp (am_Bx xs) am_nm (am_T (am_Bx xs) am_nm 1200) am_Ql am_Il (466, [some (.retAddr 0), some (.ref 0), some (.ref mo), some (.int (nI (6 * i)))], [], h2)) : am_wp (am_Bx xs) am_nm (am_T (am_Bx xs) am_nm 1200) am_Ql am_Il (394, [some (.retAddr 0), some (.ref 0), some (.ref mo), some (.int (nI (6 * i)))], [], h) := by
  obtain ⟨A, S, M, K, nn, W, t, Wp, hR, hM, hL⟩ := hH
  have hx8 : h[0]? = some (.inl (8, (List.range 5).map (fun k => cl_fv A S 8 k 0))) := by
    have := (hR.1 8 0 hL.1.1.2.1.2.1.2.2.1).1
    rw [hL.2.2.2] at this
    rw [this]
    rfl
  obtain ⟨RP, H1, H2⟩ := op_line (xs := xs) hD hL hR (xs.getD (6 * i + 1) 0)
  refine ax_aload_n (dd DL_ok 260 rfl) rfl (Or.inr (Or.inl ⟨_, rfl⟩)) ?_
  refine ax_aload_n (dd DL_ok 261 rfl) rfl (Or.inr (Or.inr ⟨_, rfl⟩)) ?_
  refine ax_iload_n (dd DL_ok 262 rfl) rfl ?_
  refine ax_iconst (v := 1) (dd DL_ok 263 rfl) (by decide) ?_
  refine ax_iadd (dd DL_ok 264 rfl) ?_
  refine law_ld (k := 1) (kk := 1) (dd DL_ok 265 rfl) nI_k (six_lt h6 (by decide)) hl ?_
  refine ax_callv (as := [.int (xs.getD (6 * i + 1) 0)]) (rest := []) (dd DL_ok 266 rfl) pl12_58 rfl (Nat.le_of_ble_eq_true rfl) rfl (ms102 xs) hx8 (am_T_mono ?_ H1)
  rintro v h1 ⟨x, rfl, hF1, hall⟩
  have hM1 := hM.fr hF1
  refine ax_aload_n (dd DL_ok 267 rfl) rfl (Or.inr (Or.inl ⟨_, rfl⟩)) ?_
  refine ax_aload_n (dd DL_ok 268 rfl) rfl (Or.inr (Or.inr ⟨_, rfl⟩)) ?_
  refine ax_iload_n (dd DL_ok 269 rfl) rfl ?_
  refine ax_iconst (v := 1) (dd DL_ok 270 rfl) (by decide) ?_
  refine ax_iadd (dd DL_ok 271 rfl) ?_
  refine law_ld (k := 1) (kk := 1) (dd DL_ok 272 rfl) nI_k (six_lt h6 (by decide)) hl ?_
  refine ax_callv (as := [.int (xs.getD (6 * i + 1) 0)]) (rest := [.int x]) (dd DL_ok 273 rfl) pl12_61 rfl (Nat.le_of_ble_eq_true rfl) rfl (ms150 xs) hM1.1 (am_T_mono ?_ (H2 h1 hM1))
  rintro v' h2 ⟨M', hM2, hF2, x', rfl, hrp⟩
  obtain ⟨rfl, A', S', K', nn', W', t', Wp', hR1, hL1⟩ := hall x' M' hrp
  refine ax_icmp_eq (tgt := 466) (dd DL_ok 274 rfl) (by decide) (fun _ => ?_) (fun c => absurd rfl c)
  exact fin h2 ⟨A', S', M', K', nn', W', t', Wp', hR1.fr hF2, hM2, hL1⟩
theorem law_11 (hD : md_D mo ad) (hl : xs.length ≤ 3072) (h6 : 6 * i + 6 ≤ xs.length) (hi : i ≤ 600) (hH : LH mo ad i h) (fin : ∀ h2, LH mo ad (i + 1) h2 → am_wp (am_Bx xs) am_nm (am_T (am_Bx xs) am_nm 1200) am_Ql am_Il (466, [some (.retAddr 0), some (.ref 0), some (.ref mo), some (.int (nI (6 * i)))], [], h2)) : am_wp (am_Bx xs) am_nm (am_T (am_Bx xs) am_nm 1200) am_Ql am_Il (417, [some (.retAddr 0), some (.ref 0), some (.ref mo), some (.int (nI (6 * i)))], [], h) := by
  obtain ⟨A, S, M, K, nn, W, t, Wp, hR, hM, hL⟩ := hH
  have hx8 : h[0]? = some (.inl (8, (List.range 5).map (fun k => cl_fv A S 8 k 0))) := by
    have := (hR.1 8 0 hL.1.1.2.1.2.1.2.2.1).1
    rw [hL.2.2.2] at this
    rw [this]
    rfl
  by_cases c : (xs.getD (6 * i + 2) 0) = 0
  · obtain ⟨RP, H1, H2⟩ := op_margin (xs := xs) hD hL hR hM (xs.getD (6 * i + 1) 0) 0
    refine ax_aload_n (dd DL_ok 277 rfl) rfl (Or.inr (Or.inl ⟨_, rfl⟩)) ?_
    refine ax_aload_n (dd DL_ok 278 rfl) rfl (Or.inr (Or.inr ⟨_, rfl⟩)) ?_
    refine ax_iload_n (dd DL_ok 279 rfl) rfl ?_
    refine ax_iconst (v := 1) (dd DL_ok 280 rfl) (by decide) ?_
    refine ax_iadd (dd DL_ok 281 rfl) ?_
    refine law_ld (k := 1) (kk := 1) (dd DL_ok 282 rfl) nI_k (six_lt h6 (by decide)) hl ?_
    refine ax_aload_n (dd DL_ok 283 rfl) rfl (Or.inr (Or.inr ⟨_, rfl⟩)) ?_
    refine ax_iload_n (dd DL_ok 284 rfl) rfl ?_
    refine ax_iconst (v := 2) (dd DL_ok 285 rfl) (by decide) ?_
    refine ax_iadd (dd DL_ok 286 rfl) ?_
    refine law_ld (k := 2) (kk := 2) (dd DL_ok 287 rfl) nI_k (six_lt h6 (by decide)) hl ?_
    refine ax_if_eq (tgt := 435) (dd DL_ok 288 rfl) (by decide) (fun _ => ?_) (fun q => absurd c q)
    refine ax_iconst (v := 0) (dd DL_ok 291 rfl) (by decide) ?_
    refine ax_callv (as := [.int (xs.getD (6 * i + 1) 0), .int 0]) (rest := []) (dd DL_ok 292 rfl) pl12_62 rfl (Nat.le_of_ble_eq_true rfl) rfl (ms103 xs) hx8 (am_T_mono ?_ H1)
    rintro v h1 ⟨x, rfl, hF1, hall⟩
    have hM1 := hM.fr hF1
    refine ax_aload_n (dd DL_ok 293 rfl) rfl (Or.inr (Or.inl ⟨_, rfl⟩)) ?_
    refine ax_aload_n (dd DL_ok 294 rfl) rfl (Or.inr (Or.inr ⟨_, rfl⟩)) ?_
    refine ax_iload_n (dd DL_ok 295 rfl) rfl ?_
    refine ax_iconst (v := 1) (dd DL_ok 296 rfl) (by decide) ?_
    refine ax_iadd (dd DL_ok 297 rfl) ?_
    refine law_ld (k := 1) (kk := 1) (dd DL_ok 298 rfl) nI_k (six_lt h6 (by decide)) hl ?_
    refine ax_aload_n (dd DL_ok 299 rfl) rfl (Or.inr (Or.inr ⟨_, rfl⟩)) ?_
    refine ax_iload_n (dd DL_ok 300 rfl) rfl ?_
    refine ax_iconst (v := 2) (dd DL_ok 301 rfl) (by decide) ?_
    refine ax_iadd (dd DL_ok 302 rfl) ?_
    refine law_ld (k := 2) (kk := 2) (dd DL_ok 303 rfl) nI_k (six_lt h6 (by decide)) hl ?_
    refine ax_if_eq (tgt := 457) (dd DL_ok 304 rfl) (by decide) (fun _ => ?_) (fun q => absurd c q)
    refine ax_iconst (v := 0) (dd DL_ok 307 rfl) (by decide) ?_
    refine ax_callv (as := [.int (xs.getD (6 * i + 1) 0), .int 0]) (rest := [.int x]) (dd DL_ok 308 rfl) pl12_66 rfl (Nat.le_of_ble_eq_true rfl) rfl (ms151 xs) hM1.1 (am_T_mono ?_ (H2 h1 hM1))
    rintro v' h2 ⟨M', hM2, hF2, x', rfl, hrp⟩
    obtain ⟨rfl, A', S', K', nn', W', t', Wp', hR1, hL1⟩ := hall x' M' hrp
    refine ax_icmp_eq (tgt := 466) (dd DL_ok 309 rfl) (by decide) (fun _ => ?_) (fun c => absurd rfl c)
    exact fin h2 ⟨A', S', M', K', nn', W', t', Wp', hR1.fr hF2, hM2, hL1⟩
  · obtain ⟨RP, H1, H2⟩ := op_margin (xs := xs) hD hL hR hM (xs.getD (6 * i + 1) 0) 1
    refine ax_aload_n (dd DL_ok 277 rfl) rfl (Or.inr (Or.inl ⟨_, rfl⟩)) ?_
    refine ax_aload_n (dd DL_ok 278 rfl) rfl (Or.inr (Or.inr ⟨_, rfl⟩)) ?_
    refine ax_iload_n (dd DL_ok 279 rfl) rfl ?_
    refine ax_iconst (v := 1) (dd DL_ok 280 rfl) (by decide) ?_
    refine ax_iadd (dd DL_ok 281 rfl) ?_
    refine law_ld (k := 1) (kk := 1) (dd DL_ok 282 rfl) nI_k (six_lt h6 (by decide)) hl ?_
    refine ax_aload_n (dd DL_ok 283 rfl) rfl (Or.inr (Or.inr ⟨_, rfl⟩)) ?_
    refine ax_iload_n (dd DL_ok 284 rfl) rfl ?_
    refine ax_iconst (v := 2) (dd DL_ok 285 rfl) (by decide) ?_
    refine ax_iadd (dd DL_ok 286 rfl) ?_
    refine law_ld (k := 2) (kk := 2) (dd DL_ok 287 rfl) nI_k (six_lt h6 (by decide)) hl ?_
    refine ax_if_eq (tgt := 435) (dd DL_ok 288 rfl) (by decide) (fun q => absurd q c) (fun _ => ?_)
    refine ax_iconst (v := 1) (dd DL_ok 289 rfl) (by decide) ?_
    refine ax_goto (tgt := 436) (dd DL_ok 290 rfl) (by decide) ?_
    refine ax_callv (as := [.int (xs.getD (6 * i + 1) 0), .int 1]) (rest := []) (dd DL_ok 292 rfl) pl12_62 rfl (Nat.le_of_ble_eq_true rfl) rfl (ms103 xs) hx8 (am_T_mono ?_ H1)
    rintro v h1 ⟨x, rfl, hF1, hall⟩
    have hM1 := hM.fr hF1
    refine ax_aload_n (dd DL_ok 293 rfl) rfl (Or.inr (Or.inl ⟨_, rfl⟩)) ?_
    refine ax_aload_n (dd DL_ok 294 rfl) rfl (Or.inr (Or.inr ⟨_, rfl⟩)) ?_
    refine ax_iload_n (dd DL_ok 295 rfl) rfl ?_
    refine ax_iconst (v := 1) (dd DL_ok 296 rfl) (by decide) ?_
    refine ax_iadd (dd DL_ok 297 rfl) ?_
    refine law_ld (k := 1) (kk := 1) (dd DL_ok 298 rfl) nI_k (six_lt h6 (by decide)) hl ?_
    refine ax_aload_n (dd DL_ok 299 rfl) rfl (Or.inr (Or.inr ⟨_, rfl⟩)) ?_
    refine ax_iload_n (dd DL_ok 300 rfl) rfl ?_
    refine ax_iconst (v := 2) (dd DL_ok 301 rfl) (by decide) ?_
    refine ax_iadd (dd DL_ok 302 rfl) ?_
    refine law_ld (k := 2) (kk := 2) (dd DL_ok 303 rfl) nI_k (six_lt h6 (by decide)) hl ?_
    refine ax_if_eq (tgt := 457) (dd DL_ok 304 rfl) (by decide) (fun q => absurd q c) (fun _ => ?_)
    refine ax_iconst (v := 1) (dd DL_ok 305 rfl) (by decide) ?_
    refine ax_goto (tgt := 458) (dd DL_ok 306 rfl) (by decide) ?_
    refine ax_callv (as := [.int (xs.getD (6 * i + 1) 0), .int 1]) (rest := [.int x]) (dd DL_ok 308 rfl) pl12_66 rfl (Nat.le_of_ble_eq_true rfl) rfl (ms151 xs) hM1.1 (am_T_mono ?_ (H2 h1 hM1))
    rintro v' h2 ⟨M', hM2, hF2, x', rfl, hrp⟩
    obtain ⟨rfl, A', S', K', nn', W', t', Wp', hR1, hL1⟩ := hall x' M' hrp
    refine ax_icmp_eq (tgt := 466) (dd DL_ok 309 rfl) (by decide) (fun _ => ?_) (fun c => absurd rfl c)
    exact fin h2 ⟨A', S', M', K', nn', W', t', Wp', hR1.fr hF2, hM2, hL1⟩
theorem law_step (hD : md_D mo ad) (hl : xs.length ≤ 3072) (h6 : 6 * i + 6 ≤ xs.length) (hi : i ≤ 600) (hH : LH mo ad i h) (fin : ∀ h2, LH mo ad (i + 1) h2 → am_wp (am_Bx xs) am_nm (am_T (am_Bx xs) am_nm 1200) am_Ql am_Il (466, [some (.retAddr 0), some (.ref 0), some (.ref mo), some (.int (nI (6 * i)))], [], h2)) : am_wp (am_Bx xs) am_nm (am_T (am_Bx xs) am_nm 1200) am_Ql am_Il (27, [some (.retAddr 0), some (.ref 0), some (.ref mo), some (.int (nI (6 * i)))], [], h) := by
  refine ax_aload_n (dd DL_ok 16 rfl) rfl (Or.inr (Or.inr ⟨_, rfl⟩)) ?_
  refine ax_iload_n (dd DL_ok 17 rfl) rfl ?_
  refine law_ld0 (dd DL_ok 18 rfl) (six_lt h6 (by decide)) hl ?_
  refine ax_bipush (v := 15) (dd DL_ok 19 rfl) (by decide) ?_
  refine ax_iand (dd DL_ok 20 rfl) ?_
  generalize xs.getD (6 * i + 0) 0 &&& 15 = v
  have hv : v.toInt < 0 ∨ 11 < v.toInt ∨ v.toInt = 0 ∨ v.toInt = 1 ∨ v.toInt = 2 ∨ v.toInt = 3 ∨ v.toInt = 4 ∨ v.toInt = 5 ∨ v.toInt = 6 ∨ v.toInt = 7 ∨ v.toInt = 8 ∨ v.toInt = 9 ∨ v.toInt = 10 ∨ v.toInt = 11 := by omega
  rcases hv with q | q | q | q | q | q | q | q | q | q | q | q | q | q
  · refine ax_tsw (tgt := 466) (dd DL_ok 21 rfl) (Or.inl ⟨Or.inl q, by decide⟩) ?_
    obtain ⟨A, S, M, K, nn, W, t, Wp, hR, hM, hL⟩ := hH
    exact fin h ⟨A, S, M, K, nn, W, t, Wp, hR, hM, hL.nx⟩
  · refine ax_tsw (tgt := 466) (dd DL_ok 21 rfl) (Or.inl ⟨Or.inr q, by decide⟩) ?_
    obtain ⟨A, S, M, K, nn, W, t, Wp, hR, hM, hL⟩ := hH
    exact fin h ⟨A, S, M, K, nn, W, t, Wp, hR, hM, hL.nx⟩
  · refine ax_tsw (tgt := 96) (dd DL_ok 21 rfl) (Or.inr ⟨by rw [q]; decide, by rw [q]; decide, _, by rw [q]; rfl, by decide⟩) ?_
    exact law_0 hD hl h6 hi hH fin
  · refine ax_tsw (tgt := 159) (dd DL_ok 21 rfl) (Or.inr ⟨by rw [q]; decide, by rw [q]; decide, _, by rw [q]; rfl, by decide⟩) ?_
    exact law_1 hD hl h6 hi hH fin
  · refine ax_tsw (tgt := 182) (dd DL_ok 21 rfl) (Or.inr ⟨by rw [q]; decide, by rw [q]; decide, _, by rw [q]; rfl, by decide⟩) ?_
    exact law_2 hD hl h6 hi hH fin
  · refine ax_tsw (tgt := 193) (dd DL_ok 21 rfl) (Or.inr ⟨by rw [q]; decide, by rw [q]; decide, _, by rw [q]; rfl, by decide⟩) ?_
    exact law_3 hD hl h6 hi hH fin
  · refine ax_tsw (tgt := 226) (dd DL_ok 21 rfl) (Or.inr ⟨by rw [q]; decide, by rw [q]; decide, _, by rw [q]; rfl, by decide⟩) ?_
    exact law_4 hD hl h6 hi hH fin
  · refine ax_tsw (tgt := 249) (dd DL_ok 21 rfl) (Or.inr ⟨by rw [q]; decide, by rw [q]; decide, _, by rw [q]; rfl, by decide⟩) ?_
    exact law_5 hD hl h6 hi hH fin
  · refine ax_tsw (tgt := 292) (dd DL_ok 21 rfl) (Or.inr ⟨by rw [q]; decide, by rw [q]; decide, _, by rw [q]; rfl, by decide⟩) ?_
    exact law_6 hD hl h6 hi hH fin
  · refine ax_tsw (tgt := 315) (dd DL_ok 21 rfl) (Or.inr ⟨by rw [q]; decide, by rw [q]; decide, _, by rw [q]; rfl, by decide⟩) ?_
    exact law_7 hD hl h6 hi hH fin
  · refine ax_tsw (tgt := 348) (dd DL_ok 21 rfl) (Or.inr ⟨by rw [q]; decide, by rw [q]; decide, _, by rw [q]; rfl, by decide⟩) ?_
    exact law_8 hD hl h6 hi hH fin
  · refine ax_tsw (tgt := 361) (dd DL_ok 21 rfl) (Or.inr ⟨by rw [q]; decide, by rw [q]; decide, _, by rw [q]; rfl, by decide⟩) ?_
    exact law_9 hD hl h6 hi hH fin
  · refine ax_tsw (tgt := 394) (dd DL_ok 21 rfl) (Or.inr ⟨by rw [q]; decide, by rw [q]; decide, _, by rw [q]; rfl, by decide⟩) ?_
    exact law_10 hD hl h6 hi hH fin
  · refine ax_tsw (tgt := 417) (dd DL_ok 21 rfl) (Or.inr ⟨by rw [q]; decide, by rw [q]; decide, _, by rw [q]; rfl, by decide⟩) ?_
    exact law_11 hD hl h6 hi hH fin
theorem law_loop (hD : md_D mo ad) (hl : xs.length ≤ 3072) : ∀ r i h, i + r = xs.length / 6 → LH mo ad i h → am_wp (am_Bx xs) am_nm (am_T (am_Bx xs) am_nm 1200) am_Ql am_Il (18, [some (.retAddr 0), some (.ref 0), some (.ref mo), some (.int (nI (6 * i)))], [], h) := by
  intro r
  induction r with
  | zero =>
    intro i h hi hH
    refine ax_iload_n (dd DL_ok 10 rfl) rfl ?_
    refine ax_aload_n (dd DL_ok 11 rfl) rfl (Or.inr (Or.inr ⟨_, rfl⟩)) ?_
    refine ax_alen (dd DL_ok 12 rfl) (law_arr h) (Or.inl rfl) ?_
    refine ax_bipush (v := 6) (dd DL_ok 13 rfl) (by decide) ?_
    refine ax_isub (dd DL_ok 14 rfl) ?_
    have hcmp : Int32.ofNat (xs.map Value.int).length - 6 < nI (6 * i) := by
      rw [List.length_map, Int32.lt_iff_toInt_lt, nI_toInt (by omega), Int32.toInt_sub, show (Int32.ofNat xs.length).toInt = (nI xs.length).toInt from rfl, nI_toInt (by omega), show (6 : Int32).toInt = 6 by decide, bmod_small (by omega) (by omega)]
      omega
    refine ax_icmp_gt (tgt := 472) (dd DL_ok 15 rfl) (by decide) (fun _ => ?_) (fun c => absurd hcmp c)
    refine ax_iconst (v := 1) (dd DL_ok 314 rfl) (by decide) ?_
    obtain ⟨A, S, M, K, nn, W, t, Wp, hR, hM, hL⟩ := hH
    refine ax_iret (dd DL_ok 315 rfl) (by decide) ⟨rfl, ?_, ?_⟩
    · have h1 := hL.2.2.1.2.1
      have h2 := hL.wp
      rw [hR.2.2.1]
      omega
    · have h1 := hL.2.2.1.2.2
      have h2 := hL.wp
      have h3 := hL.2.2.1.1
      rw [hR.2.2.2]
      omega
  | succ r ih =>
    intro i h hi hH
    refine ax_iload_n (dd DL_ok 10 rfl) rfl ?_
    refine ax_aload_n (dd DL_ok 11 rfl) rfl (Or.inr (Or.inr ⟨_, rfl⟩)) ?_
    refine ax_alen (dd DL_ok 12 rfl) (law_arr h) (Or.inl rfl) ?_
    refine ax_bipush (v := 6) (dd DL_ok 13 rfl) (by decide) ?_
    refine ax_isub (dd DL_ok 14 rfl) ?_
    have hcmp : ¬ Int32.ofNat (xs.map Value.int).length - 6 < nI (6 * i) := by
      rw [List.length_map, Int32.lt_iff_toInt_lt, nI_toInt (by omega), Int32.toInt_sub, show (Int32.ofNat xs.length).toInt = (nI xs.length).toInt from rfl, nI_toInt (by omega), show (6 : Int32).toInt = 6 by decide, bmod_small (by omega) (by omega)]
      omega
    refine ax_icmp_gt (tgt := 472) (dd DL_ok 15 rfl) (by decide) (fun c => absurd c hcmp) (fun _ => ?_)
    refine law_step hD hl (by omega) (by omega) hH (fun h2 hH2 => ?_)
    refine ax_iinc (v := nI (6 * (i + 1))) (dd DL_ok 312 rfl) rfl ?_ ?_
    · show nI (6 * i) + 6 = _
      rw [show (6 : Int32) = nI 6 from rfl, nI_add]
      rfl
    · refine ax_goto (tgt := 18) (dd DL_ok 313 rfl) (by decide) ?_
      exact ih (i + 1) h2 (by omega) hH2
end LAW
