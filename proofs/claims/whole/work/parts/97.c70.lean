/-! the class: listWords (by hand: wip/whole/gen/c70.py) -/
section LW3
variable {xs : List Int32} {Kp : Nat → Prop} {h0 : am_H} {d : Nat} {Q : Option Value → cl_A → cl_S → Prop} {P : md_S} {nn B1 B2 i c : Nat}
theorem pY.r3 {A A' : cl_A} {S S' : cl_S} {cs : List Nat} (h : pY cs A S A' S') (v : Int32) : cl_rf A 3 v = cl_rf A' 3 v := by
  unfold cl_rf
  rw [h.1.1]
theorem pY.r5 {A A' : cl_A} {S S' : cl_S} {cs : List Nat} (h : pY cs A S A' S') (v : Int32) : cl_rf A 5 v = cl_rf A' 5 v := by
  unfold cl_rf
  rw [h.1.2.1]
theorem pY.r8 {A A' : cl_A} {S S' : cl_S} {cs : List Nat} (h : pY cs A S A' S') (v : Int32) : cl_rf A 8 v = cl_rf A' 8 v := by
  unfold cl_rf
  rw [h.1.2.2.1]
/-- the word that is being read -/
def lo_o (s : Int32) (a j : Nat) (wd : Int32) : Option (Nat × Int32) := if a = j then none else some (a, wd * s)
theorem lws_loop (hB : B1 ≤ 100000) (hi : i < nn) (hc : P.2 11 i = nI c) (hc2 : c ≤ 120) : ∀ r j a A S W Wp (wd : Int32), j + r = c → a ≤ j → (a = j → wd = 0) → pI A S P nn W Wp B1 B2 → (∀ q, Kp q → q < S.2.2.1) → W + (ws_A (f_of P (nI i) 8) ((by_of P i).drop j) j (lo_o (f_of P (nI i) 8) a j wd)).length ≤ 3600 → (∀ t w, (ws_A (f_of P (nI i) 8) ((by_of P i).drop j) j (lo_o (f_of P (nI i) 8) a j wd))[t]? = some w → wd_at P i (f_of P (nI i) 8) (W + t) w) → (∀ A' S' Wp', pI A' S' P nn (W + (ws_A (f_of P (nI i) 8) ((by_of P i).drop j) j (lo_o (f_of P (nI i) 8) a j wd)).length) Wp' B1 B2 → pY [] A S A' S' → Q none A' S') → cl_wp xs Kp h0 (d + 8) Q I31 7 [some (cl_rf A 3 0), some (cl_rf A 5 (nI i)), some (.int (nI a)), some (.int wd), some (.int (nI j))] [] A S := by
  intro r
  induction r with
  | zero =>
    intro j a A S W Wp wd hj ha hwd hI hK hl hw k
    have hjc : j = c := by omega
    subst hjc
    have h60 := hI.1.1
    have ci : (nI i).toNatClampNeg = i := nI_clamp (by omega)
    have hnt := hI.nt hi
    obtain ⟨b1, b2, b3, b4, b5, b6, b7, b8, b9, b10, b11, b12, b13⟩ := hnt
    have hbn : cl_bn S (nI i) (S.2.1 508 i) = j := by
      rw [hc] at b10
      have := congrArg Int32.toInt b10
      rw [nI_toInt (by omega), nI_toInt (by omega)] at this
      omega
    have hd0 : (by_of P i).drop j = [] := List.drop_eq_nil_of_le (by rw [by_len hc hc2]; exact Nat.le_refl _)
    rw [hd0] at hl hw k
    refine vc31_7 ⟨b1, ?_⟩
    rw [ci, hbn]
    refine ⟨b9, fun _ => ?_, fun q => absurd (Int32.le_refl _) q⟩
    refine cl_call (as := [cl_rf A 5 (nI i), .int (nI a), .int (nI j), .int wd]) (rest := []) (dd D31_ok 47 rfl) pl3_104 rfl (Nat.le_of_ble_eq_true rfl) (ms34 xs) rfl (by decide) hI.1.2.1.l3 (kk_listWord (d := d) hI hi hB hK hc2 (by omega) (fun q => ?_) _ (fun A' S' Wp' k1 k2 => ?_)) rfl
    · unfold lo_o at hl hw
      rw [if_neg (by omega)] at hl hw
      obtain ⟨v1, v2, v3, v4, v5⟩ := hw 0 _ rfl
      refine ⟨?_, v1, v2, v3, v4, v5⟩
      simp only [ws_A, List.length_cons, List.length_nil] at hl
      omega
    · refine cl_vret (dd D31_ok 48 rfl) rfl (k A' S' Wp' ?_ k2)
      unfold lo_o
      by_cases q : a = j
      · rw [if_pos q]
        rw [if_neg (by omega)] at k1
        exact k1
      · rw [if_neg q]
        rw [if_pos (by omega)] at k1
        exact k1
  | succ r ih =>
    intro j a A S W Wp wd hj ha hwd hI hK hl hw k
    have h60 := hI.1.1
    have ci : (nI i).toNatClampNeg = i := nI_clamp (by omega)
    have hnt := hI.nt hi
    obtain ⟨b1, b2, b3, b4, b5, b6, b7, b8, b9, b10, b11, b12, b13⟩ := hnt
    have hbn : cl_bn S (nI i) (S.2.1 508 i) = c := by
      rw [hc] at b10
      have := congrArg Int32.toInt b10
      rw [nI_toInt (by omega), nI_toInt (by omega)] at this
      omega
    rw [hbn] at b12
    have hby : S.2.1 2300 (120 * i + j) = P.2 10 (120 * i + j) := b12 j (by omega)
    rw [by_drop hc hc2 (show j < c by omega)] at hl hw k
    generalize P.2 10 (120 * i + j) = b at hl hw k hby
    refine vc31_7 ⟨b1, ?_⟩
    rw [ci, hbn, nI_clamp (show j < 2 ^ 31 by omega), hby]
    refine ⟨b9, fun q => absurd q (nI_ge (by omega) (by omega)), fun _ => ⟨vp_nI (by omega) (by omega), fun q => ?_, fun q => ?_⟩⟩
    · -- a blank
      have hbl : ¬ f_blank b = 0 := q
      refine cl_call (as := [cl_rf A 5 (nI i), .int (nI a), .int (nI j), .int wd]) (rest := []) (dd D31_ok 31 rfl) pl3_104 rfl (Nat.le_of_ble_eq_true rfl) (ms34 xs) rfl (by decide) hI.1.2.1.l3 (kk_listWord (d := d) hI hi hB hK (by omega) (by omega) (fun q => ?_) _ (fun A' S' Wp' k1 k2 => ?_)) rfl
      · unfold lo_o at hl hw
        rw [if_neg (by omega)] at hl hw
        simp only [ws_A, if_neg hbl, List.length_cons] at hl hw
        obtain ⟨v1, v2, v3, v4, v5⟩ := hw 0 _ rfl
        exact ⟨by omega, v1, v2, v3, v4, v5⟩
      · show cl_wp xs Kp h0 (d + 8) Q I31 55 [some (cl_rf A 3 0), some (cl_rf A 5 (nI i)), some (.int (nI a)), some (.int wd), some (.int (nI j))] [] A' S'
        rw [k2.r3, k2.r5]
        refine vc31_55 ?_
        rw [nI_1]
        by_cases q : a = j
        · unfold lo_o at hl hw k
          rw [if_pos q] at hl hw k
          simp only [ws_A, if_neg hbl] at hl hw k
          rw [if_neg (by omega)] at k1
          refine ih (j + 1) (j + 1) A' S' W Wp' 0 (by omega) (Nat.le_refl _) (fun _ => rfl) k1 (fun z hz => Nat.lt_of_lt_of_le (hK z hz) k2.1.2.2.2) ?_ ?_ ?_
          · unfold lo_o
            rw [if_pos rfl]
            exact hl
          · unfold lo_o
            rw [if_pos rfl]
            exact hw
          · unfold lo_o
            rw [if_pos rfl]
            exact fun A2 S2 Wp2 m1 m2 => k A2 S2 Wp2 m1 (k2.tr m2)
        · unfold lo_o at hl hw k
          rw [if_neg q] at hl hw k
          simp only [ws_A, if_neg hbl, List.length_cons] at hl hw k
          rw [if_pos (by omega)] at k1
          refine ih (j + 1) (j + 1) A' S' (W + 1) Wp' 0 (by omega) (Nat.le_refl _) (fun _ => rfl) k1 (fun z hz => Nat.lt_of_lt_of_le (hK z hz) k2.1.2.2.2) ?_ ?_ ?_
          · unfold lo_o
            rw [if_pos rfl]
            omega
          · unfold lo_o
            rw [if_pos rfl]
            intro t w ht
            have := hw (t + 1) w ht
            rw [show W + 1 + t = W + (t + 1) by omega]
            exact this
          · unfold lo_o
            rw [if_pos rfl]
            intro A2 S2 Wp2 m1 m2
            refine k A2 S2 Wp2 ?_ (k2.tr m2)
            rw [show W + ((ws_A (f_of P (nI i) 8) ((by_of P i).drop (j + 1)) (j + 1) none).length + 1) = W + 1 + (ws_A (f_of P (nI i) 8) ((by_of P i).drop (j + 1)) (j + 1) none).length by omega]
            exact m1
    · -- within a word
      have hbl : f_blank b = 0 := Classical.not_not.mp q
      rw [nI_1]
      have ho : ws_A (f_of P (nI i) 8) (b :: (by_of P i).drop (j + 1)) j (lo_o (f_of P (nI i) 8) a j wd) = ws_A (f_of P (nI i) 8) ((by_of P i).drop (j + 1)) (j + 1) (lo_o (f_of P (nI i) 8) a (j + 1) (wd + f_glyph b)) := by
        unfold lo_o
        rw [if_neg (show ¬ a = j + 1 by omega)]
        by_cases q : a = j
        · rw [if_pos q]
          simp only [ws_A, if_pos hbl]
          rw [hwd q, q, Int32.zero_add, Int32.zero_add]
        · rw [if_neg q]
          simp only [ws_A, if_pos hbl]
          rw [Int32.add_mul]
      rw [ho] at hl hw k
      exact ih (j + 1) a A S W Wp _ (by omega) (by omega) (fun q => by omega) hI hK hl hw k
theorem kk_listWords {A : cl_A} {S : cl_S} {W Wp : Nat} (hI : pI A S P nn W Wp B1 B2) (hB : B1 ≤ 100000) (hi : i < nn) (hy : by_ok P i) (hK : ∀ q, Kp q → q < S.2.2.1) (hl : W + (ws_of P i).length ≤ 3600) (hw : ∀ t w, (ws_of P i)[t]? = some w → wd_at P i (f_of P (nI i) 8) (W + t) w) : ∀ Q', (∀ A' S' Wp', pI A' S' P nn (W + (ws_of P i).length) Wp' B1 B2 → pY [] A S A' S' → Q' none A' S') → cl_C xs Kp (d + 9) 31 [cl_rf A 3 0, cl_rf A 5 (nI i)] A S Q' := by
  intro Q' hQ
  obtain ⟨c, c1, c2⟩ := hy
  refine cl_intro (ms31 xs) (Nat.le_of_ble_eq_true rfl) (fun h0 => vc31_0 ?_)
  exact lws_loop hB hi c2 c1 c 0 0 A S W Wp 0 (by omega) (Nat.le_refl _) (fun _ => rfl) hI hK hl hw hQ
end LW3
