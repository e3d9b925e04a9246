/-! the class: text (by program and by hand: wip/whole/gen/c63.py) -/
set_option maxHeartbeats 1000000 in
theorem vc21_0 {xs : List Int32} {K : Nat → Prop} {h0 : am_H} {d : Nat} {Q : Option Value → cl_A → cl_S → Prop} {A : cl_A} {S : cl_S} {x1 : Int32}
    (k : (cl_z S) ∧ (cl_C xs K (d + 3) 19 [cl_rf A 8 0, .int x1] A S (fun v A' N1 => A' = A ∧ N1.1 = S.1 ∧ ∃ y1, v = some (cl_rf A 5 y1) ∧ (((y1 = -1) → Q (some (.int (-1))) A N1) ∧ (¬ (y1 = -1) → (cl_n N1 y1) ∧ (((¬ (N1.2.1 501 y1.toNatClampNeg) = 1) → Q (some (.int (-1))) A N1) ∧ (¬ (¬ (N1.2.1 501 y1.toNatClampNeg) = 1) → (((N1.2.1 801 0) ≤ 120) → cl_wp xs K h0 (d + 3) Q I21 38 [some (cl_rf A 8 0), some (.int x1), some (cl_rf A 5 y1)] [.int (N1.2.1 801 0), cl_rf A 20 0, cl_rf A 5 y1] A N1) ∧ (¬ ((N1.2.1 801 0) ≤ 120) → Q (some (.int (-1))) A N1)))))))) :
    cl_wp xs K h0 (d + 3) Q I21 0 [some (cl_rf A 8 0), some (.int x1), none] [] A S := by
  refine cl_aload_n (dd D21_ok 0 rfl) rfl ?_
  refine cl_iload_n (dd D21_ok 1 rfl) rfl ?_
  refine cl_call (as := [.int x1]) (rest := []) (v := 0) (dd D21_ok 2 rfl) pl8_57 rfl (Nat.le_of_ble_eq_true rfl) (ms19 xs) rfl (by decide) k.1.l8 ((k.2).mono ?_) rfl
  rintro v A N1 ⟨rfl, e1, y1, rfl, w1⟩
  refine cl_astore_n (dd D21_ok 3 rfl) (Nat.le_of_ble_eq_true rfl) ?_
  refine cl_aload_n (dd D21_ok 4 rfl) rfl ?_
  refine cl_ifnull (tgt := 27) (dd D21_ok 5 rfl) (by decide) (fun c1 => ?_) (fun c1 => ?_)
  · refine cl_iconst (v := (-1)) (dd D21_ok 14 rfl) (by decide) ?_
    exact cl_iret (dd D21_ok 15 rfl) rfl (w1.1 c1)
  · refine cl_aload_n (dd D21_ok 6 rfl) rfl ?_
    refine cl_gI (g := 501) (e := N1.2.1 501 y1.toNatClampNeg) (dd D21_ok 7 rfl) pl8_60 (by decide) (by decide) (by decide) rfl rfl (w1.2 c1).1.l5 rfl ?_
    refine cl_iconst (v := 1) (dd D21_ok 8 rfl) (by decide) ?_
    refine cl_icmp_ne (tgt := 27) (dd D21_ok 9 rfl) (by decide) (fun c2 => ?_) (fun c2 => ?_)
    · refine cl_iconst (v := (-1)) (dd D21_ok 14 rfl) (by decide) ?_
      exact cl_iret (dd D21_ok 15 rfl) rfl ((w1.2 c1).2.1 c2)
    · refine cl_aload_n (dd D21_ok 10 rfl) rfl ?_
      refine cl_gI (g := 801) (e := N1.2.1 801 0) (dd D21_ok 11 rfl) pl8_29 (by decide) (by decide) (by decide) rfl rfl (k.1.mv e1).l8 rfl ?_
      refine cl_bipush (v := 120) (dd D21_ok 12 rfl) (by decide) ?_
      refine cl_icmp_le (tgt := 29) (dd D21_ok 13 rfl) (by decide) (fun c3 => ?_) (fun c3 => ?_)
      · refine cl_aload_n (dd D21_ok 16 rfl) rfl ?_
        refine cl_aload_n (dd D21_ok 17 rfl) rfl ?_
        refine cl_getO (g := 20) (dd D21_ok 18 rfl) pl8_9 (by decide) (by decide) (by decide) rfl (k.1.mv e1).l8 ?_
        refine cl_aload_n (dd D21_ok 19 rfl) rfl ?_
        refine cl_gI (g := 801) (e := N1.2.1 801 0) (dd D21_ok 20 rfl) pl8_29 (by decide) (by decide) (by decide) rfl rfl (k.1.mv e1).l8 rfl ?_
        exact (((w1.2 c1).2.2 c2).1 c3)
      · refine cl_iconst (v := (-1)) (dd D21_ok 14 rfl) (by decide) ?_
        exact cl_iret (dd D21_ok 15 rfl) rfl (((w1.2 c1).2.2 c2).2 c3)
set_option maxHeartbeats 1000000 in
theorem vc21_44 {xs : List Int32} {K : Nat → Prop} {h0 : am_H} {d : Nat} {Q : Option Value → cl_A → cl_S → Prop} {A : cl_A} {S : cl_S} {x1 : Int32} {x2 : Int32}
    (k : (cl_z S) ∧ ((cl_n S x2) ∧ ((¬ (S.2.1 508 x2.toNatClampNeg) = -1 → S.1 23 x2.toNatClampNeg) ∧ (Q (some (.int (nI (cl_bn S x2 (S.2.1 508 x2.toNatClampNeg))))) A (cl_up S 801 0 0))))) :
    cl_wp xs K h0 (d + 3) Q I21 44 [some (cl_rf A 8 0), some (.int x1), some (cl_rf A 5 x2)] [] A S := by
  refine cl_aload_n (dd D21_ok 23 rfl) rfl ?_
  refine cl_iconst (v := 0) (dd D21_ok 24 rfl) (by decide) ?_
  refine cl_pI (g := 801) (dd D21_ok 25 rfl) pl8_29 (by decide) (by decide) rfl rfl rfl rfl rfl k.1.l8 ?_
  refine cl_aload_n (dd D21_ok 26 rfl) rfl ?_
  refine cl_gB (e := S.2.1 508 x2.toNatClampNeg) (dd D21_ok 27 rfl) pl8_69 (by decide) k.2.1.l5 (by first | rfl | simp [cl_up]) ?_
  refine cl_blen (dd D21_ok 28 rfl) k.2.2.1 ?_
  exact cl_iret (dd D21_ok 29 rfl) rfl k.2.2.2
theorem cpy_0 {vs : List Value} {n : Nat} : am_cpy vs (List.replicate n (.int 0)) 0 0 n = (List.range n).map (fun j => vs.getD j .null) := by
  unfold am_cpy
  rw [List.length_replicate]
  apply List.map_congr_left
  intro j hj
  have := List.mem_range.mp hj
  unfold va_cpy
  rw [if_pos (by omega)]
  simp
theorem r22 {xs : List Int32} {H : am_H} {d b n : Nat} {vs : List Value} (h0 : H[b]? = some (.inr (.byte, vs))) (hn : n < vs.length) (hl : vs.length ≤ 1000) (hf : ∀ v ∈ vs, fits .byte v = true) : ∀ Q : Option Value → am_H → Prop, Q (some (.ref H.length)) (H ++ [.inr (.byte, (List.range n).map (fun j => vs.getD j .null))]) → am_T (am_Bx xs) am_nm (d + 1) 22 [.ref b, .int (nI n)] H Q := by
  intro Q hQ
  have hb : b < H.length := (List.getElem?_eq_some_iff.mp h0).1
  have harr : am_arr (am_Bx xs) H (.ref b) = some (.byte, vs) := by
    unfold am_arr
    simp only [h0]
  have h1 : (H ++ [(Sum.inr (FieldType.byte, List.replicate (nI n).toNatClampNeg (Value.int 0)) : am_E)])[b]? = some (.inr (.byte, vs)) := by
    rw [List.getElem?_append_left hb]
    exact h0
  have harr1 : am_arr (am_Bx xs) (H ++ [(Sum.inr (FieldType.byte, List.replicate (nI n).toNatClampNeg (Value.int 0)) : am_E)]) (.ref b) = some (.byte, vs) := by
    unfold am_arr
    simp only [h1]
  have h2 : (H ++ [(Sum.inr (FieldType.byte, List.replicate (nI n).toNatClampNeg (Value.int 0)) : am_E)])[H.length]? = some (.inr (.byte, List.replicate (nI n).toNatClampNeg (Value.int 0))) := by
    rw [List.getElem?_append_right (Nat.le_refl _)]
    simp
  have cn : (nI n).toNatClampNeg = n := nI_clamp (by omega)
  refine ax_intro (ms22 xs) (Nat.le_of_ble_eq_true rfl) ?_
  refine ax_iload_n (dd D22_ok 0 rfl) rfl ?_
  refine ax_aload_n (dd D22_ok 1 rfl) rfl (Or.inr (Or.inl ⟨_, rfl⟩)) ?_
  refine ax_alen (dd D22_ok 2 rfl) harr (Or.inr (Or.inl rfl)) ?_
  refine ax_icmp_ne (tgt := 14) (dd D22_ok 3 rfl) (by decide) (fun _ => ?_) (fun c => ?_)
  · refine ax_iload_n (dd D22_ok 8 rfl) rfl ?_
    refine ax_newarr (dd D22_ok 9 rfl) rfl (Or.inr (Or.inl rfl)) (nI_pos (by omega)) (by rw [cn]; omega) ?_
    refine ax_astore_n (dd D22_ok 10 rfl) (Nat.le_of_ble_eq_true rfl) (Or.inr (Or.inl ⟨_, rfl⟩)) ?_
    refine ax_aload_n (dd D22_ok 11 rfl) rfl (Or.inr (Or.inl ⟨_, rfl⟩)) ?_
    refine ax_iconst (v := 0) (dd D22_ok 12 rfl) (by decide) ?_
    refine ax_aload_n (dd D22_ok 13 rfl) rfl (Or.inr (Or.inl ⟨_, rfl⟩)) ?_
    refine ax_iconst (v := 0) (dd D22_ok 14 rfl) (by decide) ?_
    refine ax_aload_n (dd D22_ok 15 rfl) rfl (Or.inr (Or.inl ⟨_, rfl⟩)) ?_
    refine ax_alen (dd D22_ok 16 rfl) harr1 (Or.inr (Or.inl rfl)) ?_
    refine ax_iload_n (dd D22_ok 17 rfl) rfl ?_
    refine ax_min (dd D22_ok 18 rfl) pl13_304 (Nat.le_of_ble_eq_true rfl) ?_
    rw [if_pos (show nI n < Int32.ofNat vs.length from Int32.not_le.mp (nI_ge (a := n) (b := vs.length) (by omega) (by omega)))]
    refine ax_copy (dd D22_ok 19 rfl) pl13_150 (Nat.le_of_ble_eq_true rfl) h1 h2 (Or.inl ⟨rfl, hf⟩) (by decide) (by decide) (nI_pos (by omega)) ?_ ?_ ?_
    · rw [cn]
      show 0 + n ≤ _
      omega
    · rw [cn, List.length_replicate]
      show 0 + n ≤ n
      omega
    · refine ax_aload_n (dd D22_ok 20 rfl) rfl (Or.inr (Or.inl ⟨_, rfl⟩)) ?_
      refine ax_aret (dd D22_ok 21 rfl) rfl (Or.inr (Or.inl ⟨_, rfl⟩)) ?_
      rw [cn]
      show Q (some (.ref H.length)) (List.set _ H.length (.inr (FieldType.byte, am_cpy vs (List.replicate n (.int 0)) 0 0 n)))
      rw [cpy_0, List.set_append_right _ _ (Nat.le_refl _)]
      simpa using hQ
  · exfalso
    have := congrArg Int32.toInt (Classical.not_not.mp c)
    rw [nI_toInt (by omega), show (Int32.ofNat vs.length).toInt = (nI vs.length).toInt from rfl, nI_toInt (by omega)] at this
    omega
/-- a text's bytes -/
def tA (A : cl_A) (i L : Nat) : cl_A := fun f j => if f = 23 ∧ j = i then L else A f j
def tS (S : cl_S) (i t : Nat) : cl_S := (fun f j => S.1 f j ∨ f = 23 ∧ j = i, fun g j => if g = 508 ∧ j = i then 0 else if g = 2301 ∧ j = i then nI t else if g = 2300 ∧ 120 * i ≤ j ∧ j < 120 * i + t then S.2.1 2000 (j - 120 * i) else S.2.1 g j, S.2.2.1 + 1, S.2.2.2 + t)
section TX
variable {xs : List Int32} {Kp : Nat → Prop} {h0 : am_H} {A : cl_A} {S S2 : cl_S} {h : am_H} {M : md_S} {K : bt} {nn W t Wp d i : Nat} {Q : Option Value → cl_A → cl_S → Prop}
theorem tA_o {f L : Nat} (hf : ¬ f = 23) : tA A i L f = A f := by
  funext j
  unfold tA
  rw [if_neg (fun q => hf q.1)]
theorem tA_ne {f j L : Nat} (hf : ¬ (f = 23 ∧ j = i)) : tA A i L f j = A f j := if_neg hf
theorem tS_o {g : Nat} (h1 : ¬ g = 508) (h2 : ¬ g = 2301) (h3 : ¬ g = 2300) : (tS S i t).2.1 g = S.2.1 g := by
  funext j
  show (if g = 508 ∧ j = i then 0 else if g = 2301 ∧ j = i then nI t else if g = 2300 ∧ 120 * i ≤ j ∧ j < 120 * i + t then S.2.1 2000 (j - 120 * i) else S.2.1 g j) = _
  rw [if_neg (fun q => h1 q.1), if_neg (fun q => h2 q.1), if_neg (fun q => h3 q.1)]
theorem tS_ne {g j : Nat} (h1 : ¬ j = i) (h3 : g = 2300 → ¬ (120 * i ≤ j ∧ j < 120 * i + t)) : (tS S i t).2.1 g j = S.2.1 g j := by
  show (if g = 508 ∧ j = i then 0 else if g = 2301 ∧ j = i then nI t else if g = 2300 ∧ 120 * i ≤ j ∧ j < 120 * i + t then S.2.1 2000 (j - 120 * i) else S.2.1 g j) = _
  rw [if_neg (fun q => h1 q.2), if_neg (fun q => h1 q.2), if_neg (fun q => h3 q.1 q.2)]
theorem tS_508 : (tS S i t).2.1 508 i = 0 := if_pos ⟨rfl, rfl⟩
theorem tS_2301 : (tS S i t).2.1 2301 i = nI t := by
  show (if 2301 = 508 ∧ i = i then 0 else if 2301 = 2301 ∧ i = i then nI t else _) = _
  rw [if_neg (by omega), if_pos ⟨rfl, rfl⟩]
theorem tS_2300 {p : Nat} (hp : p < t) : (tS S i t).2.1 2300 (120 * i + p) = S.2.1 2000 p := by
  show (if 2300 = 508 ∧ 120 * i + p = i then 0 else if 2300 = 2301 ∧ 120 * i + p = i then nI t else if 2300 = 2300 ∧ 120 * i ≤ 120 * i + p ∧ 120 * i + p < 120 * i + t then S.2.1 2000 (120 * i + p - 120 * i) else _) = _
  rw [if_neg (by omega), if_neg (by omega), if_pos (by omega), Nat.add_sub_cancel_left]
theorem tS_dv {L f k j : Nat} (hf : f < 20) (hk : k < 16) (hj : ¬ (f = 5 ∧ j = i)) (v : Int32) : cl_dv (tA A i L) (cl_ft f k) j v = cl_dv A (cl_ft f k) j v := by
  have hc : ∀ f ∈ List.range 20, ∀ k ∈ List.range 16, (cl_ft f k).1 = 0 ∨ (cl_ft f k).1 = 1 ∧ ¬ (cl_ft f k).2 = 23 ∨ (cl_ft f k).1 = 2 ∧ ¬ (cl_ft f k).2 = 23 ∨ (cl_ft f k).1 = 3 ∨ (cl_ft f k).1 = 4 ∧ f = 5 ∨ (cl_ft f k).1 = 5 := by decide
  rcases hc f (List.mem_range.mpr hf) k (List.mem_range.mpr hk) with c | ⟨c, c2⟩ | ⟨c, c2⟩ | c | ⟨c, c2⟩ | c
  · unfold cl_dv
    rw [c]
    rfl
  · unfold cl_dv
    rw [c]
    show cl_rf _ _ _ = cl_rf _ _ _
    unfold cl_rf
    rw [tA_o c2]
  · unfold cl_dv
    rw [c]
    show Value.ref _ = Value.ref _
    rw [tA_o c2]
  · unfold cl_dv
    rw [c]
    show Value.ref _ = Value.ref _
    rw [tA_o (by decide)]
  · unfold cl_dv
    rw [c]
    show (if v = -1 then _ else Value.ref _) = _
    rw [tA_ne (fun q => hj ⟨c2, q.2⟩)]
    rfl
  · unfold cl_dv
    rw [c]
    show (if v = -1 then _ else Value.ref _) = _
    rw [tA_o (by decide)]
    rfl
theorem tS_cell {L f j : Nat} (ht : t ≤ 120) (h5 : ¬ (f = 5 ∧ j = i)) (h23 : ¬ (f = 23 ∧ j = i)) (hf : f ≤ 25) (hb : f = 23 → (S.2.1 2301 j).toNatClampNeg ≤ 120) : cl_cell (tA A i L) (tS S i t) f j = cl_cell A S f j := by
  unfold cl_cell
  by_cases c : f < 20
  · rw [if_pos c, if_pos c]
    congr 2
    apply List.map_congr_left
    intro k hk
    have hk16 : k < 16 := Nat.lt_of_lt_of_le (List.mem_range.mp hk) (cl_nf_le f)
    unfold cl_fv
    rw [tS_dv c hk16 h5]
    by_cases cj : j = i
    · rw [tS_o (by omega) (by omega) (by omega)]
    · rw [tS_ne cj (by omega)]
  · rw [if_neg c, if_neg c]
    congr 1
    unfold cl_ar
    split
    · rw [tS_o (by decide) (by decide) (by decide)]
    · rw [tS_o (by decide) (by decide) (by decide)]
      unfold cl_rf
      rw [tA_o (by decide)]
    · rw [tS_o (by decide) (by decide) (by decide)]
    · have cj : ¬ j = i := fun q => h23 ⟨rfl, q⟩
      rw [tS_ne cj (by omega)]
      congr 1
      apply List.map_congr_left
      intro p hp
      have := List.mem_range.mp hp
      have := hb rfl
      have e : (tS S i t).2.1 2300 (120 * j + p) = S.2.1 2300 (120 * j + p) := by
        show (if 2300 = 508 ∧ 120 * j + p = i then 0 else if 2300 = 2301 ∧ 120 * j + p = i then nI t else if 2300 = 2300 ∧ 120 * i ≤ 120 * j + p ∧ 120 * j + p < 120 * i + t then S.2.1 2000 (120 * j + p - 120 * i) else S.2.1 2300 (120 * j + p)) = _
        rw [if_neg (by omega), if_neg (by omega), if_neg (by omega)]
      rw [e]
    · rw [tA_o (by decide)]
    · rw [tS_o (by decide) (by decide) (by decide), tS_o (by decide) (by decide) (by decide)]
      unfold cl_rf
      rw [tA_o (by decide)]
/-- the class's state with a text's new bytes -/
theorem tS_R {h2 : am_H} (hR : cl_R Kp A S h) (hK : ∀ a, Kp a → a < h.length) (ht : t ≤ 120) (hi : S.1 5 i) (hfm : ∀ f j, S.1 f j → f ≤ 25) (hb : ∀ j, S.1 23 j → (S.2.1 2301 j).toNatClampNeg ≤ 120) (hx : (h ++ [(Sum.inr (FieldType.byte, (List.range t).map (fun j => Value.int (S.2.1 2000 j))) : am_E)]).set (A 5 i) (.inl (5, ((List.range 16).map (fun k => cl_fv A S 5 k i)).set 8 (.ref h.length))) = h2) : cl_R Kp (tA A i h.length) (tS S i t) h2 ∧ cl_Fr Kp h h2 := by
  have h5 := (hR.1 5 i hi).1
  have hlt : ∀ f j, S.1 f j → A f j < h.length := fun f j hs => (List.getElem?_eq_some_iff.mp (hR.1 f j hs).1).1
  have hl5 := hlt 5 i hi
  have hlen : h2.length = h.length + 1 := by rw [← hx]; simp
  have hne : ∀ a, a < h.length → ¬ a = A 5 i → h2[a]? = h[a]? := fun a ha hn => by
    rw [← hx, List.getElem?_set_ne (Ne.symm hn), List.getElem?_append_left ha]
  have h5' : h2[A 5 i]? = some (.inl (5, ((List.range 16).map (fun k => cl_fv A S 5 k i)).set 8 (.ref h.length))) := by
    rw [← hx, List.getElem?_set_self (by simp; omega)]
  have hL : h2[h.length]? = some (.inr (.byte, (List.range t).map (fun j => Value.int (S.2.1 2000 j)))) := by
    rw [← hx, List.getElem?_set_ne (by omega), List.getElem?_append_right (Nat.le_refl _)]
    simp
  refine ⟨⟨fun f j hl => ?_, fun f j g k hf hg e => ?_, ?_, ?_⟩, by omega, fun a ha => hne a (hK a ha) (fun q => (hR.1 5 i hi).2 (q ▸ ha))⟩
  · by_cases c23 : f = 23 ∧ j = i
    · obtain ⟨rfl, rfl⟩ := c23
      have e : tA A j h.length 23 j = h.length := if_pos ⟨rfl, rfl⟩
      rw [e]
      refine ⟨hL.trans ?_, fun q => by have := hK _ q; omega⟩
      show _ = some (Sum.inr (FieldType.byte, (List.range ((tS S j t).2.1 2301 j).toNatClampNeg).map (fun p => Value.int ((tS S j t).2.1 2300 (120 * j + p)))))
      rw [tS_2301, nI_clamp (by omega)]
      congr 3
      apply List.map_congr_left
      intro p hp
      rw [tS_2300 (List.mem_range.mp hp)]
    · have hs : S.1 f j := hl.resolve_right c23
      rw [tA_ne c23]
      refine ⟨?_, (hR.1 f j hs).2⟩
      by_cases c5 : f = 5 ∧ j = i
      · obtain ⟨rfl, rfl⟩ := c5
        rw [h5']
        show _ = some (Sum.inl (5, (List.range 16).map (fun k => cl_fv (tA A j h.length) (tS S j t) 5 k j)))
        congr 3
        apply List.ext_getElem?
        intro q
        by_cases hq : q = 8
        · subst hq
          rw [List.getElem?_set_self (by simp)]
          show some (Value.ref h.length) = some (cl_fv (tA A j h.length) (tS S j t) 5 8 j)
          unfold cl_fv
          show _ = some (if (tS S j t).2.1 508 j = -1 then Value.retAddr 1 else .ref (tA A j h.length 23 j))
          rw [tS_508, if_neg (by decide), show tA A j h.length 23 j = h.length from if_pos ⟨rfl, rfl⟩]
        · rw [List.getElem?_set_ne (Ne.symm hq), List.getElem?_map, List.getElem?_map]
          by_cases hqn : q < 16
          · rw [List.getElem?_range hqn]
            simp only [Option.map_some, Option.some.injEq]
            unfold cl_fv
            rw [tS_o (by omega) (by omega) (by omega)]
            have hc : ∀ q ∈ List.range 16, ¬ q = 8 → (cl_ft 5 q).1 = 0 ∨ (cl_ft 5 q).1 = 1 ∧ ¬ (cl_ft 5 q).2 = 23 ∨ (cl_ft 5 q).1 = 2 ∧ ¬ (cl_ft 5 q).2 = 23 := by decide
            rcases hc q (List.mem_range.mpr hqn) hq with c | ⟨c, c2⟩ | ⟨c, c2⟩
            · unfold cl_dv
              rw [c]
              rfl
            · unfold cl_dv
              rw [c]
              show cl_rf _ _ _ = cl_rf _ _ _
              unfold cl_rf
              rw [tA_o c2]
            · unfold cl_dv
              rw [c]
              show Value.ref _ = Value.ref _
              rw [tA_o c2]
          · rw [List.getElem?_eq_none (by simp; omega)]
            rfl
      · rw [tS_cell ht c5 c23 (hfm f j hs) (fun q => hb j (q ▸ hs)), hne _ (hlt f j hs) (fun q => c5 (hR.2.1 f j 5 i hs hi q))]
        exact (hR.1 f j hs).1
  · by_cases c1 : f = 23 ∧ j = i
    · by_cases c2 : g = 23 ∧ k = i
      · exact ⟨c1.1.trans c2.1.symm, c1.2.trans c2.2.symm⟩
      · exfalso
        rw [tA_ne c2, show tA A i h.length f j = h.length from if_pos c1] at e
        have := hlt g k (hg.resolve_right c2)
        omega
    · by_cases c2 : g = 23 ∧ k = i
      · exfalso
        rw [tA_ne c1, show tA A i h.length g k = h.length from if_pos c2] at e
        have := hlt f j (hf.resolve_right c1)
        omega
      · rw [tA_ne c1, tA_ne c2] at e
        exact hR.2.1 f j g k (hf.resolve_right c1) (hg.resolve_right c2) e
  · rw [hlen, hR.2.2.1]
    rfl
  · show am_sl h2 = S.2.2.2 + t
    rw [← hx, am_sl_set _ _ _ (.inl (5, (List.range 16).map (fun k => cl_fv A S 5 k i))) (by rw [List.getElem?_append_left hl5, h5]; rfl) (by simp [am_sz]), ← hR.2.2.2]
    unfold am_sl
    rw [List.map_append, List.sum_append]
    simp [am_sz]
theorem text_mid {x1 : Int32} (hT : TB S) (hz : cl_z S) (ht : t ≤ 120) (hi : i < 60) (hn : S.1 5 i) (hfm : ∀ f j, S.1 f j → f ≤ 25) (hb : ∀ j, S.1 23 j → (S.2.1 2301 j).toNatClampNeg ≤ 120) (hK : ∀ a, Kp a → a < S.2.2.1) (k : cl_wp xs Kp h0 (d + 1) Q I21 44 [some (cl_rf (tA A i S.2.2.1) 8 0), some (.int x1), some (cl_rf (tA A i S.2.2.1) 5 (nI i))] [] (tA A i S.2.2.1) (tS S i t)) : cl_wp xs Kp h0 (d + 1) Q I21 38 [some (cl_rf A 8 0), some (.int x1), some (cl_rf A 5 (nI i))] [.int (nI t), cl_rf A 20 0, cl_rf A 5 (nI i)] A S := by
  intro h hR hF
  have hlen := hR.2.2.1
  have c0 := (hR.1 20 0 hz.2.2.2.2.1).1
  have e20 : cl_rf A 20 0 = .ref (A 20 0) := cl_rf_lv hz.l20
  have e5 : cl_rf A 5 (nI i) = .ref (A 5 i) := by
    unfold cl_rf
    rw [if_neg (nI_ne_m1 (by omega)), nI_clamp (by omega)]
  have e5' : cl_rf (tA A i S.2.2.1) 5 (nI i) = cl_rf A 5 (nI i) := by
    unfold cl_rf
    rw [tA_o (by decide)]
  have e8' : cl_rf (tA A i S.2.2.1) 8 0 = cl_rf A 8 0 := by
    unfold cl_rf
    rw [tA_o (by decide)]
  have hnew := tS_R (t := t) (i := i) hR (fun a ha => by rw [hlen]; exact hK a ha) ht hn hfm hb rfl
  rw [hlen] at hnew
  have k2 := k _ hnew.1 (hF.tr hnew.2)
  rw [e5', e8', ← hlen, e5] at k2
  rw [e20, e5]
  have hg : (List.range t).map (fun j => ((List.range 400).map (fun p => Value.int (S.2.1 2000 p))).getD j .null) = (List.range t).map (fun j => Value.int (S.2.1 2000 j)) := by
    apply List.map_congr_left
    intro j hj
    have := List.mem_range.mp hj
    rw [List.getD_eq_getElem?_getD, List.getElem?_map, List.getElem?_range (by omega)]
    rfl
  refine ax_calls (as := [.ref (A 20 0), .int (nI t)]) (rest := [.ref (A 5 i)]) (dd D21_ok 21 rfl) pl8_63 rfl (Nat.le_of_ble_eq_true rfl) rfl (r22 (vs := (List.range 400).map (fun p => Value.int (S.2.1 2000 p))) c0 (by simp; omega) (by simp) ?_ _ ?_)
  · intro v hv
    obtain ⟨p, _, rfl⟩ := List.mem_map.mp hv
    obtain ⟨x, ex⟩ := hT p
    rw [ex]
    show (decide (-128 ≤ x.toInt8.toInt32) && decide (x.toInt8.toInt32 ≤ 127)) = true
    rw [Bool.and_eq_true, decide_eq_true_eq, decide_eq_true_eq, Int32.le_iff_toInt_le, Int32.le_iff_toInt_le, Int8.toInt_toInt32, show (-128 : Int32).toInt = -128 by decide, show (127 : Int32).toInt = 127 by decide]
    have := Int8.le_toInt x.toInt8
    have := Int8.toInt_lt x.toInt8
    omega
  · rw [hg]
    have h5c : (h ++ [(Sum.inr (FieldType.byte, (List.range t).map (fun j => Value.int (S.2.1 2000 j))) : am_E)])[A 5 i]? = some (.inl (5, (List.range 16).map (fun k => cl_fv A S 5 k i))) := by
      have := (hR.1 5 i hn).1
      rw [List.getElem?_append_left (List.getElem?_eq_some_iff.mp this).1, this]
      rfl
    exact ax_pf (dd D21_ok 22 rfl) pl8_69 h5c rfl rfl rfl rfl rfl (fun q => absurd q (by decide)) k2
theorem wp_R.gr {S S' : cl_S} {Wp : Nat} (h : wp_R S Wp) (hl : ∀ f j, S.1 f j → S'.1 f j) (e : ∀ g ∈ [1001, 1002, 2500, 2501], S'.2.1 g = S.2.1 g) : wp_R S' Wp := by
  obtain ⟨h1, h2, h3, h4, h5⟩ := h
  refine ⟨h1, by rw [e 1002 (by decide)]; exact h2, by rw [e 2501 (by decide)]; exact h3, fun q => by rw [e 1001 (by decide)]; exact ⟨(h4 q).1, hl _ _ (h4 q).2⟩, fun w hw => ?_⟩
  rw [e 2500 (by decide)]
  obtain ⟨w1, w2, w3, w4⟩ := h5 w hw
  exact ⟨w1, w2, hl _ _ w3, hl _ _ w4⟩
theorem byte_id (x : Int32) : x.toInt8.toInt32.toInt8.toInt32 = x.toInt8.toInt32 := by rw [Int8.toInt8_toInt32]
theorem text_INV (h : INV A S M K nn W t Wp) (ht : t ≤ 120) (hi : i < nn) (h3 : M.2 3 i = 1) : INV (tA A i S.2.2.1) (cl_up (tS S i t) 801 0 0) (f_text_M M i t) K nn W 0 Wp := by
  obtain ⟨⟨c1, ⟨c2a, c2b, c2c, c2d⟩, c3, c4, ⟨c5a, c5b, c5c, c5d⟩, c6, c7, c8, c9, c10, c11⟩, hL, ⟨w1, w2, w3⟩, ⟨q1, ⟨q2, q2'⟩, q3, q4, q5, q6, q7, q8, q9, q10, q11⟩⟩ := h
  have e : cl_X [801] (tS S i t) (cl_up (tS S i t) 801 0 0) := cl_X.rf.up (by decide) _ _
  have hl : ∀ f j, S.1 f j → (cl_up (tS S i t) 801 0 0).1 f j := fun f j hs => Or.inl hs
  have eo : ∀ g, ¬ g = 801 → ¬ g = 508 → ¬ g = 2301 → ¬ g = 2300 → (cl_up (tS S i t) 801 0 0).2.1 g = S.2.1 g := fun g h0 h1 h2 h3 => by
    rw [e.2.2 g (by simp [h0]), tS_o h1 h2 h3]
  have wz : ∀ {x : Int32}, cl_n S x → cl_n (cl_up (tS S i t) 801 0 0) x := fun ⟨a, b, c, d⟩ => ⟨a, hl _ _ b, hl _ _ c, hl _ _ d⟩
  have hwp : wp_R (cl_up (tS S i t) 801 0 0) Wp := w1.gr hl (fun g hg => by
    have : ∀ g ∈ [1001, 1002, 2500, 2501], ¬ g = 801 ∧ ¬ g = 508 ∧ ¬ g = 2301 ∧ ¬ g = 2300 := by decide
    obtain ⟨x1, x2, x3, x4⟩ := this g hg
    exact eo g x1 x2 x3 x4)
  refine ⟨⟨c1.text hi ht h3, ⟨c2a, ?_, fun f hf => ?_, fun j hj => ?_⟩, by rw [eo 803 (by decide) (by decide) (by decide) (by decide)]; exact c3, by rw [eo 2100 (by decide) (by decide) (by decide) (by decide)]; exact c4, ⟨cl_up_at _ _ _ _, md_up1_at _ _ _, Nat.zero_le _, fun p hp => absurd hp (Nat.not_lt_zero _)⟩, ⟨Wp, hwp, w2⟩, by rw [eo 301 (by decide) (by decide) (by decide) (by decide)]; exact c7, ?_, c9, ?_, ?_⟩, by rw [text_o (f := 6) (by decide) (by decide)]; exact hL, ⟨hwp, w2, w3⟩, ?_⟩
  · obtain ⟨z1, z2, z3, z4, z5, z6, z7⟩ := c2b
    exact ⟨hl _ _ z1, hl _ _ z2, hl _ _ z3, hl _ _ z4, hl _ _ z5, hl _ _ z6, hl _ _ z7⟩
  · obtain ⟨z1, z2, z3, z4⟩ := c2c f hf
    exact ⟨z1, hl _ _ z2, hl _ _ z3, hl _ _ z4⟩
  · obtain ⟨b1, b2, b3, b4, b5, b6, b7, b8, b9, b10, b11, b12, b13⟩ := c2d j hj
    have cj : (nI j).toNatClampNeg = j := nI_clamp (by omega)
    have mo := fun f h10 h11 => text_o (M := M) (n := i) (t := t) (f := f) h10 h11
    by_cases c : j = i
    · subst c
      have e508 : (cl_up (tS S j t) 801 0 0).2.1 508 j = 0 := by rw [e.2.2 508 (by decide)]; exact tS_508
      have ebn : cl_bn (cl_up (tS S j t) 801 0 0) (nI j) 0 = t := by
        unfold cl_bn
        rw [if_neg (by decide), cj, e.2.2 2301 (by decide), tS_2301, nI_clamp (by omega)]
      refine ⟨wz b1, ?_, ?_, ?_, ?_, ?_, ?_, ?_, fun _ => Or.inr ⟨rfl, rfl⟩, ?_, ?_, ?_, ?_⟩
      · rw [eo 500 (by decide) (by decide) (by decide) (by decide)]; exact b2
      · rw [eo 501 (by decide) (by decide) (by decide) (by decide), mo 3 (by decide) (by decide)]; exact b3
      · rw [eo 502 (by decide) (by decide) (by decide) (by decide), mo 4 (by decide) (by decide)]; exact b4
      · rw [eo 503 (by decide) (by decide) (by decide) (by decide), mo 8 (by decide) (by decide)]; exact b5
      · rw [eo 505 (by decide) (by decide) (by decide) (by decide), mo 5 (by decide) (by decide)]; exact b6
      · rw [eo 506 (by decide) (by decide) (by decide) (by decide), mo 6 (by decide) (by decide)]; exact b7
      · rw [eo 507 (by decide) (by decide) (by decide) (by decide), mo 7 (by decide) (by decide)]; exact b8
      · rw [e508, ebn, text_11, if_pos rfl]
      · rw [e508, ebn]; exact ht
      · rw [e508, ebn]
        intro k hk
        rw [e.2.2 2300 (by decide), tS_2300 hk, text_10, if_pos (by omega), Nat.add_sub_cancel_left, ← c5d k hk]
        obtain ⟨x, ex⟩ := q11 k
        rw [ex, byte_id]
      · intro p hp
        rw [eo 2200 (by decide) (by decide) (by decide) (by decide), mo 9 (by decide) (by decide)]
        exact b13 p hp
    · have es : ∀ g, ¬ g = 801 → ¬ g = 2300 → (cl_up (tS S i t) 801 0 0).2.1 g j = S.2.1 g j := fun g h0 h3 => by
        rw [e.2.2 g (by simp [h0]), tS_ne c (fun x => absurd x h3)]
      have eb : cl_bn (cl_up (tS S i t) 801 0 0) (nI j) (S.2.1 508 j) = cl_bn S (nI j) (S.2.1 508 j) := by
        unfold cl_bn
        rw [cj, es 2301 (by decide) (by decide)]
      refine ⟨wz b1, ?_, ?_, ?_, ?_, ?_, ?_, ?_, ?_, ?_, ?_, ?_, ?_⟩
      · rw [es 500 (by decide) (by decide)]; exact b2
      · rw [es 501 (by decide) (by decide), mo 3 (by decide) (by decide)]; exact b3
      · rw [es 502 (by decide) (by decide), mo 4 (by decide) (by decide)]; exact b4
      · rw [es 503 (by decide) (by decide), mo 8 (by decide) (by decide)]; exact b5
      · rw [es 505 (by decide) (by decide), mo 5 (by decide) (by decide)]; exact b6
      · rw [es 506 (by decide) (by decide), mo 6 (by decide) (by decide)]; exact b7
      · rw [es 507 (by decide) (by decide), mo 7 (by decide) (by decide)]; exact b8
      · rw [es 508 (by decide) (by decide)]; exact fun x => hl _ _ (b9 x)
      · rw [es 508 (by decide) (by decide), eb, text_11, if_neg c]; exact b10
      · rw [es 508 (by decide) (by decide), eb]; exact b11
      · rw [es 508 (by decide) (by decide), eb]
        intro k hk
        rw [e.2.2 2300 (by decide), text_10, if_neg (by omega)]
        have : (tS S i t).2.1 2300 (120 * j + k) = S.2.1 2300 (120 * j + k) := by
          show (if 2300 = 508 ∧ 120 * j + k = i then 0 else if 2300 = 2301 ∧ 120 * j + k = i then nI t else if 2300 = 2300 ∧ 120 * i ≤ 120 * j + k ∧ 120 * j + k < 120 * i + t then S.2.1 2000 (120 * j + k - 120 * i) else S.2.1 2300 (120 * j + k)) = _
          rw [if_neg (by omega), if_neg (by omega), if_neg (by omega)]
        rw [this]
        exact b12 k hk
      · intro p hp
        rw [eo 2200 (by decide) (by decide) (by decide) (by decide), mo 9 (by decide) (by decide)]
        exact b13 p hp
  · show (md_up1 _ 1 0).1 29 = _
    rw [md_up1_ne _ (by decide), md_up2_1]
    exact c8
  · unfold bx_eq at c10 ⊢
    rw [eo 511 (by decide) (by decide) (by decide) (by decide), eo 0 (by decide) (by decide) (by decide) (by decide), eo 1 (by decide) (by decide) (by decide) (by decide), eo 2 (by decide) (by decide) (by decide) (by decide), eo 3 (by decide) (by decide) (by decide) (by decide), text_o (f := 23) (by decide) (by decide), text_o (f := 24) (by decide) (by decide), text_o (f := 25) (by decide) (by decide), text_o (f := 26) (by decide) (by decide), text_o (f := 27) (by decide) (by decide)]
    exact c10
  · unfold wd_eq at c11 ⊢
    rw [eo 700 (by decide) (by decide) (by decide) (by decide), eo 701 (by decide) (by decide) (by decide) (by decide), eo 702 (by decide) (by decide) (by decide) (by decide), eo 0 (by decide) (by decide) (by decide) (by decide), eo 1 (by decide) (by decide) (by decide) (by decide), eo 2 (by decide) (by decide) (by decide) (by decide), eo 3 (by decide) (by decide) (by decide) (by decide), text_o (f := 30) (by decide) (by decide), text_o (f := 31) (by decide) (by decide), text_o (f := 32) (by decide) (by decide), text_o (f := 33) (by decide) (by decide), text_o (f := 34) (by decide) (by decide), text_o (f := 35) (by decide) (by decide), text_o (f := 36) (by decide) (by decide)]
    exact c11
  · have un : ∀ f j, ¬ f = 23 → (cl_up (tS S i t) 801 0 0).1 f j → S.1 f j := fun f j hf hj => hj.resolve_right (fun x => hf x.1)
    refine ⟨?_, ⟨fun j hj => q2 j (un _ _ (by decide) hj), fun j hj => q2' j (un _ _ (by decide) hj)⟩, by rw [eo 510 (by decide) (by decide) (by decide) (by decide)]; exact q3, ⟨fun j hj => q4.1 j (un _ _ (by decide) hj), fun j hj => q4.2 j (un _ _ (by decide) hj)⟩, fun j hj => q5 j (un _ _ (by decide) hj), fun j hj => q6 j (un _ _ (by decide) hj), by rw [eo 2500 (by decide) (by decide) (by decide) (by decide)]; exact q7, fun f j hj => ?_, by rw [eo 1001 (by decide) (by decide) (by decide) (by decide)]; exact q9, fun j hj => ?_, fun p => by rw [eo 2000 (by decide) (by decide) (by decide) (by decide)]; exact q11 p⟩
    · unfold GA at q1 ⊢
      rw [tA_o (by decide), tA_o (by decide)]
      exact q1
    · rcases hj with hj | ⟨rfl, _⟩
      · exact q8 f j hj
      · decide
    · by_cases c : j = i
      · subst c
        rw [e.2.2 2301 (by decide), tS_2301, nI_clamp (by omega)]
        exact ht
      · rw [e.2.2 2301 (by decide), tS_ne c (fun x => absurd x (by decide))]
        exact q10 j (hj.resolve_right (fun x => c x.2))
theorem kk_text (h : INV A S M K nn W t Wp) (hK : ∀ a, Kp a → a < S.2.2.1) {a : Int32} : ∀ Q', (f_text_ok M a → ∀ A' S', INV A' S' (f_text_M M a.toNatClampNeg t) K nn W 0 Wp → A' 8 = A 8 → S'.2.2 = (S.2.2.1 + 1, S.2.2.2 + t) → t ≤ 120 → cap S' = cap S → Q' (some (.int (nI t))) A' S') → (¬ f_text_ok M a → Q' (some (.int (-1))) A S) → cl_C xs Kp (d + 4) 21 [cl_rf A 8 0, .int a] A S Q' := by
  intro Q' hY hN
  have hce := h.2.2.2
  obtain ⟨c1, c2, c3, c4, ⟨c5a, c5b, c5c, c5d⟩, _⟩ := h.1
  have h60 := c2.1
  have hth := there_iff c1.1.1 h60 a
  refine cl_intro (ms21 xs) (Nat.le_of_ble_eq_true rfl) (fun h0 => vc21_0 (d := d) ⟨c2.2.1, kk_nodeAt h.1 _ (fun i hi e => ?_) (fun hne => ?_)⟩)
  · subst e
    have ci : (nI i).toNatClampNeg = i := nI_clamp (by omega)
    have ht : ¬ f_there M (nI i) = 0 := hth.mpr ⟨i, hi, rfl⟩
    have hnt := c2.2.2.2 i hi
    have e501 : S.2.1 501 i = M.2 3 i := hnt.2.2.1
    have hle : nI t ≤ 120 ↔ t ≤ 120 := by
      rw [show (120 : Int32) = nI 120 from rfl]
      exact nI_leI (by omega) (by omega)
    refine ⟨rfl, rfl, nI i, rfl, fun q => absurd q (nI_ne_m1 (by omega)), fun _ => ⟨hnt.1, ?_⟩⟩
    rw [ci, e501, c5a]
    refine ⟨fun q => hN (fun ok => ok.2.1 (by rw [ci]; exact q)), fun q => ⟨fun q2 => ?_, fun q2 => hN (fun ok => q2 (by have := ok.2.2; rw [c5b] at this; exact this))⟩⟩
    have ht2 := hle.mp q2
    have h3 := Classical.not_not.mp q
    have hl5 : S.1 5 i := by
      have := hnt.1.2.1
      rw [ci] at this
      exact this
    have hz : cl_z (tS S i t) := by
      obtain ⟨z1, z2, z3, z4, z5, z6, z7⟩ := c2.2.1
      exact ⟨Or.inl z1, Or.inl z2, Or.inl z3, Or.inl z4, Or.inl z5, Or.inl z6, Or.inl z7⟩
    have hn : cl_n (tS S i t) (nI i) := ⟨hnt.1.1, Or.inl hnt.1.2.1, Or.inl hnt.1.2.2.1, Or.inl hnt.1.2.2.2⟩
    refine text_mid (d := d + 2) hce.2.2.2.2.2.2.2.2.2.2 c2.2.1 ht2 (by omega) hl5 hce.2.2.2.2.2.2.2.1 hce.2.2.2.2.2.2.2.2.2.1 hK (vc21_44 (d := d) ⟨hz, hn, fun _ => ?_, ?_⟩)
    · rw [ci]
      exact Or.inr ⟨rfl, rfl⟩
    · rw [ci, tS_508]
      have ebn : cl_bn (tS S i t) (nI i) 0 = t := by
        unfold cl_bn
        rw [if_neg (by decide), ci, tS_2301, nI_clamp (by omega)]
      rw [ebn]
      have e : cl_X [801] (tS S i t) (cl_up (tS S i t) 801 0 0) := cl_X.rf.up (by decide) _ _
      exact hY ⟨ht, by rw [ci]; exact q, by rw [c5b]; exact q2⟩ (tA A i S.2.2.1) (cl_up (tS S i t) 801 0 0) (by rw [ci]; exact text_INV h ht2 hi h3) (tA_o (by decide)) rfl ht2 (cap_x ((e.2.2 1001 (by decide)).trans (tS_o (by decide) (by decide) (by decide))) ((e.2.2 2501 (by decide)).trans (tS_o (by decide) (by decide) (by decide))))
  · refine ⟨rfl, rfl, -1, rfl, fun _ => hN (fun ok => ?_), fun q => absurd rfl q⟩
    exact hne (hth.mp ok.1)
end TX
