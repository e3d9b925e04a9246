/-! the class: a word is added to the pool (by program and by hand: wip/whole/gen/c67.py) -/
set_option maxHeartbeats 1000000 in
theorem vc34_0 {xs : List Int32} {K : Nat → Prop} {h0 : am_H} {d : Nat} {Q : Option Value → cl_A → cl_S → Prop} {A : cl_A} {S : cl_S} {x1 : Int32} {x2 : Int32} {x3 : Int32} {x4 : Int32}
    (k : ((x2 < x3) → (cl_z S) ∧ (((¬ (S.2.1 301 0) = (g_size S )) → cl_wp xs K h0 (d + 7) Q I34 35 [some (cl_rf A 3 0), some (cl_rf A 5 x1), some (.int x2), some (.int x3), some (.int x4), none] [] A S) ∧ (¬ (¬ (S.2.1 301 0) = (g_size S )) → cl_wp xs K h0 (d + 7) Q I34 24 [some (cl_rf A 3 0), some (cl_rf A 5 x1), some (.int x2), some (.int x3), some (.int x4), none] [cl_rf A 10 0] A S))) ∧ (¬ (x2 < x3) → Q none A S)) :
    cl_wp xs K h0 (d + 7) Q I34 0 [some (cl_rf A 3 0), some (cl_rf A 5 x1), some (.int x2), some (.int x3), some (.int x4), none] [] A S := by
  refine cl_iload_n (dd D34_ok 0 rfl) rfl ?_
  refine cl_iload_n (dd D34_ok 1 rfl) rfl ?_
  refine cl_icmp_lt (tgt := 6) (dd D34_ok 2 rfl) (by decide) (fun c1 => ?_) (fun c1 => ?_)
  · refine cl_aload_n (dd D34_ok 4 rfl) rfl ?_
    refine cl_gI (g := 301) (e := S.2.1 301 0) (dd D34_ok 5 rfl) pl3_32 (by decide) (by decide) (by decide) rfl rfl (k.1 c1).1.l3 rfl ?_
    refine cl_aload_n (dd D34_ok 6 rfl) rfl ?_
    refine cl_getO (g := 10) (dd D34_ok 7 rfl) pl3_12 (by decide) (by decide) (by decide) rfl (k.1 c1).1.l3 ?_
    refine cl_callP (r := .int (g_size S )) (as := []) (rest := [.int (S.2.1 301 0)]) (v := 0) (dd D34_ok 8 rfl) pl3_36 rfl (Nat.le_of_ble_eq_true rfl) (ms35 xs) rfl (by decide) (k.1 c1).1.l10 (cc_g_size (S := S) (k.1 c1).1) rfl ?_
    refine cl_icmp_ne (tgt := 35) (dd D34_ok 9 rfl) (by decide) (fun c2 => ?_) (fun c2 => ?_)
    · exact ((k.1 c1).2.1 c2)
    · refine cl_aload_n (dd D34_ok 10 rfl) rfl ?_
      refine cl_getO (g := 10) (dd D34_ok 11 rfl) pl3_12 (by decide) (by decide) (by decide) rfl (k.1 c1).1.l3 ?_
      exact ((k.1 c1).2.2 c2)
  · exact cl_vret (dd D34_ok 3 rfl) rfl (k.2 c1)
set_option maxHeartbeats 1000000 in
theorem vc34_35 {xs : List Int32} {K : Nat → Prop} {h0 : am_H} {d : Nat} {Q : Option Value → cl_A → cl_S → Prop} {A : cl_A} {S : cl_S} {x1 : Int32} {x2 : Int32} {x3 : Int32} {x4 : Int32} {o5 : Option Value}
    (k : (cl_z S) ∧ (cl_C xs K (d + 7) 45 [cl_rf A 3 0, .int (((S.2.1 301 0) + 1) - 1)] A (cl_up S 301 0 ((S.2.1 301 0) + 1)) (fun v A' N1 => A' = A ∧ N1.1 = S.1 ∧ ∃ y1, v = some (cl_rf A 7 y1) ∧ (((¬ y1 = -1) → (cl_n N1 x1) ∧ ((cl_w N1 y1) ∧ (Q none A (cl_up (cl_up (cl_up (cl_up (cl_up N1 700 y1.toNatClampNeg (N1.2.1 500 x1.toNatClampNeg)) 701 y1.toNatClampNeg x2) 702 y1.toNatClampNeg (x3 - x2)) 2 (60 + y1).toNatClampNeg (x4 * (N1.2.1 2200 (9 * x1.toNatClampNeg + 8)))) 3 (60 + y1).toNatClampNeg (7 * (N1.2.1 2200 (9 * x1.toNatClampNeg + 8))))))) ∧ (¬ (¬ y1 = -1) → Q none A N1))))) :
    cl_wp xs K h0 (d + 7) Q I34 35 [some (cl_rf A 3 0), some (cl_rf A 5 x1), some (.int x2), some (.int x3), some (.int x4), o5] [] A S := by
  refine cl_aload_n (dd D34_ok 17 rfl) rfl ?_
  refine cl_dup (dd D34_ok 18 rfl) ?_
  refine cl_gI (g := 301) (e := S.2.1 301 0) (dd D34_ok 19 rfl) pl3_32 (by decide) (by decide) (by decide) rfl rfl k.1.l3 rfl ?_
  refine cl_iconst (v := 1) (dd D34_ok 20 rfl) (by decide) ?_
  refine cl_iadd (dd D34_ok 21 rfl) ?_
  refine cl_pI (g := 301) (dd D34_ok 22 rfl) pl3_32 (by decide) (by decide) rfl rfl rfl rfl rfl k.1.l3 ?_
  refine cl_aload_n (dd D34_ok 23 rfl) rfl ?_
  refine cl_aload_n (dd D34_ok 24 rfl) rfl ?_
  refine cl_gI (g := 301) (e := (S.2.1 301 0) + 1) (dd D34_ok 25 rfl) pl3_32 (by decide) (by decide) (by decide) rfl rfl k.1.l3 (by first | rfl | simp [cl_up]) ?_
  refine cl_iconst (v := 1) (dd D34_ok 26 rfl) (by decide) ?_
  refine cl_isub (dd D34_ok 27 rfl) ?_
  refine cl_call (as := [.int (((S.2.1 301 0) + 1) - 1)]) (rest := []) (v := 0) (dd D34_ok 28 rfl) pl3_112 rfl (Nat.le_of_ble_eq_true rfl) (ms45 xs) rfl (by decide) k.1.l3 ((k.2).mono ?_) rfl
  rintro v A N1 ⟨rfl, e1, y1, rfl, w1⟩
  refine cl_astore (dd D34_ok 29 rfl) (Nat.le_of_ble_eq_true rfl) ?_
  refine cl_aload (dd D34_ok 30 rfl) rfl ?_
  refine cl_ifnonnull (tgt := 63) (dd D34_ok 31 rfl) (by decide) (fun c1 => ?_) (fun c1 => ?_)
  · refine cl_aload (dd D34_ok 33 rfl) rfl ?_
    refine cl_aload_n (dd D34_ok 34 rfl) rfl ?_
    refine cl_gI (g := 500) (e := N1.2.1 500 x1.toNatClampNeg) (dd D34_ok 35 rfl) pl3_116 (by decide) (by decide) (by decide) rfl rfl (w1.1 c1).1.l5 rfl ?_
    refine cl_pI (g := 700) (dd D34_ok 36 rfl) pl3_119 (by decide) (by decide) rfl rfl rfl rfl rfl (w1.1 c1).2.1.l7 ?_
    refine cl_aload (dd D34_ok 37 rfl) rfl ?_
    refine cl_iload_n (dd D34_ok 38 rfl) rfl ?_
    refine cl_pI (g := 701) (dd D34_ok 39 rfl) pl3_122 (by decide) (by decide) rfl rfl rfl rfl rfl (w1.1 c1).2.1.l7 ?_
    refine cl_aload (dd D34_ok 40 rfl) rfl ?_
    refine cl_iload_n (dd D34_ok 41 rfl) rfl ?_
    refine cl_iload_n (dd D34_ok 42 rfl) rfl ?_
    refine cl_isub (dd D34_ok 43 rfl) ?_
    refine cl_pI (g := 702) (dd D34_ok 44 rfl) pl3_125 (by decide) (by decide) rfl rfl rfl rfl rfl (w1.1 c1).2.1.l7 ?_
    refine cl_aload (dd D34_ok 45 rfl) rfl ?_
    refine cl_gW (dd D34_ok 46 rfl) pl3_128 (by decide) (w1.1 c1).2.1 ?_
    refine cl_iload (dd D34_ok 47 rfl) rfl ?_
    refine cl_aload_n (dd D34_ok 48 rfl) rfl ?_
    refine cl_getO (g := 22) (dd D34_ok 49 rfl) pl3_46 (by decide) (by decide) (by decide) rfl (w1.1 c1).1.l5 ?_
    refine cl_bipush (v := 8) (dd D34_ok 50 rfl) (by decide) ?_
    refine cl_hs (q := 8) (e := N1.2.1 2200 (9 * x1.toNatClampNeg + 8)) (dd D34_ok 51 rfl) (w1.1 c1).1.l22 (md_vl (by decide)) (by decide) (by first | rfl | simp [cl_up]) ?_
    refine cl_imul (dd D34_ok 52 rfl) ?_
    refine cl_pI (g := 2) (dd D34_ok 53 rfl) pl3_132 (by decide) (by decide) rfl rfl rfl rfl rfl (w1.1 c1).2.1.l0 ?_
    refine cl_aload (dd D34_ok 54 rfl) rfl ?_
    refine cl_gW (dd D34_ok 55 rfl) pl3_128 (by decide) (w1.1 c1).2.1 ?_
    refine cl_bipush (v := 7) (dd D34_ok 56 rfl) (by decide) ?_
    refine cl_aload_n (dd D34_ok 57 rfl) rfl ?_
    refine cl_getO (g := 22) (dd D34_ok 58 rfl) pl3_46 (by decide) (by decide) (by decide) rfl (w1.1 c1).1.l5 ?_
    refine cl_bipush (v := 8) (dd D34_ok 59 rfl) (by decide) ?_
    refine cl_hs (q := 8) (e := N1.2.1 2200 (9 * x1.toNatClampNeg + 8)) (dd D34_ok 60 rfl) (w1.1 c1).1.l22 (md_vl (by decide)) (by decide) (by first | rfl | simp [cl_up]) ?_
    refine cl_imul (dd D34_ok 61 rfl) ?_
    refine cl_pI (g := 3) (dd D34_ok 62 rfl) pl3_137 (by decide) (by decide) rfl rfl rfl rfl rfl (w1.1 c1).2.1.l0 ?_
    exact cl_vret (dd D34_ok 63 rfl) rfl (w1.1 c1).2.2
  · exact cl_vret (dd D34_ok 32 rfl) rfl (w1.2 c1)
section WM
variable {xs : List Int32} {Kp : Nat → Prop} {h0 h : am_H} {d : Nat} {Q : Option Value → cl_A → cl_S → Prop} {A : cl_A} {S : cl_S} {Wp : Nat}
/-- how a word comes into the pool: there is room, or the list grows -/
def wcs (A : cl_A) (S : cl_S) (Wp aL : Nat) (cc : Int32) (dc ds : Nat) : Prop := (aL = A 25 0 ∧ S.1 25 0 ∧ ¬ S.2.1 1001 0 = -1 ∧ cc = S.2.1 2501 0 ∧ Wp < cc.toNatClampNeg ∧ dc = 2 ∧ ds = 9) ∨ (aL = S.2.2.1 + 2 ∧ cc = nI (gl Wp) ∧ cap S = Wp ∧ dc = 3 ∧ ds = 9 + gl Wp)
theorem two_len : (h ++ [(Sum.inl (7, [Value.int 0, Value.int 0, Value.int 0, Value.ref (h.length + 1)]) : am_E), (Sum.inl (0, [.int 0, .int 0, .int 0, .int 0, .null]) : am_E)]).length = h.length + 2 := by simp
theorem two_at (a : Nat) (ha : a < h.length + 2) : (h ++ [(Sum.inl (7, [Value.int 0, Value.int 0, Value.int 0, Value.ref (h.length + 1)]) : am_E), (Sum.inl (0, [.int 0, .int 0, .int 0, .int 0, .null]) : am_E)])[a]? = if a < h.length then h[a]? else if a = h.length then some (Sum.inl (7, [Value.int 0, Value.int 0, Value.int 0, Value.ref (h.length + 1)]) : am_E) else some (Sum.inl (0, [.int 0, .int 0, .int 0, .int 0, .null]) : am_E) := by
  by_cases c : a < h.length
  · rw [if_pos c, List.getElem?_append_left c]
  · rw [if_neg c, List.getElem?_append_right (by omega)]
    by_cases c2 : a = h.length
    · rw [if_pos c2, c2, Nat.sub_self]
      rfl
    · rw [if_neg c2, show a - h.length = 1 by omega]
      rfl
theorem set_at {α : Type} {l : List α} {i a : Nat} {e : α} (hi : i < l.length) : (l.set i e)[a]? = if a = i then some e else l[a]? := by
  by_cases c : a = i
  · rw [if_pos c, c, List.getElem?_set_self hi]
  · rw [if_neg c, List.getElem?_set_ne (Ne.symm c)]
theorem sl_two : am_sl (h ++ [(Sum.inl (7, [Value.int 0, Value.int 0, Value.int 0, Value.ref (h.length + 1)]) : am_E), (Sum.inl (0, [.int 0, .int 0, .int 0, .int 0, .null]) : am_E)]) = am_sl h + 9 := by
  unfold am_sl
  rw [List.map_append, List.sum_append]
  rfl
theorem set_big {l : Nat} {H h' : am_H} {cz c0 c1 c2 bb bg : am_E} (hl : H[l]? = some cz) (sz : am_sz cz = 3) (s0 : am_sz c0 = 3) (s1 : am_sz c1 = 3) (s2 : am_sz c2 = 3) (sb : am_sz bg = am_sz bb) (e : (((((H.set l c0) ++ [bb]).set l c1).set H.length bg).set l c2) = h') : h'.length = H.length + 1 ∧ am_sl h' = am_sl H + am_sz bb ∧ ∀ a, a < H.length + 1 → h'[a]? = if a = l then some c2 else if a = H.length then some bg else H[a]? := by
  have hlt : l < H.length := (List.getElem?_eq_some_iff.mp hl).1
  have hl' : h'.length = H.length + 1 := by rw [← e]; simp
  have g0 : (H.set l c0)[l]? = some c0 := by rw [set_at hlt, if_pos rfl]
  have g1 : ((H.set l c0) ++ [bb])[l]? = some c0 := by rw [List.getElem?_append_left (by simpa using hlt)]; exact g0
  have g2 : (((H.set l c0) ++ [bb]).set l c1)[l]? = some c1 := by rw [set_at (by simp; omega), if_pos rfl]
  have g3 : (((H.set l c0) ++ [bb]).set l c1)[H.length]? = some bb := by
    rw [set_at (by simp; omega), if_neg (by omega), List.getElem?_append_right (by simp)]
    simp
  have g4 : ((((H.set l c0) ++ [bb]).set l c1).set H.length bg)[l]? = some c1 := by rw [set_at (by simp), if_neg (by omega)]; exact g2
  refine ⟨hl', ?_, fun a ha => ?_⟩
  · rw [← e, am_sl_set _ _ _ c1 g4 (by rw [s2, s1]), am_sl_set _ _ _ bb g3 sb, am_sl_set _ _ _ c0 g1 (by rw [s1, s0])]
    unfold am_sl
    rw [List.map_append, List.sum_append]
    have := am_sl_set H l c0 cz hl (by rw [s0, sz])
    unfold am_sl at this
    rw [this]
    simp
  · rw [← e, set_at (by simp; omega), set_at (by simp), set_at (by simp; omega)]
    by_cases ca : a = l
    · rw [if_pos ca, if_pos ca]
    · rw [if_neg ca, if_neg ca, if_neg ca]
      by_cases cb : a = H.length
      · rw [if_pos cb, if_pos cb]
      · rw [if_neg cb, if_neg cb, List.getElem?_append_left (by simp; omega), set_at hlt, if_neg ca]
theorem set_small {l b : Nat} {H h' : am_H} {cz c0 c2 bb bg : am_E} (hl : H[l]? = some cz) (hb : H[b]? = some bb) (hne : ¬ b = l) (sz : am_sz cz = 3) (s0 : am_sz c0 = 3) (s2 : am_sz c2 = 3) (sb : am_sz bg = am_sz bb) (e : (((H.set l c0).set b bg).set l c2) = h') : h'.length = H.length ∧ am_sl h' = am_sl H ∧ ∀ a, h'[a]? = if a = l then some c2 else if a = b then some bg else H[a]? := by
  have hlt : l < H.length := (List.getElem?_eq_some_iff.mp hl).1
  have hbt : b < H.length := (List.getElem?_eq_some_iff.mp hb).1
  have hl' : h'.length = H.length := by rw [← e]; simp
  have g0 : (H.set l c0)[l]? = some c0 := by rw [set_at hlt, if_pos rfl]
  have g1 : (H.set l c0)[b]? = some bb := by rw [set_at hlt, if_neg hne]; exact hb
  have g2 : ((H.set l c0).set b bg)[l]? = some c0 := by rw [set_at (by simpa using hbt), if_neg (Ne.symm hne)]; exact g0
  refine ⟨hl', ?_, fun a => ?_⟩
  · rw [← e, am_sl_set _ _ _ c0 g2 (by rw [s2, s0]), am_sl_set _ _ _ bb g1 sb, am_sl_set H l c0 cz hl (by rw [s0, sz])]
  · rw [← e, set_at (by simpa using hlt), set_at (by simpa using hbt), set_at hlt]
    by_cases ca : a = l
    · rw [if_pos ca, if_pos ca]
    · rw [if_neg ca, if_neg ca, if_neg ca]
theorem word_cells (hR : cl_R Kp A S h) (hce : CE A S Wp) (hw : wp_R S Wp) (hz : cl_z S) (hK : ∀ a, Kp a → a < S.2.2.1) (hW : Wp ≤ 3600) (hsm : cap S ≤ 100000) {Q' : am_H → Prop} (k : ∀ aL cc dc ds h', wcs A S Wp aL cc dc ds → cl_R Kp (wA A Wp S.2.2.1 aL) (wS A S Wp cc dc ds) h' → cl_Fr Kp h h' → Q' h') : am_T (am_Bx xs) am_nm (d + 6) 37 [.ref (A 10 0), .ref h.length] (h ++ [(Sum.inl (7, [Value.int 0, Value.int 0, Value.int 0, Value.ref (h.length + 1)]) : am_E), (Sum.inl (0, [.int 0, .int 0, .int 0, .int 0, .null]) : am_E)]) (fun v h' => v = some (.int 1) ∧ Q' h') := by
  obtain ⟨q1, q2, q3, ⟨q4, q4'⟩, q5, q6, q7, q8, q9, q10, q11⟩ := hce
  obtain ⟨w1, w2, w3, w4, w5⟩ := hw
  have hlen := hR.2.2.1
  have hl10 : S.1 10 0 := hz.2.2.2.1
  have hlt : ∀ f j, S.1 f j → A f j < h.length := fun f j hs => (List.getElem?_eq_some_iff.mp (hR.1 f j hs).1).1
  have l10 := hlt 10 0 hl10
  have c10 : (h ++ [(Sum.inl (7, [Value.int 0, Value.int 0, Value.int 0, Value.ref (h.length + 1)]) : am_E), (Sum.inl (0, [.int 0, .int 0, .int 0, .int 0, .null]) : am_E)])[A 10 0]? = some (.inl (10, [.int (S.2.1 1000 0), (if S.2.1 1001 0 = -1 then .retAddr 2 else .ref (A 25 0)), .int (nI Wp)])) := by
    rw [two_at _ (by omega), if_pos l10, (hR.1 10 0 hl10).1, ← w2]
    rfl
  have cq : (h ++ [(Sum.inl (7, [Value.int 0, Value.int 0, Value.int 0, Value.ref (h.length + 1)]) : am_E), (Sum.inl (0, [.int 0, .int 0, .int 0, .int 0, .null]) : am_E)])[h.length]? = some (.inl (7, [.int 0, .int 0, .int 0, .ref (h.length + 1)])) := by
    rw [two_at _ (by omega), if_neg (by omega), if_pos rfl]
  have hKh : ∀ a, Kp a → a < h.length := fun a ha => by rw [hlen]; exact hK a ha
  have he : ∀ p, p < Wp → S.2.1 2500 p = nI p := fun p hp => (w5 p hp).1
  have h7 : ∀ p, p < Wp → S.1 7 p := fun p hp => by
    have := (w5 p hp).2.2.1
    rw [nI_clamp (by omega)] at this
    exact this
  -- what the list holds
  have hvs : ∀ (n p : Nat), cl_rf A 7 (S.2.1 2500 p) = if p < Wp then .ref (A 7 p) else .null := fun n p => by
    by_cases c : p < Wp
    · rw [if_pos c, he p c]
      unfold cl_rf
      rw [if_neg (nI_ne_m1 (by omega)), nI_clamp (by omega)]
    · rw [if_neg c, q7 p (by omega)]
      rfl
  have hok : ∀ n, ob_ok (h ++ [(Sum.inl (7, [Value.int 0, Value.int 0, Value.int 0, Value.ref (h.length + 1)]) : am_E), (Sum.inl (0, [.int 0, .int 0, .int 0, .int 0, .null]) : am_E)]) ((List.range n).map (fun p => cl_rf A 7 (S.2.1 2500 p))) := fun n v hv => by
    obtain ⟨p, _, rfl⟩ := List.mem_map.mp hv
    rw [hvs n p]
    by_cases c : p < Wp
    · rw [if_pos c]
      have hp := (hR.1 7 p (h7 p c)).1
      refine Or.inr ⟨A 7 p, (List.range 4).map (fun k => cl_fv A S 7 k p), rfl, ?_⟩
      rw [two_at _ (by have := hlt 7 p (h7 p c); omega), if_pos (hlt 7 p (h7 p c)), hp]
      rfl
    · rw [if_neg c]
      exact Or.inl rfl
  -- the list grows
  have grow : ∀ (ed : Value) (vs : List Value), (h ++ [(Sum.inl (7, [Value.int 0, Value.int 0, Value.int 0, Value.ref (h.length + 1)]) : am_E), (Sum.inl (0, [.int 0, .int 0, .int 0, .int 0, .null]) : am_E)])[A 10 0]? = some (.inl (10, [.int (S.2.1 1000 0), ed, .int (nI Wp)])) → am_arr (am_Bx xs) (h ++ [(Sum.inl (7, [Value.int 0, Value.int 0, Value.int 0, Value.ref (h.length + 1)]) : am_E), (Sum.inl (0, [.int 0, .int 0, .int 0, .int 0, .null]) : am_E)]) ed = some (FieldType.object "java/lang/Object", vs) → vs = (List.range Wp).map (fun p => cl_rf A 7 (S.2.1 2500 p)) → ((∃ b, ed = .ref b) ∧ ¬ Wp = 0 ∨ ed = .retAddr 2 ∧ Wp = 0) → cap S = Wp → am_T (am_Bx xs) am_nm (d + 6) 37 [.ref (A 10 0), .ref h.length] (h ++ [(Sum.inl (7, [Value.int 0, Value.int 0, Value.int 0, Value.ref (h.length + 1)]) : am_E), (Sum.inl (0, [.int 0, .int 0, .int 0, .int 0, .null]) : am_E)]) (fun v h' => v = some (.int 1) ∧ Q' h') := by
    intro ed vs e1 e2 e3 e4 e5
    have hvl : vs.length = Wp := by rw [e3]; simp
    have hg := gl_gt Wp
    refine r37b e1 e2 cq hvl (by omega) e4 (e3 ▸ hok Wp) _ ⟨rfl, ?_⟩
    obtain ⟨cL, hcL⟩ : ∃ cL, cL = (h ++ [(Sum.inl (7, [Value.int 0, Value.int 0, Value.int 0, Value.ref (h.length + 1)]) : am_E), (Sum.inl (0, [.int 0, .int 0, .int 0, .int 0, .null]) : am_E)]).length := ⟨_, rfl⟩
    have hcL2 : cL = h.length + 2 := by rw [hcL, two_len]
    have fin : ∀ h' : am_H, h'.length = (h ++ [(Sum.inl (7, [Value.int 0, Value.int 0, Value.int 0, Value.ref (h.length + 1)]) : am_E), (Sum.inl (0, [.int 0, .int 0, .int 0, .int 0, .null]) : am_E)]).length + 1 ∧ am_sl h' = am_sl (h ++ [(Sum.inl (7, [Value.int 0, Value.int 0, Value.int 0, Value.ref (h.length + 1)]) : am_E), (Sum.inl (0, [.int 0, .int 0, .int 0, .int 0, .null]) : am_E)]) + gl Wp ∧ (∀ a, a < (h ++ [(Sum.inl (7, [Value.int 0, Value.int 0, Value.int 0, Value.ref (h.length + 1)]) : am_E), (Sum.inl (0, [.int 0, .int 0, .int 0, .int 0, .null]) : am_E)]).length + 1 → h'[a]? = if a = A 10 0 then some (.inl (10, [.int (S.2.1 1000 0 + 1), .ref (h ++ [(Sum.inl (7, [Value.int 0, Value.int 0, Value.int 0, Value.ref (h.length + 1)]) : am_E), (Sum.inl (0, [.int 0, .int 0, .int 0, .int 0, .null]) : am_E)]).length, .int (nI (Wp + 1))])) else if a = (h ++ [(Sum.inl (7, [Value.int 0, Value.int 0, Value.int 0, Value.ref (h.length + 1)]) : am_E), (Sum.inl (0, [.int 0, .int 0, .int 0, .int 0, .null]) : am_E)]).length then some (.inr (FieldType.object "java/lang/Object", ((List.range (gl Wp)).map (fun j => vs.getD j .null)).set Wp (.ref h.length))) else (h ++ [(Sum.inl (7, [Value.int 0, Value.int 0, Value.int 0, Value.ref (h.length + 1)]) : am_E), (Sum.inl (0, [.int 0, .int 0, .int 0, .int 0, .null]) : am_E)])[a]?) → Q' h' := by
      rintro h' ⟨f1, f2, f3⟩
      rw [← hcL] at f1 f3
      rw [sl_two] at f2
      have hel : ((List.range (gl Wp)).map (fun j => vs.getD j .null)).set Wp (.ref h.length) = (List.range (nI (gl Wp)).toNatClampNeg).map (fun p => if p < Wp then .ref (A 7 p) else if p = Wp then .ref h.length else .null) := by
        rw [nI_clamp (by omega)]
        apply List.ext_getElem?
        intro p
        rw [set_at (by simp; omega), List.getElem?_map, List.getElem?_map]
        by_cases hp : p < gl Wp
        · rw [List.getElem?_range hp]
          simp only [Option.map_some]
          by_cases cp : p = Wp
          · rw [if_pos cp, if_neg (by omega), if_pos cp]
          · rw [if_neg cp, if_neg cp, e3, List.getD_eq_getElem?_getD, List.getElem?_map]
            by_cases cp2 : p < Wp
            · rw [List.getElem?_range cp2, if_pos cp2]
              simp only [Option.map_some, Option.getD_some]
              rw [hvs 0 p, if_pos cp2]
            · rw [List.getElem?_eq_none (by simp; omega), if_neg cp2]
              rfl
        · rw [List.getElem?_eq_none (l := List.range (gl Wp)) (by simp; omega)]
          simp
          omega
      rw [hel] at f3
      have hx := wS_R (h' := h') (L := h.length) (aL := h.length + 2) (Wp := Wp) (cc := nI (gl Wp)) (dc := 3) (ds := 9 + gl Wp) hR hKh q1 (by omega) rfl q8 q4 q4' q5 q6 hl10 (Or.inr rfl) (by rw [f3 _ (by omega), if_pos rfl, hcL2]) (by rw [f3 _ (by omega), if_neg (by omega), if_neg (by omega), cq]) (by rw [f3 _ (by omega), if_neg (by omega), if_neg (by omega), two_at _ (by omega), if_neg (by omega), if_neg (by omega)]) (by rw [f3 _ (by omega), if_neg (by omega), if_pos hcL2.symm]) (fun a ha n1 n2 => by rw [f3 _ (by omega), if_neg n1, if_neg (by omega), two_at _ (by omega), if_pos ha]) (by rw [f1, hcL2, hlen]) (by rw [f2, hR.2.2.2]; omega) (by omega) he q7
      rw [hlen] at hx
      exact k _ _ _ _ h' (Or.inr ⟨rfl, rfl, e5, rfl, rfl⟩) hx.1 hx.2
    refine fin _ (set_big e1 rfl rfl rfl rfl (by simp [am_sz]) rfl |> fun q => ⟨q.1, by rw [q.2.1]; simp [am_sz], q.2.2⟩)
  by_cases hW0 : Wp = 0
  · have h1001 := q9.mpr hW0
    rw [if_pos h1001] at c10
    refine grow _ [] c10 rfl (by rw [hW0]; rfl) (Or.inr ⟨rfl, hW0⟩) ?_
    unfold cap
    rw [if_pos h1001, hW0]
  · have h1001 : ¬ S.2.1 1001 0 = -1 := fun q => hW0 (q9.mp q)
    have h25 : S.1 25 0 := (w4 (by omega)).2
    rw [if_neg h1001] at c10
    have l25 := hlt 25 0 h25
    have c25 : (h ++ [(Sum.inl (7, [Value.int 0, Value.int 0, Value.int 0, Value.ref (h.length + 1)]) : am_E), (Sum.inl (0, [.int 0, .int 0, .int 0, .int 0, .null]) : am_E)])[A 25 0]? = some (.inr (FieldType.object "java/lang/Object", (List.range (S.2.1 2501 0).toNatClampNeg).map (fun p => cl_rf A 7 (S.2.1 2500 p)))) := by
      rw [two_at _ (by omega), if_pos l25, (hR.1 25 0 h25).1]
      rfl
    have hcap : cap S = (S.2.1 2501 0).toNatClampNeg := if_neg h1001
    by_cases cw : (S.2.1 2501 0).toNatClampNeg = Wp
    · refine grow _ _ c10 ?_ rfl (Or.inl ⟨⟨_, rfl⟩, hW0⟩) (by rw [hcap, cw])
      unfold am_arr
      simp only [c25, cw]
    · have hcl : (S.2.1 2501 0).toNatClampNeg ≤ 100000 := by rw [← hcap]; exact hsm
      have fin : ∀ h' : am_H, h'.length = (h ++ [(Sum.inl (7, [Value.int 0, Value.int 0, Value.int 0, Value.ref (h.length + 1)]) : am_E), (Sum.inl (0, [.int 0, .int 0, .int 0, .int 0, .null]) : am_E)]).length ∧ am_sl h' = am_sl (h ++ [(Sum.inl (7, [Value.int 0, Value.int 0, Value.int 0, Value.ref (h.length + 1)]) : am_E), (Sum.inl (0, [.int 0, .int 0, .int 0, .int 0, .null]) : am_E)]) ∧ (∀ a, h'[a]? = if a = A 10 0 then some (.inl (10, [.int (S.2.1 1000 0 + 1), .ref (A 25 0), .int (nI (Wp + 1))])) else if a = A 25 0 then some (.inr (FieldType.object "java/lang/Object", ((List.range (S.2.1 2501 0).toNatClampNeg).map (fun p => cl_rf A 7 (S.2.1 2500 p))).set Wp (.ref h.length))) else (h ++ [(Sum.inl (7, [Value.int 0, Value.int 0, Value.int 0, Value.ref (h.length + 1)]) : am_E), (Sum.inl (0, [.int 0, .int 0, .int 0, .int 0, .null]) : am_E)])[a]?) → Q' h' := by
        rintro h' ⟨f1, f2, f3⟩
        rw [two_len] at f1
        rw [sl_two] at f2
        have n10 : ¬ A 25 0 = A 10 0 := fun q => absurd (hR.2.1 25 0 10 0 h25 hl10 q).1 (by decide)
        have hel : ((List.range (S.2.1 2501 0).toNatClampNeg).map (fun p => cl_rf A 7 (S.2.1 2500 p))).set Wp (.ref h.length) = (List.range (S.2.1 2501 0).toNatClampNeg).map (fun p => if p < Wp then .ref (A 7 p) else if p = Wp then .ref h.length else .null) := by
          apply List.ext_getElem?
          intro p
          rw [set_at (by simp; omega), List.getElem?_map, List.getElem?_map]
          by_cases hp : p < (S.2.1 2501 0).toNatClampNeg
          · rw [List.getElem?_range hp]
            simp only [Option.map_some]
            by_cases cp : p = Wp
            · rw [if_pos cp, if_neg (by omega), if_pos cp]
            · rw [if_neg cp, if_neg cp, hvs 0 p]
          · rw [List.getElem?_eq_none (l := List.range (S.2.1 2501 0).toNatClampNeg) (by simp; omega)]
            simp
            omega
        rw [hel] at f3
        have hx := wS_R (h' := h') (L := h.length) (aL := A 25 0) (Wp := Wp) (cc := S.2.1 2501 0) (dc := 2) (ds := 9) hR hKh q1 (by omega) rfl q8 q4 q4' q5 q6 hl10 (Or.inl ⟨h25, rfl⟩) (by rw [f3, if_pos rfl]) (by rw [f3, if_neg (by omega), if_neg (by omega), cq]) (by rw [f3, if_neg (by omega), if_neg (by omega), two_at _ (by omega), if_neg (by omega), if_neg (by omega)]) (by rw [f3, if_neg n10, if_pos rfl]) (fun a ha n1 n2 => by rw [f3, if_neg n1, if_neg n2, two_at _ (by omega), if_pos ha]) (by rw [f1, hlen]) (by rw [f2, hR.2.2.2]) (by omega) he q7
        rw [hlen] at hx
        exact k _ _ _ _ h' (Or.inl ⟨rfl, h25, h1001, rfl, by omega, rfl, rfl⟩) hx.1 hx.2
      refine am_T_le (by omega) (r37a (d := d) c10 c25 cq (by simp; omega) (by simpa using hcl) _ ⟨rfl, fin _ (set_small c10 c25 (fun q => absurd (hR.2.1 25 0 10 0 h25 hl10 q).1 (by decide)) rfl rfl rfl (by simp [am_sz]) rfl)⟩)
end WM
