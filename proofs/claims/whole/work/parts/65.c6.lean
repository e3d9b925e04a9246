/-! the class's small methods (by program: wip/whole/gen/c6.py) -/
theorem f_more_lt (a b : Int32) : f_more a b = if a < b then b else a := by
  unfold f_more
  by_cases h : a < b
  · rw [if_pos h, if_pos (Int32.le_of_lt h)]
  · rw [if_neg h]
    by_cases h2 : a ≤ b
    · rw [if_pos h2]
      exact Int32.le_antisymm (Int32.not_lt.mp h) h2
    · rw [if_neg h2]
theorem f_less_lt (a b : Int32) : f_less a b = if b < a then b else a := by
  unfold f_less
  by_cases h : b < a
  · rw [if_pos h, if_pos (Int32.le_of_lt h)]
  · rw [if_neg h]
    by_cases h2 : b ≤ a
    · rw [if_pos h2]
      exact Int32.le_antisymm h2 (Int32.not_lt.mp h)
    · rw [if_neg h2]
theorem cl_n.mv {S S' : cl_S} {x : Int32} (h : cl_n S x) (e : S'.1 = S.1) : cl_n S' x := by unfold cl_n; rw [e]; exact h
theorem cl_f.mv {S S' : cl_S} {x : Int32} (h : cl_f S x) (e : S'.1 = S.1) : cl_f S' x := by unfold cl_f; rw [e]; exact h
theorem cl_w.mv {S S' : cl_S} {x : Int32} (h : cl_w S x) (e : S'.1 = S.1) : cl_w S' x := by unfold cl_w; rw [e]; exact h
theorem cl_z.mv {S S' : cl_S} (h : cl_z S) (e : S'.1 = S.1) : cl_z S' := by unfold cl_z; rw [e]; exact h
theorem cl_lv.mv {S S' : cl_S} {c : Nat} {x : Int32} (h : cl_lv S c x) (e : S'.1 = S.1) : cl_lv S' c x := by unfold cl_lv; rw [e]; exact h
section CLP
variable {xs : List Int32} {K : Nat → Prop} {h0 : am_H} {d : Nat} {Q : Option Value → cl_A → cl_S → Prop} {I : am_I} {pc : Nat} {ls : List (Option Value)} {st rest : List Value} {A : cl_A} {S S' : cl_S}
theorem cl_callP {idx mi n c : Nat} {v : Int32} {as : List Value} {J : am_I} {r : Value} (hd : decode I.2.1 pc = .ok (.invokevirtual idx, 3)) (hb : am_pool I.1 idx = (4, mi, n)) (hn : as.length = n) (hrl : rest.length ≤ 8) (hJ : (am_Bx xs).2.1 mi = some J) (hJc : J.1 = c) (hc20 : c < 20) (hl : cl_lv S c v) (hc : ∀ Q', Q' (some r) A S → cl_C xs K d mi (cl_rf A c v :: as) A S Q') (hst : st = as.reverse ++ cl_rf A c v :: rest) (k : cl_wp xs K h0 d Q I (pc + 3) ls (r :: rest) A S) : cl_wp xs K h0 d Q I pc ls st A S :=
  cl_call hd hb hn hrl hJ hJc hc20 hl (hc _ k) hst
theorem cl_callU {idx mi n c : Nat} {v : Int32} {as : List Value} {J : am_I} (hd : decode I.2.1 pc = .ok (.invokevirtual idx, 3)) (hb : am_pool I.1 idx = (4, mi, n)) (hn : as.length = n) (hrl : rest.length ≤ 8) (hJ : (am_Bx xs).2.1 mi = some J) (hJc : J.1 = c) (hc20 : c < 20) (hl : cl_lv S c v) (hc : ∀ Q', Q' none A S' → cl_C xs K d mi (cl_rf A c v :: as) A S Q') (hst : st = as.reverse ++ cl_rf A c v :: rest) (k : cl_wp xs K h0 d Q I (pc + 3) ls rest A S') : cl_wp xs K h0 d Q I pc ls st A S :=
  cl_call hd hb hn hrl hJ hJc hc20 hl (hc _ k) hst
theorem cl_callsP {idx mi n : Nat} {as : List Value} {r : Value} (hd : decode I.2.1 pc = .ok (.invokestatic idx, 3)) (hb : am_pool I.1 idx = (5, mi, n)) (hn : as.length = n) (hrl : rest.length ≤ 8) (hc : ∀ Q', Q' (some r) A S → cl_C xs K d mi as A S Q') (hst : st = as.reverse ++ rest) (k : cl_wp xs K h0 d Q I (pc + 3) ls (r :: rest) A S) : cl_wp xs K h0 d Q I pc ls st A S :=
  cl_calls hd hb hn hrl (hc _ k) hst
theorem cl_callsU {idx mi n : Nat} {as : List Value} (hd : decode I.2.1 pc = .ok (.invokestatic idx, 3)) (hb : am_pool I.1 idx = (5, mi, n)) (hn : as.length = n) (hrl : rest.length ≤ 8) (hc : ∀ Q', Q' none A S' → cl_C xs K d mi as A S Q') (hst : st = as.reverse ++ rest) (k : cl_wp xs K h0 d Q I (pc + 3) ls rest A S') : cl_wp xs K h0 d Q I pc ls st A S :=
  cl_calls hd hb hn hrl (hc _ k) hst
end CLP
/-- isBlank -/
def g_blank (S : cl_S) (x0 : Int32) : Int32 := if x0 = 10 then 1 else (if ¬ x0 = 32 then 0 else 1)
set_option maxHeartbeats 1000000 in
theorem vc32_0 {xs : List Int32} {K : Nat → Prop} {h0 : am_H} {d : Nat} {Q : Option Value → cl_A → cl_S → Prop} {A : cl_A} {S : cl_S} {x0 : Int32}
    (k : ((x0 = 10) → Q (some (.int 1)) A S) ∧ (¬ (x0 = 10) → ((¬ x0 = 32) → Q (some (.int 0)) A S) ∧ (¬ (¬ x0 = 32) → Q (some (.int 1)) A S))) :
    cl_wp xs K h0 d Q I32 0 [some (.int x0)] [] A S := by
  refine cl_iload_n (dd D32_ok 0 rfl) rfl ?_
  refine cl_bipush (v := 10) (dd D32_ok 1 rfl) (by decide) ?_
  refine cl_icmp_eq (tgt := 12) (dd D32_ok 2 rfl) (by decide) (fun c1 => ?_) (fun c1 => ?_)
  · refine cl_iconst (v := 1) (dd D32_ok 6 rfl) (by decide) ?_
    refine cl_goto (tgt := 17) (dd D32_ok 7 rfl) (by decide) ?_
    exact cl_iret (dd D32_ok 9 rfl) rfl (k.1 c1)
  · refine cl_iload_n (dd D32_ok 3 rfl) rfl ?_
    refine cl_bipush (v := 32) (dd D32_ok 4 rfl) (by decide) ?_
    refine cl_icmp_ne (tgt := 16) (dd D32_ok 5 rfl) (by decide) (fun c2 => ?_) (fun c2 => ?_)
    · refine cl_iconst (v := 0) (dd D32_ok 8 rfl) (by decide) ?_
      exact cl_iret (dd D32_ok 9 rfl) rfl ((k.2 c1).1 c2)
    · refine cl_iconst (v := 1) (dd D32_ok 6 rfl) (by decide) ?_
      refine cl_goto (tgt := 17) (dd D32_ok 7 rfl) (by decide) ?_
      exact cl_iret (dd D32_ok 9 rfl) rfl ((k.2 c1).2 c2)
theorem cc_g_blank {xs : List Int32} {K : Nat → Prop} {d : Nat} {A : cl_A} {S : cl_S} {x0 : Int32}  : ∀ Q', Q' (some (.int (g_blank S x0))) A S → cl_C xs K (d + 1) 32 [.int x0] A S Q' := by
  intro Q' hQ
  refine cl_intro (ms32 xs) (Nat.le_of_ble_eq_true rfl) (fun h0 => vc32_0 ?_)
  unfold g_blank at hQ
  refine ⟨fun c1 => ?_, fun c1 => ?_⟩
  · rw [if_pos c1] at hQ
    exact hQ
  · rw [if_neg c1] at hQ
    refine ⟨fun c2 => ?_, fun c2 => ?_⟩
    · rw [if_pos c2] at hQ
      exact hQ
    · rw [if_neg c2] at hQ
      exact hQ
/-- within -/
def g_within (S : cl_S) (x0 x1 x2 : Int32) : Int32 := if x0 < x1 then 0 else (if x2 < x0 then 0 else 1)
set_option maxHeartbeats 1000000 in
theorem vc26_0 {xs : List Int32} {K : Nat → Prop} {h0 : am_H} {d : Nat} {Q : Option Value → cl_A → cl_S → Prop} {A : cl_A} {S : cl_S} {x0 : Int32} {x1 : Int32} {x2 : Int32}
    (k : ((x0 < x1) → Q (some (.int 0)) A S) ∧ (¬ (x0 < x1) → ((x2 < x0) → Q (some (.int 0)) A S) ∧ (¬ (x2 < x0) → Q (some (.int 1)) A S))) :
    cl_wp xs K h0 d Q I26 0 [some (.int x0), some (.int x1), some (.int x2)] [] A S := by
  refine cl_iload_n (dd D26_ok 0 rfl) rfl ?_
  refine cl_iload_n (dd D26_ok 1 rfl) rfl ?_
  refine cl_icmp_lt (tgt := 14) (dd D26_ok 2 rfl) (by decide) (fun c1 => ?_) (fun c1 => ?_)
  · refine cl_iconst (v := 0) (dd D26_ok 8 rfl) (by decide) ?_
    exact cl_iret (dd D26_ok 9 rfl) rfl (k.1 c1)
  · refine cl_iload_n (dd D26_ok 3 rfl) rfl ?_
    refine cl_iload_n (dd D26_ok 4 rfl) rfl ?_
    refine cl_icmp_gt (tgt := 14) (dd D26_ok 5 rfl) (by decide) (fun c2 => ?_) (fun c2 => ?_)
    · refine cl_iconst (v := 0) (dd D26_ok 8 rfl) (by decide) ?_
      exact cl_iret (dd D26_ok 9 rfl) rfl ((k.2 c1).1 c2)
    · refine cl_iconst (v := 1) (dd D26_ok 6 rfl) (by decide) ?_
      refine cl_goto (tgt := 15) (dd D26_ok 7 rfl) (by decide) ?_
      exact cl_iret (dd D26_ok 9 rfl) rfl ((k.2 c1).2 c2)
theorem cc_g_within {xs : List Int32} {K : Nat → Prop} {d : Nat} {A : cl_A} {S : cl_S} {x0 x1 x2 : Int32}  : ∀ Q', Q' (some (.int (g_within S x0 x1 x2))) A S → cl_C xs K (d + 1) 26 [.int x0, .int x1, .int x2] A S Q' := by
  intro Q' hQ
  refine cl_intro (ms26 xs) (Nat.le_of_ble_eq_true rfl) (fun h0 => vc26_0 ?_)
  unfold g_within at hQ
  refine ⟨fun c1 => ?_, fun c1 => ?_⟩
  · rw [if_pos c1] at hQ
    exact hQ
  · rw [if_neg c1] at hQ
    refine ⟨fun c2 => ?_, fun c2 => ?_⟩
    · rw [if_pos c2] at hQ
      exact hQ
    · rw [if_neg c2] at hQ
      exact hQ
/-- frame -/
def g_frame (S : cl_S) (x0 : Int32) : Int32 := (S.2.1 2200 (9 * x0.toNatClampNeg + 5)) + (S.2.1 2200 (9 * x0.toNatClampNeg + 6))
set_option maxHeartbeats 1000000 in
theorem vc53_0 {xs : List Int32} {K : Nat → Prop} {h0 : am_H} {d : Nat} {Q : Option Value → cl_A → cl_S → Prop} {A : cl_A} {S : cl_S} {x0 : Int32}
    (k : (cl_n S x0) ∧ (Q (some (.int ((S.2.1 2200 (9 * x0.toNatClampNeg + 5)) + (S.2.1 2200 (9 * x0.toNatClampNeg + 6))))) A S)) :
    cl_wp xs K h0 d Q I53 0 [some (cl_rf A 5 x0)] [] A S := by
  refine cl_aload_n (dd D53_ok 0 rfl) rfl ?_
  refine cl_getO (g := 22) (dd D53_ok 1 rfl) pl5_9 (by decide) (by decide) (by decide) rfl k.1.l5 ?_
  refine cl_iconst (v := 5) (dd D53_ok 2 rfl) (by decide) ?_
  refine cl_hs (q := 5) (e := S.2.1 2200 (9 * x0.toNatClampNeg + 5)) (dd D53_ok 3 rfl) k.1.l22 (md_vl (by decide)) (by decide) rfl ?_
  refine cl_aload_n (dd D53_ok 4 rfl) rfl ?_
  refine cl_getO (g := 22) (dd D53_ok 5 rfl) pl5_9 (by decide) (by decide) (by decide) rfl k.1.l5 ?_
  refine cl_bipush (v := 6) (dd D53_ok 6 rfl) (by decide) ?_
  refine cl_hs (q := 6) (e := S.2.1 2200 (9 * x0.toNatClampNeg + 6)) (dd D53_ok 7 rfl) k.1.l22 (md_vl (by decide)) (by decide) rfl ?_
  refine cl_iadd (dd D53_ok 8 rfl) ?_
  exact cl_iret (dd D53_ok 9 rfl) rfl k.2
theorem cc_g_frame {xs : List Int32} {K : Nat → Prop} {d : Nat} {A : cl_A} {S : cl_S} {x0 : Int32} (h0 : cl_n S x0) : ∀ Q', Q' (some (.int (g_frame S x0))) A S → cl_C xs K (d + 1) 53 [cl_rf A 5 x0] A S Q' := by
  intro Q' hQ
  refine cl_intro (ms53 xs) (Nat.le_of_ble_eq_true rfl) (fun h0 => vc53_0 ?_)
  unfold g_frame at hQ
  refine ⟨by first | assumption, ?_⟩
  exact hQ
/-- toldWidth -/
def g_told (S : cl_S) (x0 x1 x2 : Int32) : Int32 := if ¬ (S.2.1 2200 (9 * x0.toNatClampNeg + 2)) = (-1) then (if 1000 ≤ (S.2.1 2200 (9 * x0.toNatClampNeg + 2)) then ((x1 * ((S.2.1 2200 (9 * x0.toNatClampNeg + 2)) - 1000)) / 100) else (S.2.1 2200 (9 * x0.toNatClampNeg + 2))) else x2
set_option maxHeartbeats 1000000 in
theorem vc58_0 {xs : List Int32} {K : Nat → Prop} {h0 : am_H} {d : Nat} {Q : Option Value → cl_A → cl_S → Prop} {A : cl_A} {S : cl_S} {x0 : Int32} {x1 : Int32} {x2 : Int32}
    (k : (cl_n S x0) ∧ (((¬ (S.2.1 2200 (9 * x0.toNatClampNeg + 2)) = (-1)) → ((1000 ≤ (S.2.1 2200 (9 * x0.toNatClampNeg + 2))) → Q (some (.int ((x1 * ((S.2.1 2200 (9 * x0.toNatClampNeg + 2)) - 1000)) / 100))) A S) ∧ (¬ (1000 ≤ (S.2.1 2200 (9 * x0.toNatClampNeg + 2))) → Q (some (.int (S.2.1 2200 (9 * x0.toNatClampNeg + 2)))) A S)) ∧ (¬ (¬ (S.2.1 2200 (9 * x0.toNatClampNeg + 2)) = (-1)) → Q (some (.int x2)) A S))) :
    cl_wp xs K h0 d Q I58 0 [some (cl_rf A 5 x0), some (.int x1), some (.int x2), none] [] A S := by
  refine cl_aload_n (dd D58_ok 0 rfl) rfl ?_
  refine cl_getO (g := 22) (dd D58_ok 1 rfl) pl5_9 (by decide) (by decide) (by decide) rfl k.1.l5 ?_
  refine cl_iconst (v := 2) (dd D58_ok 2 rfl) (by decide) ?_
  refine cl_hs (q := 2) (e := S.2.1 2200 (9 * x0.toNatClampNeg + 2)) (dd D58_ok 3 rfl) k.1.l22 (md_vl (by decide)) (by decide) rfl ?_
  refine cl_istore_n (dd D58_ok 4 rfl) (Nat.le_of_ble_eq_true rfl) ?_
  refine cl_iload_n (dd D58_ok 5 rfl) rfl ?_
  refine cl_iconst (v := (-1)) (dd D58_ok 6 rfl) (by decide) ?_
  refine cl_icmp_ne (tgt := 14) (dd D58_ok 7 rfl) (by decide) (fun c1 => ?_) (fun c1 => ?_)
  · refine cl_iload_n (dd D58_ok 10 rfl) rfl ?_
    refine cl_sipush (v := 1000) (dd D58_ok 11 rfl) (by decide) ?_
    refine cl_icmp_ge (tgt := 25) (dd D58_ok 12 rfl) (by decide) (fun c2 => ?_) (fun c2 => ?_)
    · refine cl_iload_n (dd D58_ok 15 rfl) rfl ?_
      refine cl_iload_n (dd D58_ok 16 rfl) rfl ?_
      refine cl_sipush (v := 1000) (dd D58_ok 17 rfl) (by decide) ?_
      refine cl_isub (dd D58_ok 18 rfl) ?_
      refine cl_imul (dd D58_ok 19 rfl) ?_
      refine cl_bipush (v := 100) (dd D58_ok 20 rfl) (by decide) ?_
      refine cl_idiv (dd D58_ok 21 rfl) (by decide) ?_
      exact cl_iret (dd D58_ok 22 rfl) rfl ((k.2.1 c1).1 c2)
    · refine cl_iload_n (dd D58_ok 13 rfl) rfl ?_
      refine cl_goto (tgt := 35) (dd D58_ok 14 rfl) (by decide) ?_
      exact cl_iret (dd D58_ok 22 rfl) rfl ((k.2.1 c1).2 c2)
  · refine cl_iload_n (dd D58_ok 8 rfl) rfl ?_
    exact cl_iret (dd D58_ok 9 rfl) rfl (k.2.2 c1)
theorem cc_g_told {xs : List Int32} {K : Nat → Prop} {d : Nat} {A : cl_A} {S : cl_S} {x0 x1 x2 : Int32} (h0 : cl_n S x0) : ∀ Q', Q' (some (.int (g_told S x0 x1 x2))) A S → cl_C xs K (d + 1) 58 [cl_rf A 5 x0, .int x1, .int x2] A S Q' := by
  intro Q' hQ
  refine cl_intro (ms58 xs) (Nat.le_of_ble_eq_true rfl) (fun h0 => vc58_0 ?_)
  unfold g_told at hQ
  refine ⟨by first | assumption, ?_⟩
  refine ⟨fun c1 => ?_, fun c1 => ?_⟩
  · rw [if_pos c1] at hQ
    refine ⟨fun c2 => ?_, fun c2 => ?_⟩
    · rw [if_pos c2] at hQ
      exact hQ
    · rw [if_neg c2] at hQ
      exact hQ
  · rw [if_neg c1] at hQ
    exact hQ
/-- framedWidth -/
def g_fw (S : cl_S) (x0 x1 x2 : Int32) : Int32 := f_more (g_told S x0 x1 x2) (2 * (g_frame S x0))
set_option maxHeartbeats 1000000 in
theorem vc63_0 {xs : List Int32} {K : Nat → Prop} {h0 : am_H} {d : Nat} {Q : Option Value → cl_A → cl_S → Prop} {A : cl_A} {S : cl_S} {x0 : Int32} {x1 : Int32} {x2 : Int32}
    (k : (cl_n S x0) ∧ (Q (some (.int (f_more (g_told S x0 x1 x2) (2 * (g_frame S x0))))) A S)) :
    cl_wp xs K h0 (d + 1) Q I63 0 [some (cl_rf A 5 x0), some (.int x1), some (.int x2)] [] A S := by
  refine cl_aload_n (dd D63_ok 0 rfl) rfl ?_
  refine cl_iload_n (dd D63_ok 1 rfl) rfl ?_
  refine cl_iload_n (dd D63_ok 2 rfl) rfl ?_
  refine cl_callP (r := .int (g_told S x0 x1 x2)) (as := [.int x1, .int x2]) (rest := []) (v := x0) (dd D63_ok 3 rfl) pl5_55 rfl (Nat.le_of_ble_eq_true rfl) (ms58 xs) rfl (by decide) k.1.l5 (cc_g_told (S := S) k.1) rfl ?_
  refine cl_iconst (v := 2) (dd D63_ok 4 rfl) (by decide) ?_
  refine cl_aload_n (dd D63_ok 5 rfl) rfl ?_
  refine cl_callP (r := .int (g_frame S x0)) (as := []) (rest := [.int 2, .int (g_told S x0 x1 x2)]) (v := x0) (dd D63_ok 6 rfl) pl5_59 rfl (Nat.le_of_ble_eq_true rfl) (ms53 xs) rfl (by decide) k.1.l5 (cc_g_frame (S := S) k.1) rfl ?_
  refine cl_imul (dd D63_ok 7 rfl) ?_
  refine cl_max (dd D63_ok 8 rfl) pl5_63 (Nat.le_of_ble_eq_true rfl) ?_
  rw [← f_more_lt]
  exact cl_iret (dd D63_ok 9 rfl) rfl k.2
theorem cc_g_fw {xs : List Int32} {K : Nat → Prop} {d : Nat} {A : cl_A} {S : cl_S} {x0 x1 x2 : Int32} (h0 : cl_n S x0) : ∀ Q', Q' (some (.int (g_fw S x0 x1 x2))) A S → cl_C xs K (d + 2) 63 [cl_rf A 5 x0, .int x1, .int x2] A S Q' := by
  intro Q' hQ
  refine cl_intro (ms63 xs) (Nat.le_of_ble_eq_true rfl) (fun h0 => vc63_0 ?_)
  unfold g_fw at hQ
  refine ⟨by first | assumption, ?_⟩
  exact hQ
/-- framedHeight -/
def g_fh (S : cl_S) (x0 x1 : Int32) : Int32 := if ¬ (S.2.1 2200 (9 * x0.toNatClampNeg + 3)) = (-1) then (f_more (S.2.1 2200 (9 * x0.toNatClampNeg + 3)) (2 * (g_frame S x0))) else (x1 + (2 * (g_frame S x0)))
set_option maxHeartbeats 1000000 in
theorem vc98_0 {xs : List Int32} {K : Nat → Prop} {h0 : am_H} {d : Nat} {Q : Option Value → cl_A → cl_S → Prop} {A : cl_A} {S : cl_S} {x0 : Int32} {x1 : Int32}
    (k : (cl_n S x0) ∧ (((¬ (S.2.1 2200 (9 * x0.toNatClampNeg + 3)) = (-1)) → Q (some (.int (f_more (S.2.1 2200 (9 * x0.toNatClampNeg + 3)) (2 * (g_frame S x0))))) A S) ∧ (¬ (¬ (S.2.1 2200 (9 * x0.toNatClampNeg + 3)) = (-1)) → Q (some (.int (x1 + (2 * (g_frame S x0))))) A S))) :
    cl_wp xs K h0 (d + 1) Q I98 0 [some (cl_rf A 5 x0), some (.int x1), none] [] A S := by
  refine cl_aload_n (dd D98_ok 0 rfl) rfl ?_
  refine cl_getO (g := 22) (dd D98_ok 1 rfl) pl5_9 (by decide) (by decide) (by decide) rfl k.1.l5 ?_
  refine cl_iconst (v := 3) (dd D98_ok 2 rfl) (by decide) ?_
  refine cl_hs (q := 3) (e := S.2.1 2200 (9 * x0.toNatClampNeg + 3)) (dd D98_ok 3 rfl) k.1.l22 (md_vl (by decide)) (by decide) rfl ?_
  refine cl_istore_n (dd D98_ok 4 rfl) (Nat.le_of_ble_eq_true rfl) ?_
  refine cl_iload_n (dd D98_ok 5 rfl) rfl ?_
  refine cl_iconst (v := (-1)) (dd D98_ok 6 rfl) (by decide) ?_
  refine cl_icmp_ne (tgt := 23) (dd D98_ok 7 rfl) (by decide) (fun c1 => ?_) (fun c1 => ?_)
  · refine cl_iload_n (dd D98_ok 15 rfl) rfl ?_
    refine cl_iconst (v := 2) (dd D98_ok 16 rfl) (by decide) ?_
    refine cl_aload_n (dd D98_ok 17 rfl) rfl ?_
    refine cl_callP (r := .int (g_frame S x0)) (as := []) (rest := [.int 2, .int (S.2.1 2200 (9 * x0.toNatClampNeg + 3))]) (v := x0) (dd D98_ok 18 rfl) pl5_59 rfl (Nat.le_of_ble_eq_true rfl) (ms53 xs) rfl (by decide) k.1.l5 (cc_g_frame (S := S) k.1) rfl ?_
    refine cl_imul (dd D98_ok 19 rfl) ?_
    refine cl_max (dd D98_ok 20 rfl) pl5_63 (Nat.le_of_ble_eq_true rfl) ?_
    rw [← f_more_lt]
    exact cl_iret (dd D98_ok 21 rfl) rfl (k.2.1 c1)
  · refine cl_iload_n (dd D98_ok 8 rfl) rfl ?_
    refine cl_iconst (v := 2) (dd D98_ok 9 rfl) (by decide) ?_
    refine cl_aload_n (dd D98_ok 10 rfl) rfl ?_
    refine cl_callP (r := .int (g_frame S x0)) (as := []) (rest := [.int 2, .int x1]) (v := x0) (dd D98_ok 11 rfl) pl5_59 rfl (Nat.le_of_ble_eq_true rfl) (ms53 xs) rfl (by decide) k.1.l5 (cc_g_frame (S := S) k.1) rfl ?_
    refine cl_imul (dd D98_ok 12 rfl) ?_
    refine cl_iadd (dd D98_ok 13 rfl) ?_
    refine cl_goto (tgt := 33) (dd D98_ok 14 rfl) (by decide) ?_
    exact cl_iret (dd D98_ok 21 rfl) rfl (k.2.2 c1)
theorem cc_g_fh {xs : List Int32} {K : Nat → Prop} {d : Nat} {A : cl_A} {S : cl_S} {x0 x1 : Int32} (h0 : cl_n S x0) : ∀ Q', Q' (some (.int (g_fh S x0 x1))) A S → cl_C xs K (d + 2) 98 [cl_rf A 5 x0, .int x1] A S Q' := by
  intro Q' hQ
  refine cl_intro (ms98 xs) (Nat.le_of_ble_eq_true rfl) (fun h0 => vc98_0 ?_)
  unfold g_fh at hQ
  refine ⟨by first | assumption, ?_⟩
  refine ⟨fun c1 => ?_, fun c1 => ?_⟩
  · rw [if_pos c1] at hQ
    exact hQ
  · rw [if_neg c1] at hQ
    exact hQ
/-- isEmpty -/
def g_empty (S : cl_S) (x0 : Int32) : Int32 := if ¬ (S.2.1 400 x0.toNatClampNeg) = -1 then 0 else 1
set_option maxHeartbeats 1000000 in
theorem vc67_0 {xs : List Int32} {K : Nat → Prop} {h0 : am_H} {d : Nat} {Q : Option Value → cl_A → cl_S → Prop} {A : cl_A} {S : cl_S} {x0 : Int32}
    (k : (cl_f S x0) ∧ (((¬ (S.2.1 400 x0.toNatClampNeg) = -1) → Q (some (.int 0)) A S) ∧ (¬ (¬ (S.2.1 400 x0.toNatClampNeg) = -1) → Q (some (.int 1)) A S))) :
    cl_wp xs K h0 d Q I67 0 [some (cl_rf A 4 x0)] [] A S := by
  refine cl_aload_n (dd D67_ok 0 rfl) rfl ?_
  refine cl_gR (g := 400) (f := 0) (e := S.2.1 400 x0.toNatClampNeg) (dd D67_ok 1 rfl) pl4_9 (by decide) (by decide) (by decide) rfl rfl k.1.l4 rfl ?_
  refine cl_ifnonnull (tgt := 11) (dd D67_ok 2 rfl) (by decide) (fun c1 => ?_) (fun c1 => ?_)
  · refine cl_iconst (v := 0) (dd D67_ok 5 rfl) (by decide) ?_
    exact cl_iret (dd D67_ok 6 rfl) rfl (k.2.1 c1)
  · refine cl_iconst (v := 1) (dd D67_ok 3 rfl) (by decide) ?_
    refine cl_goto (tgt := 12) (dd D67_ok 4 rfl) (by decide) ?_
    exact cl_iret (dd D67_ok 6 rfl) rfl (k.2.2 c1)
theorem cc_g_empty {xs : List Int32} {K : Nat → Prop} {d : Nat} {A : cl_A} {S : cl_S} {x0 : Int32} (h0 : cl_f S x0) : ∀ Q', Q' (some (.int (g_empty S x0))) A S → cl_C xs K (d + 1) 67 [cl_rf A 4 x0] A S Q' := by
  intro Q' hQ
  refine cl_intro (ms67 xs) (Nat.le_of_ble_eq_true rfl) (fun h0 => vc67_0 ?_)
  unfold g_empty at hQ
  refine ⟨by first | assumption, ?_⟩
  refine ⟨fun c1 => ?_, fun c1 => ?_⟩
  · rw [if_pos c1] at hQ
    exact hQ
  · rw [if_neg c1] at hQ
    exact hQ
/-- takes -/
def g_takes (S : cl_S) (x0 x1 : Int32) : Int32 := if ((S.2.1 402 x0.toNatClampNeg) - (S.2.1 403 x0.toNatClampNeg)) < x1 then 0 else 1
set_option maxHeartbeats 1000000 in
theorem vc81_0 {xs : List Int32} {K : Nat → Prop} {h0 : am_H} {d : Nat} {Q : Option Value → cl_A → cl_S → Prop} {A : cl_A} {S : cl_S} {x0 : Int32} {x1 : Int32}
    (k : (cl_f S x0) ∧ (((((S.2.1 402 x0.toNatClampNeg) - (S.2.1 403 x0.toNatClampNeg)) < x1) → Q (some (.int 0)) A S) ∧ (¬ (((S.2.1 402 x0.toNatClampNeg) - (S.2.1 403 x0.toNatClampNeg)) < x1) → Q (some (.int 1)) A S))) :
    cl_wp xs K h0 d Q I81 0 [some (cl_rf A 4 x0), some (.int x1)] [] A S := by
  refine cl_iload_n (dd D81_ok 0 rfl) rfl ?_
  refine cl_aload_n (dd D81_ok 1 rfl) rfl ?_
  refine cl_gI (g := 402) (e := S.2.1 402 x0.toNatClampNeg) (dd D81_ok 2 rfl) pl4_25 (by decide) (by decide) (by decide) rfl rfl k.1.l4 rfl ?_
  refine cl_aload_n (dd D81_ok 3 rfl) rfl ?_
  refine cl_gI (g := 403) (e := S.2.1 403 x0.toNatClampNeg) (dd D81_ok 4 rfl) pl4_22 (by decide) (by decide) (by decide) rfl rfl k.1.l4 rfl ?_
  refine cl_isub (dd D81_ok 5 rfl) ?_
  refine cl_icmp_gt (tgt := 17) (dd D81_ok 6 rfl) (by decide) (fun c1 => ?_) (fun c1 => ?_)
  · refine cl_iconst (v := 0) (dd D81_ok 9 rfl) (by decide) ?_
    exact cl_iret (dd D81_ok 10 rfl) rfl (k.2.1 c1)
  · refine cl_iconst (v := 1) (dd D81_ok 7 rfl) (by decide) ?_
    refine cl_goto (tgt := 18) (dd D81_ok 8 rfl) (by decide) ?_
    exact cl_iret (dd D81_ok 10 rfl) rfl (k.2.2 c1)
theorem cc_g_takes {xs : List Int32} {K : Nat → Prop} {d : Nat} {A : cl_A} {S : cl_S} {x0 x1 : Int32} (h0 : cl_f S x0) : ∀ Q', Q' (some (.int (g_takes S x0 x1))) A S → cl_C xs K (d + 1) 81 [cl_rf A 4 x0, .int x1] A S Q' := by
  intro Q' hQ
  refine cl_intro (ms81 xs) (Nat.le_of_ble_eq_true rfl) (fun h0 => vc81_0 ?_)
  unfold g_takes at hQ
  refine ⟨by first | assumption, ?_⟩
  refine ⟨fun c1 => ?_, fun c1 => ?_⟩
  · rw [if_pos c1] at hQ
    exact hQ
  · rw [if_neg c1] at hQ
    exact hQ
/-- spaceAhead -/
def g_space (S : cl_S) (x0 x1 : Int32) : Int32 := if ¬ x1 = 1 then (if ¬ x1 = 2 then 0 else (f_more 0 ((S.2.1 402 x0.toNatClampNeg) - (S.2.1 403 x0.toNatClampNeg)))) else ((f_more 0 ((S.2.1 402 x0.toNatClampNeg) - (S.2.1 403 x0.toNatClampNeg))) / 2)
set_option maxHeartbeats 1000000 in
theorem vc85_0 {xs : List Int32} {K : Nat → Prop} {h0 : am_H} {d : Nat} {Q : Option Value → cl_A → cl_S → Prop} {A : cl_A} {S : cl_S} {x0 : Int32} {x1 : Int32}
    (k : (cl_f S x0) ∧ (((¬ x1 = 1) → ((¬ x1 = 2) → Q (some (.int 0)) A S) ∧ (¬ (¬ x1 = 2) → Q (some (.int (f_more 0 ((S.2.1 402 x0.toNatClampNeg) - (S.2.1 403 x0.toNatClampNeg))))) A S)) ∧ (¬ (¬ x1 = 1) → Q (some (.int ((f_more 0 ((S.2.1 402 x0.toNatClampNeg) - (S.2.1 403 x0.toNatClampNeg))) / 2))) A S))) :
    cl_wp xs K h0 d Q I85 0 [some (cl_rf A 4 x0), some (.int x1), none] [] A S := by
  refine cl_iconst (v := 0) (dd D85_ok 0 rfl) (by decide) ?_
  refine cl_aload_n (dd D85_ok 1 rfl) rfl ?_
  refine cl_gI (g := 402) (e := S.2.1 402 x0.toNatClampNeg) (dd D85_ok 2 rfl) pl4_25 (by decide) (by decide) (by decide) rfl rfl k.1.l4 rfl ?_
  refine cl_aload_n (dd D85_ok 3 rfl) rfl ?_
  refine cl_gI (g := 403) (e := S.2.1 403 x0.toNatClampNeg) (dd D85_ok 4 rfl) pl4_22 (by decide) (by decide) (by decide) rfl rfl k.1.l4 rfl ?_
  refine cl_isub (dd D85_ok 5 rfl) ?_
  refine cl_max (dd D85_ok 6 rfl) pl4_40 (Nat.le_of_ble_eq_true rfl) ?_
  rw [← f_more_lt]
  refine cl_istore_n (dd D85_ok 7 rfl) (Nat.le_of_ble_eq_true rfl) ?_
  refine cl_iload_n (dd D85_ok 8 rfl) rfl ?_
  refine cl_iconst (v := 1) (dd D85_ok 9 rfl) (by decide) ?_
  refine cl_icmp_ne (tgt := 23) (dd D85_ok 10 rfl) (by decide) (fun c1 => ?_) (fun c1 => ?_)
  · refine cl_iload_n (dd D85_ok 15 rfl) rfl ?_
    refine cl_iconst (v := 2) (dd D85_ok 16 rfl) (by decide) ?_
    refine cl_icmp_ne (tgt := 32) (dd D85_ok 17 rfl) (by decide) (fun c2 => ?_) (fun c2 => ?_)
    · refine cl_iconst (v := 0) (dd D85_ok 20 rfl) (by decide) ?_
      exact cl_iret (dd D85_ok 21 rfl) rfl ((k.2.1 c1).1 c2)
    · refine cl_iload_n (dd D85_ok 18 rfl) rfl ?_
      refine cl_goto (tgt := 33) (dd D85_ok 19 rfl) (by decide) ?_
      exact cl_iret (dd D85_ok 21 rfl) rfl ((k.2.1 c1).2 c2)
  · refine cl_iload_n (dd D85_ok 11 rfl) rfl ?_
    refine cl_iconst (v := 2) (dd D85_ok 12 rfl) (by decide) ?_
    refine cl_idiv (dd D85_ok 13 rfl) (by decide) ?_
    exact cl_iret (dd D85_ok 14 rfl) rfl (k.2.2 c1)
theorem cc_g_space {xs : List Int32} {K : Nat → Prop} {d : Nat} {A : cl_A} {S : cl_S} {x0 x1 : Int32} (h0 : cl_f S x0) : ∀ Q', Q' (some (.int (g_space S x0 x1))) A S → cl_C xs K (d + 1) 85 [cl_rf A 4 x0, .int x1] A S Q' := by
  intro Q' hQ
  refine cl_intro (ms85 xs) (Nat.le_of_ble_eq_true rfl) (fun h0 => vc85_0 ?_)
  unfold g_space at hQ
  refine ⟨by first | assumption, ?_⟩
  refine ⟨fun c1 => ?_, fun c1 => ?_⟩
  · rw [if_pos c1] at hQ
    refine ⟨fun c2 => ?_, fun c2 => ?_⟩
    · rw [if_pos c2] at hQ
      exact hQ
    · rw [if_neg c2] at hQ
      exact hQ
  · rw [if_neg c1] at hQ
    exact hQ
/-- topOf -/
def g_top (S : cl_S) (x0 : Int32) : Int32 := (S.2.1 1 x0.toNatClampNeg) - (S.2.1 2200 (9 * x0.toNatClampNeg + 4))
set_option maxHeartbeats 1000000 in
theorem vc72_0 {xs : List Int32} {K : Nat → Prop} {h0 : am_H} {d : Nat} {Q : Option Value → cl_A → cl_S → Prop} {A : cl_A} {S : cl_S} {x0 : Int32}
    (k : (cl_n S x0) ∧ (Q (some (.int ((S.2.1 1 x0.toNatClampNeg) - (S.2.1 2200 (9 * x0.toNatClampNeg + 4))))) A S)) :
    cl_wp xs K h0 d Q I72 0 [some (cl_rf A 5 x0)] [] A S := by
  refine cl_aload_n (dd D72_ok 0 rfl) rfl ?_
  refine cl_getO (g := 0) (dd D72_ok 1 rfl) pl1_57 (by decide) (by decide) (by decide) rfl k.1.l5 ?_
  refine cl_gI (g := 1) (e := S.2.1 1 x0.toNatClampNeg) (dd D72_ok 2 rfl) pl1_82 (by decide) (by decide) (by decide) rfl rfl k.1.l0 rfl ?_
  refine cl_aload_n (dd D72_ok 3 rfl) rfl ?_
  refine cl_getO (g := 22) (dd D72_ok 4 rfl) pl1_49 (by decide) (by decide) (by decide) rfl k.1.l5 ?_
  refine cl_iconst (v := 4) (dd D72_ok 5 rfl) (by decide) ?_
  refine cl_hs (q := 4) (e := S.2.1 2200 (9 * x0.toNatClampNeg + 4)) (dd D72_ok 6 rfl) k.1.l22 (md_vl (by decide)) (by decide) rfl ?_
  refine cl_isub (dd D72_ok 7 rfl) ?_
  exact cl_iret (dd D72_ok 8 rfl) rfl k.2
theorem cc_g_top {xs : List Int32} {K : Nat → Prop} {d : Nat} {A : cl_A} {S : cl_S} {x0 : Int32} (h0 : cl_n S x0) : ∀ Q', Q' (some (.int (g_top S x0))) A S → cl_C xs K (d + 1) 72 [cl_rf A 5 x0] A S Q' := by
  intro Q' hQ
  refine cl_intro (ms72 xs) (Nat.le_of_ble_eq_true rfl) (fun h0 => vc72_0 ?_)
  unfold g_top at hQ
  refine ⟨by first | assumption, ?_⟩
  exact hQ
/-- endOf -/
def g_end (S : cl_S) (x0 : Int32) : Int32 := ((S.2.1 1 x0.toNatClampNeg) + (S.2.1 3 x0.toNatClampNeg)) + (S.2.1 2200 (9 * x0.toNatClampNeg + 4))
set_option maxHeartbeats 1000000 in
theorem vc73_0 {xs : List Int32} {K : Nat → Prop} {h0 : am_H} {d : Nat} {Q : Option Value → cl_A → cl_S → Prop} {A : cl_A} {S : cl_S} {x0 : Int32}
    (k : (cl_n S x0) ∧ (Q (some (.int (((S.2.1 1 x0.toNatClampNeg) + (S.2.1 3 x0.toNatClampNeg)) + (S.2.1 2200 (9 * x0.toNatClampNeg + 4))))) A S)) :
    cl_wp xs K h0 d Q I73 0 [some (cl_rf A 5 x0)] [] A S := by
  refine cl_aload_n (dd D73_ok 0 rfl) rfl ?_
  refine cl_getO (g := 0) (dd D73_ok 1 rfl) pl1_57 (by decide) (by decide) (by decide) rfl k.1.l5 ?_
  refine cl_gI (g := 1) (e := S.2.1 1 x0.toNatClampNeg) (dd D73_ok 2 rfl) pl1_82 (by decide) (by decide) (by decide) rfl rfl k.1.l0 rfl ?_
  refine cl_aload_n (dd D73_ok 3 rfl) rfl ?_
  refine cl_getO (g := 0) (dd D73_ok 4 rfl) pl1_57 (by decide) (by decide) (by decide) rfl k.1.l5 ?_
  refine cl_gI (g := 3) (e := S.2.1 3 x0.toNatClampNeg) (dd D73_ok 5 rfl) pl1_85 (by decide) (by decide) (by decide) rfl rfl k.1.l0 rfl ?_
  refine cl_iadd (dd D73_ok 6 rfl) ?_
  refine cl_aload_n (dd D73_ok 7 rfl) rfl ?_
  refine cl_getO (g := 22) (dd D73_ok 8 rfl) pl1_49 (by decide) (by decide) (by decide) rfl k.1.l5 ?_
  refine cl_iconst (v := 4) (dd D73_ok 9 rfl) (by decide) ?_
  refine cl_hs (q := 4) (e := S.2.1 2200 (9 * x0.toNatClampNeg + 4)) (dd D73_ok 10 rfl) k.1.l22 (md_vl (by decide)) (by decide) rfl ?_
  refine cl_iadd (dd D73_ok 11 rfl) ?_
  exact cl_iret (dd D73_ok 12 rfl) rfl k.2
theorem cc_g_end {xs : List Int32} {K : Nat → Prop} {d : Nat} {A : cl_A} {S : cl_S} {x0 : Int32} (h0 : cl_n S x0) : ∀ Q', Q' (some (.int (g_end S x0))) A S → cl_C xs K (d + 1) 73 [cl_rf A 5 x0] A S Q' := by
  intro Q' hQ
  refine cl_intro (ms73 xs) (Nat.le_of_ble_eq_true rfl) (fun h0 => vc73_0 ?_)
  unfold g_end at hQ
  refine ⟨by first | assumption, ?_⟩
  exact hQ
/-- isAt -/
def g_at (S : cl_S) (x0 x1 : Int32) : Int32 := if x1 < (g_top S x0) then 0 else (if (g_end S x0) ≤ x1 then 0 else 1)
set_option maxHeartbeats 1000000 in
theorem vc71_0 {xs : List Int32} {K : Nat → Prop} {h0 : am_H} {d : Nat} {Q : Option Value → cl_A → cl_S → Prop} {A : cl_A} {S : cl_S} {x0 : Int32} {x1 : Int32}
    (k : (cl_n S x0) ∧ (((x1 < (g_top S x0)) → Q (some (.int 0)) A S) ∧ (¬ (x1 < (g_top S x0)) → (((g_end S x0) ≤ x1) → Q (some (.int 0)) A S) ∧ (¬ ((g_end S x0) ≤ x1) → Q (some (.int 1)) A S)))) :
    cl_wp xs K h0 (d + 1) Q I71 0 [some (cl_rf A 5 x0), some (.int x1)] [] A S := by
  refine cl_iload_n (dd D71_ok 0 rfl) rfl ?_
  refine cl_aload_n (dd D71_ok 1 rfl) rfl ?_
  refine cl_callsP (r := .int (g_top S x0)) (as := [cl_rf A 5 x0]) (rest := [.int x1]) (dd D71_ok 2 rfl) pl1_36 rfl (Nat.le_of_ble_eq_true rfl) (cc_g_top (S := S) k.1) rfl ?_
  refine cl_icmp_lt (tgt := 20) (dd D71_ok 3 rfl) (by decide) (fun c1 => ?_) (fun c1 => ?_)
  · refine cl_iconst (v := 0) (dd D71_ok 10 rfl) (by decide) ?_
    exact cl_iret (dd D71_ok 11 rfl) rfl (k.2.1 c1)
  · refine cl_iload_n (dd D71_ok 4 rfl) rfl ?_
    refine cl_aload_n (dd D71_ok 5 rfl) rfl ?_
    refine cl_callsP (r := .int (g_end S x0)) (as := [cl_rf A 5 x0]) (rest := [.int x1]) (dd D71_ok 6 rfl) pl1_46 rfl (Nat.le_of_ble_eq_true rfl) (cc_g_end (S := S) k.1) rfl ?_
    refine cl_icmp_ge (tgt := 20) (dd D71_ok 7 rfl) (by decide) (fun c2 => ?_) (fun c2 => ?_)
    · refine cl_iconst (v := 0) (dd D71_ok 10 rfl) (by decide) ?_
      exact cl_iret (dd D71_ok 11 rfl) rfl ((k.2.2 c1).1 c2)
    · refine cl_iconst (v := 1) (dd D71_ok 8 rfl) (by decide) ?_
      refine cl_goto (tgt := 21) (dd D71_ok 9 rfl) (by decide) ?_
      exact cl_iret (dd D71_ok 11 rfl) rfl ((k.2.2 c1).2 c2)
theorem cc_g_at {xs : List Int32} {K : Nat → Prop} {d : Nat} {A : cl_A} {S : cl_S} {x0 x1 : Int32} (h0 : cl_n S x0) : ∀ Q', Q' (some (.int (g_at S x0 x1))) A S → cl_C xs K (d + 2) 71 [cl_rf A 5 x0, .int x1] A S Q' := by
  intro Q' hQ
  refine cl_intro (ms71 xs) (Nat.le_of_ble_eq_true rfl) (fun h0 => vc71_0 ?_)
  unfold g_at at hQ
  refine ⟨by first | assumption, ?_⟩
  refine ⟨fun c1 => ?_, fun c1 => ?_⟩
  · rw [if_pos c1] at hQ
    exact hQ
  · rw [if_neg c1] at hQ
    refine ⟨fun c2 => ?_, fun c2 => ?_⟩
    · rw [if_pos c2] at hQ
      exact hQ
    · rw [if_neg c2] at hQ
      exact hQ
/-- isBlock -/
def g_isB (S : cl_S) (x0 : Int32) : Int32 := if ¬ (S.2.1 501 x0.toNatClampNeg) = 0 then 0 else (if ¬ (S.2.1 2200 (9 * x0.toNatClampNeg + 1)) = 0 then 0 else (if (S.2.1 2200 (9 * x0.toNatClampNeg + 0)) = 0 then 1 else (if ¬ (S.2.1 2200 (9 * x0.toNatClampNeg + 0)) = 2 then 0 else 1)))
set_option maxHeartbeats 1000000 in
theorem vc92_0 {xs : List Int32} {K : Nat → Prop} {h0 : am_H} {d : Nat} {Q : Option Value → cl_A → cl_S → Prop} {A : cl_A} {S : cl_S} {x0 : Int32}
    (k : (cl_n S x0) ∧ (((¬ (S.2.1 501 x0.toNatClampNeg) = 0) → Q (some (.int 0)) A S) ∧ (¬ (¬ (S.2.1 501 x0.toNatClampNeg) = 0) → ((¬ (S.2.1 2200 (9 * x0.toNatClampNeg + 1)) = 0) → Q (some (.int 0)) A S) ∧ (¬ (¬ (S.2.1 2200 (9 * x0.toNatClampNeg + 1)) = 0) → (((S.2.1 2200 (9 * x0.toNatClampNeg + 0)) = 0) → Q (some (.int 1)) A S) ∧ (¬ ((S.2.1 2200 (9 * x0.toNatClampNeg + 0)) = 0) → ((¬ (S.2.1 2200 (9 * x0.toNatClampNeg + 0)) = 2) → Q (some (.int 0)) A S) ∧ (¬ (¬ (S.2.1 2200 (9 * x0.toNatClampNeg + 0)) = 2) → Q (some (.int 1)) A S)))))) :
    cl_wp xs K h0 d Q I92 0 [some (cl_rf A 5 x0), none] [] A S := by
  refine cl_aload_n (dd D92_ok 0 rfl) rfl ?_
  refine cl_getO (g := 22) (dd D92_ok 1 rfl) pl11_15 (by decide) (by decide) (by decide) rfl k.1.l5 ?_
  refine cl_iconst (v := 0) (dd D92_ok 2 rfl) (by decide) ?_
  refine cl_hs (q := 0) (e := S.2.1 2200 (9 * x0.toNatClampNeg + 0)) (dd D92_ok 3 rfl) k.1.l22 (md_vl (by decide)) (by decide) rfl ?_
  refine cl_istore_n (dd D92_ok 4 rfl) (Nat.le_of_ble_eq_true rfl) ?_
  refine cl_aload_n (dd D92_ok 5 rfl) rfl ?_
  refine cl_gI (g := 501) (e := S.2.1 501 x0.toNatClampNeg) (dd D92_ok 6 rfl) pl11_45 (by decide) (by decide) (by decide) rfl rfl k.1.l5 rfl ?_
  refine cl_if_ne (tgt := 36) (dd D92_ok 7 rfl) (by decide) (fun c1 => ?_) (fun c1 => ?_)
  · refine cl_iconst (v := 0) (dd D92_ok 20 rfl) (by decide) ?_
    exact cl_iret (dd D92_ok 21 rfl) rfl (k.2.1 c1)
  · refine cl_aload_n (dd D92_ok 8 rfl) rfl ?_
    refine cl_getO (g := 22) (dd D92_ok 9 rfl) pl11_15 (by decide) (by decide) (by decide) rfl k.1.l5 ?_
    refine cl_iconst (v := 1) (dd D92_ok 10 rfl) (by decide) ?_
    refine cl_hs (q := 1) (e := S.2.1 2200 (9 * x0.toNatClampNeg + 1)) (dd D92_ok 11 rfl) k.1.l22 (md_vl (by decide)) (by decide) rfl ?_
    refine cl_if_ne (tgt := 36) (dd D92_ok 12 rfl) (by decide) (fun c2 => ?_) (fun c2 => ?_)
    · refine cl_iconst (v := 0) (dd D92_ok 20 rfl) (by decide) ?_
      exact cl_iret (dd D92_ok 21 rfl) rfl ((k.2.2 c1).1 c2)
    · refine cl_iload_n (dd D92_ok 13 rfl) rfl ?_
      refine cl_if_eq (tgt := 32) (dd D92_ok 14 rfl) (by decide) (fun c3 => ?_) (fun c3 => ?_)
      · refine cl_iconst (v := 1) (dd D92_ok 18 rfl) (by decide) ?_
        refine cl_goto (tgt := 37) (dd D92_ok 19 rfl) (by decide) ?_
        exact cl_iret (dd D92_ok 21 rfl) rfl (((k.2.2 c1).2 c2).1 c3)
      · refine cl_iload_n (dd D92_ok 15 rfl) rfl ?_
        refine cl_iconst (v := 2) (dd D92_ok 16 rfl) (by decide) ?_
        refine cl_icmp_ne (tgt := 36) (dd D92_ok 17 rfl) (by decide) (fun c4 => ?_) (fun c4 => ?_)
        · refine cl_iconst (v := 0) (dd D92_ok 20 rfl) (by decide) ?_
          exact cl_iret (dd D92_ok 21 rfl) rfl ((((k.2.2 c1).2 c2).2 c3).1 c4)
        · refine cl_iconst (v := 1) (dd D92_ok 18 rfl) (by decide) ?_
          refine cl_goto (tgt := 37) (dd D92_ok 19 rfl) (by decide) ?_
          exact cl_iret (dd D92_ok 21 rfl) rfl ((((k.2.2 c1).2 c2).2 c3).2 c4)
theorem cc_g_isB {xs : List Int32} {K : Nat → Prop} {d : Nat} {A : cl_A} {S : cl_S} {x0 : Int32} (h0 : cl_n S x0) : ∀ Q', Q' (some (.int (g_isB S x0))) A S → cl_C xs K (d + 1) 92 [cl_rf A 5 x0] A S Q' := by
  intro Q' hQ
  refine cl_intro (ms92 xs) (Nat.le_of_ble_eq_true rfl) (fun h0 => vc92_0 ?_)
  unfold g_isB at hQ
  refine ⟨by first | assumption, ?_⟩
  refine ⟨fun c1 => ?_, fun c1 => ?_⟩
  · rw [if_pos c1] at hQ
    exact hQ
  · rw [if_neg c1] at hQ
    refine ⟨fun c2 => ?_, fun c2 => ?_⟩
    · rw [if_pos c2] at hQ
      exact hQ
    · rw [if_neg c2] at hQ
      refine ⟨fun c3 => ?_, fun c3 => ?_⟩
      · rw [if_pos c3] at hQ
        exact hQ
      · rw [if_neg c3] at hQ
        refine ⟨fun c4 => ?_, fun c4 => ?_⟩
        · rw [if_pos c4] at hQ
          exact hQ
        · rw [if_neg c4] at hQ
          exact hQ
/-- roleWithin -/
def g_role (S : cl_S) (x0 x1 : Int32) : Int32 := if x1 = 3 then 3 else (if ¬ (S.2.1 2200 (9 * x0.toNatClampNeg + 0)) = 3 then (if (S.2.1 501 x0.toNatClampNeg) = 0 then (if ¬ x1 = 1 then (if ¬ (S.2.1 2200 (9 * x0.toNatClampNeg + 0)) = 1 then (S.2.1 2200 (9 * x0.toNatClampNeg + 0)) else (if x1 = 2 then 0 else (if (S.2.1 2200 (9 * x0.toNatClampNeg + 1)) = 0 then 1 else 0))) else 1) else (if ¬ x1 = 2 then 1 else (if (S.2.1 501 x0.toNatClampNeg) = 3 then 1 else 3))) else 3)
set_option maxHeartbeats 1000000 in
theorem vc50_0 {xs : List Int32} {K : Nat → Prop} {h0 : am_H} {d : Nat} {Q : Option Value → cl_A → cl_S → Prop} {A : cl_A} {S : cl_S} {x0 : Int32} {x1 : Int32}
    (k : (cl_n S x0) ∧ (((x1 = 3) → Q (some (.int 3)) A S) ∧ (¬ (x1 = 3) → ((¬ (S.2.1 2200 (9 * x0.toNatClampNeg + 0)) = 3) → (((S.2.1 501 x0.toNatClampNeg) = 0) → ((¬ x1 = 1) → ((¬ (S.2.1 2200 (9 * x0.toNatClampNeg + 0)) = 1) → Q (some (.int (S.2.1 2200 (9 * x0.toNatClampNeg + 0)))) A S) ∧ (¬ (¬ (S.2.1 2200 (9 * x0.toNatClampNeg + 0)) = 1) → ((x1 = 2) → Q (some (.int 0)) A S) ∧ (¬ (x1 = 2) → (((S.2.1 2200 (9 * x0.toNatClampNeg + 1)) = 0) → Q (some (.int 1)) A S) ∧ (¬ ((S.2.1 2200 (9 * x0.toNatClampNeg + 1)) = 0) → Q (some (.int 0)) A S)))) ∧ (¬ (¬ x1 = 1) → Q (some (.int 1)) A S)) ∧ (¬ ((S.2.1 501 x0.toNatClampNeg) = 0) → ((¬ x1 = 2) → Q (some (.int 1)) A S) ∧ (¬ (¬ x1 = 2) → (((S.2.1 501 x0.toNatClampNeg) = 3) → Q (some (.int 1)) A S) ∧ (¬ ((S.2.1 501 x0.toNatClampNeg) = 3) → Q (some (.int 3)) A S)))) ∧ (¬ (¬ (S.2.1 2200 (9 * x0.toNatClampNeg + 0)) = 3) → Q (some (.int 3)) A S)))) :
    cl_wp xs K h0 d Q I50 0 [some (cl_rf A 5 x0), some (.int x1), none] [] A S := by
  refine cl_aload_n (dd D50_ok 0 rfl) rfl ?_
  refine cl_getO (g := 22) (dd D50_ok 1 rfl) pl3_46 (by decide) (by decide) (by decide) rfl k.1.l5 ?_
  refine cl_iconst (v := 0) (dd D50_ok 2 rfl) (by decide) ?_
  refine cl_hs (q := 0) (e := S.2.1 2200 (9 * x0.toNatClampNeg + 0)) (dd D50_ok 3 rfl) k.1.l22 (md_vl (by decide)) (by decide) rfl ?_
  refine cl_istore_n (dd D50_ok 4 rfl) (Nat.le_of_ble_eq_true rfl) ?_
  refine cl_iload_n (dd D50_ok 5 rfl) rfl ?_
  refine cl_iconst (v := 3) (dd D50_ok 6 rfl) (by decide) ?_
  refine cl_icmp_eq (tgt := 17) (dd D50_ok 7 rfl) (by decide) (fun c1 => ?_) (fun c1 => ?_)
  · refine cl_iconst (v := 3) (dd D50_ok 11 rfl) (by decide) ?_
    exact cl_iret (dd D50_ok 12 rfl) rfl (k.2.1 c1)
  · refine cl_iload_n (dd D50_ok 8 rfl) rfl ?_
    refine cl_iconst (v := 3) (dd D50_ok 9 rfl) (by decide) ?_
    refine cl_icmp_ne (tgt := 19) (dd D50_ok 10 rfl) (by decide) (fun c2 => ?_) (fun c2 => ?_)
    · refine cl_aload_n (dd D50_ok 13 rfl) rfl ?_
      refine cl_gI (g := 501) (e := S.2.1 501 x0.toNatClampNeg) (dd D50_ok 14 rfl) pl3_70 (by decide) (by decide) (by decide) rfl rfl k.1.l5 rfl ?_
      refine cl_if_eq (tgt := 45) (dd D50_ok 15 rfl) (by decide) (fun c3 => ?_) (fun c3 => ?_)
      · refine cl_iload_n (dd D50_ok 27 rfl) rfl ?_
        refine cl_iconst (v := 1) (dd D50_ok 28 rfl) (by decide) ?_
        refine cl_icmp_ne (tgt := 52) (dd D50_ok 29 rfl) (by decide) (fun c4 => ?_) (fun c4 => ?_)
        · refine cl_iload_n (dd D50_ok 32 rfl) rfl ?_
          refine cl_iconst (v := 1) (dd D50_ok 33 rfl) (by decide) ?_
          refine cl_icmp_ne (tgt := 77) (dd D50_ok 34 rfl) (by decide) (fun c5 => ?_) (fun c5 => ?_)
          · refine cl_iload_n (dd D50_ok 47 rfl) rfl ?_
            exact cl_iret (dd D50_ok 48 rfl) rfl (((((k.2.2 c1).1 c2).1 c3).1 c4).1 c5)
          · refine cl_iload_n (dd D50_ok 35 rfl) rfl ?_
            refine cl_iconst (v := 2) (dd D50_ok 36 rfl) (by decide) ?_
            refine cl_icmp_eq (tgt := 71) (dd D50_ok 37 rfl) (by decide) (fun c6 => ?_) (fun c6 => ?_)
            · refine cl_iconst (v := 0) (dd D50_ok 43 rfl) (by decide) ?_
              refine cl_goto (tgt := 76) (dd D50_ok 44 rfl) (by decide) ?_
              exact cl_iret (dd D50_ok 46 rfl) rfl ((((((k.2.2 c1).1 c2).1 c3).1 c4).2 c5).1 c6)
            · refine cl_aload_n (dd D50_ok 38 rfl) rfl ?_
              refine cl_getO (g := 22) (dd D50_ok 39 rfl) pl3_46 (by decide) (by decide) (by decide) rfl k.1.l5 ?_
              refine cl_iconst (v := 1) (dd D50_ok 40 rfl) (by decide) ?_
              refine cl_hs (q := 1) (e := S.2.1 2200 (9 * x0.toNatClampNeg + 1)) (dd D50_ok 41 rfl) k.1.l22 (md_vl (by decide)) (by decide) rfl ?_
              refine cl_if_eq (tgt := 75) (dd D50_ok 42 rfl) (by decide) (fun c7 => ?_) (fun c7 => ?_)
              · refine cl_iconst (v := 1) (dd D50_ok 45 rfl) (by decide) ?_
                exact cl_iret (dd D50_ok 46 rfl) rfl (((((((k.2.2 c1).1 c2).1 c3).1 c4).2 c5).2 c6).1 c7)
              · refine cl_iconst (v := 0) (dd D50_ok 43 rfl) (by decide) ?_
                refine cl_goto (tgt := 76) (dd D50_ok 44 rfl) (by decide) ?_
                exact cl_iret (dd D50_ok 46 rfl) rfl (((((((k.2.2 c1).1 c2).1 c3).1 c4).2 c5).2 c6).2 c7)
        · refine cl_iconst (v := 1) (dd D50_ok 30 rfl) (by decide) ?_
          exact cl_iret (dd D50_ok 31 rfl) rfl ((((k.2.2 c1).1 c2).1 c3).2 c4)
      · refine cl_iload_n (dd D50_ok 16 rfl) rfl ?_
        refine cl_iconst (v := 2) (dd D50_ok 17 rfl) (by decide) ?_
        refine cl_icmp_ne (tgt := 43) (dd D50_ok 18 rfl) (by decide) (fun c8 => ?_) (fun c8 => ?_)
        · refine cl_iconst (v := 1) (dd D50_ok 25 rfl) (by decide) ?_
          exact cl_iret (dd D50_ok 26 rfl) rfl ((((k.2.2 c1).1 c2).2 c3).1 c8)
        · refine cl_aload_n (dd D50_ok 19 rfl) rfl ?_
          refine cl_gI (g := 501) (e := S.2.1 501 x0.toNatClampNeg) (dd D50_ok 20 rfl) pl3_70 (by decide) (by decide) (by decide) rfl rfl k.1.l5 rfl ?_
          refine cl_iconst (v := 3) (dd D50_ok 21 rfl) (by decide) ?_
          refine cl_icmp_eq (tgt := 43) (dd D50_ok 22 rfl) (by decide) (fun c9 => ?_) (fun c9 => ?_)
          · refine cl_iconst (v := 1) (dd D50_ok 25 rfl) (by decide) ?_
            exact cl_iret (dd D50_ok 26 rfl) rfl (((((k.2.2 c1).1 c2).2 c3).2 c8).1 c9)
          · refine cl_iconst (v := 3) (dd D50_ok 23 rfl) (by decide) ?_
            refine cl_goto (tgt := 44) (dd D50_ok 24 rfl) (by decide) ?_
            exact cl_iret (dd D50_ok 26 rfl) rfl (((((k.2.2 c1).1 c2).2 c3).2 c8).2 c9)
    · refine cl_iconst (v := 3) (dd D50_ok 11 rfl) (by decide) ?_
      exact cl_iret (dd D50_ok 12 rfl) rfl ((k.2.2 c1).2 c2)
theorem cc_g_role {xs : List Int32} {K : Nat → Prop} {d : Nat} {A : cl_A} {S : cl_S} {x0 x1 : Int32} (h0 : cl_n S x0) : ∀ Q', Q' (some (.int (g_role S x0 x1))) A S → cl_C xs K (d + 1) 50 [cl_rf A 5 x0, .int x1] A S Q' := by
  intro Q' hQ
  refine cl_intro (ms50 xs) (Nat.le_of_ble_eq_true rfl) (fun h0 => vc50_0 ?_)
  unfold g_role at hQ
  refine ⟨by first | assumption, ?_⟩
  refine ⟨fun c1 => ?_, fun c1 => ?_⟩
  · rw [if_pos c1] at hQ
    exact hQ
  · rw [if_neg c1] at hQ
    refine ⟨fun c2 => ?_, fun c2 => ?_⟩
    · rw [if_pos c2] at hQ
      refine ⟨fun c3 => ?_, fun c3 => ?_⟩
      · rw [if_pos c3] at hQ
        refine ⟨fun c4 => ?_, fun c4 => ?_⟩
        · rw [if_pos c4] at hQ
          refine ⟨fun c5 => ?_, fun c5 => ?_⟩
          · rw [if_pos c5] at hQ
            exact hQ
          · rw [if_neg c5] at hQ
            refine ⟨fun c6 => ?_, fun c6 => ?_⟩
            · rw [if_pos c6] at hQ
              exact hQ
            · rw [if_neg c6] at hQ
              refine ⟨fun c7 => ?_, fun c7 => ?_⟩
              · rw [if_pos c7] at hQ
                exact hQ
              · rw [if_neg c7] at hQ
                exact hQ
        · rw [if_neg c4] at hQ
          exact hQ
      · rw [if_neg c3] at hQ
        refine ⟨fun c8 => ?_, fun c8 => ?_⟩
        · rw [if_pos c8] at hQ
          exact hQ
        · rw [if_neg c8] at hQ
          refine ⟨fun c9 => ?_, fun c9 => ?_⟩
          · rw [if_pos c9] at hQ
            exact hQ
          · rw [if_neg c9] at hQ
            exact hQ
    · rw [if_neg c2] at hQ
      exact hQ
/-- contentHeight -/
def g_ch (S : cl_S) (x0 : Int32) : Int32 := (f_more ((S.2.1 204 x0.toNatClampNeg) + (S.2.1 205 x0.toNatClampNeg)) (S.2.1 105 x0.toNatClampNeg)) - (S.2.1 202 x0.toNatClampNeg)
set_option maxHeartbeats 1000000 in
theorem vc97_0 {xs : List Int32} {K : Nat → Prop} {h0 : am_H} {d : Nat} {Q : Option Value → cl_A → cl_S → Prop} {A : cl_A} {S : cl_S} {x0 : Int32}
    (k : (cl_f S x0) ∧ (Q (some (.int ((f_more ((S.2.1 204 x0.toNatClampNeg) + (S.2.1 205 x0.toNatClampNeg)) (S.2.1 105 x0.toNatClampNeg)) - (S.2.1 202 x0.toNatClampNeg)))) A S)) :
    cl_wp xs K h0 d Q I97 0 [some (cl_rf A 2 x0)] [] A S := by
  refine cl_aload_n (dd D97_ok 0 rfl) rfl ?_
  refine cl_gI (g := 204) (e := S.2.1 204 x0.toNatClampNeg) (dd D97_ok 1 rfl) pl2_64 (by decide) (by decide) (by decide) rfl rfl k.1.l2 rfl ?_
  refine cl_aload_n (dd D97_ok 2 rfl) rfl ?_
  refine cl_gI (g := 205) (e := S.2.1 205 x0.toNatClampNeg) (dd D97_ok 3 rfl) pl2_65 (by decide) (by decide) (by decide) rfl rfl k.1.l2 rfl ?_
  refine cl_iadd (dd D97_ok 4 rfl) ?_
  refine cl_aload_n (dd D97_ok 5 rfl) rfl ?_
  refine cl_getO (g := 1) (dd D97_ok 6 rfl) pl2_10 (by decide) (by decide) (by decide) rfl k.1.l2 ?_
  refine cl_gI (g := 105) (e := S.2.1 105 x0.toNatClampNeg) (dd D97_ok 7 rfl) pl2_88 (by decide) (by decide) (by decide) rfl rfl k.1.l1 rfl ?_
  refine cl_max (dd D97_ok 8 rfl) pl2_55 (Nat.le_of_ble_eq_true rfl) ?_
  rw [← f_more_lt]
  refine cl_aload_n (dd D97_ok 9 rfl) rfl ?_
  refine cl_gI (g := 202) (e := S.2.1 202 x0.toNatClampNeg) (dd D97_ok 10 rfl) pl2_49 (by decide) (by decide) (by decide) rfl rfl k.1.l2 rfl ?_
  refine cl_isub (dd D97_ok 11 rfl) ?_
  exact cl_iret (dd D97_ok 12 rfl) rfl k.2
theorem cc_g_ch {xs : List Int32} {K : Nat → Prop} {d : Nat} {A : cl_A} {S : cl_S} {x0 : Int32} (h0 : cl_f S x0) : ∀ Q', Q' (some (.int (g_ch S x0))) A S → cl_C xs K (d + 1) 97 [cl_rf A 2 x0] A S Q' := by
  intro Q' hQ
  refine cl_intro (ms97 xs) (Nat.le_of_ble_eq_true rfl) (fun h0 => vc97_0 ?_)
  unfold g_ch at hQ
  refine ⟨by first | assumption, ?_⟩
  exact hQ
set_option maxHeartbeats 1000000 in
theorem vc54_0 {xs : List Int32} {K : Nat → Prop} {h0 : am_H} {d : Nat} {Q : Option Value → cl_A → cl_S → Prop} {A : cl_A} {S : cl_S} {x0 : Int32} {x1 : Int32} {x2 : Int32} {x3 : Int32}
    (k : (cl_f S x0) ∧ (Q none A (cl_up (cl_up (cl_up (cl_up (cl_up (cl_up S 100 x0.toNatClampNeg x1) 101 x0.toNatClampNeg x2) 102 x0.toNatClampNeg (-1)) 103 x0.toNatClampNeg (-1)) 104 x0.toNatClampNeg x3) 105 x0.toNatClampNeg x3))) :
    cl_wp xs K h0 d Q I54 0 [some (cl_rf A 1 x0), some (.int x1), some (.int x2), some (.int x3)] [] A S := by
  refine cl_aload_n (dd D54_ok 0 rfl) rfl ?_
  refine cl_iload_n (dd D54_ok 1 rfl) rfl ?_
  refine cl_pI (g := 100) (dd D54_ok 2 rfl) pl1_9 (by decide) (by decide) rfl rfl rfl rfl rfl k.1.l1 ?_
  refine cl_aload_n (dd D54_ok 3 rfl) rfl ?_
  refine cl_iload_n (dd D54_ok 4 rfl) rfl ?_
  refine cl_pI (g := 101) (dd D54_ok 5 rfl) pl1_15 (by decide) (by decide) rfl rfl rfl rfl rfl k.1.l1 ?_
  refine cl_aload_n (dd D54_ok 6 rfl) rfl ?_
  refine cl_null (g := 5) (dd D54_ok 7 rfl) ?_
  refine cl_pR (g := 102) (f := 5) (dd D54_ok 8 rfl) pl1_18 (by decide) (by decide) rfl rfl rfl ⟨_, rfl⟩ rfl k.1.l1 ?_
  refine cl_aload_n (dd D54_ok 9 rfl) rfl ?_
  refine cl_null (g := 5) (dd D54_ok 10 rfl) ?_
  refine cl_pR (g := 103) (f := 5) (dd D54_ok 11 rfl) pl1_22 (by decide) (by decide) rfl rfl rfl ⟨_, rfl⟩ rfl k.1.l1 ?_
  refine cl_aload_n (dd D54_ok 12 rfl) rfl ?_
  refine cl_iload_n (dd D54_ok 13 rfl) rfl ?_
  refine cl_pI (g := 104) (dd D54_ok 14 rfl) pl1_25 (by decide) (by decide) rfl rfl rfl rfl rfl k.1.l1 ?_
  refine cl_aload_n (dd D54_ok 15 rfl) rfl ?_
  refine cl_iload_n (dd D54_ok 16 rfl) rfl ?_
  refine cl_pI (g := 105) (dd D54_ok 17 rfl) pl1_28 (by decide) (by decide) rfl rfl rfl rfl rfl k.1.l1 ?_
  exact cl_vret (dd D54_ok 18 rfl) rfl k.2
theorem cc_fbegin {xs : List Int32} {K : Nat → Prop} {d : Nat} {A : cl_A} {S : cl_S} {x0 x1 x2 x3 : Int32} (h0 : cl_f S x0) : ∀ Q', Q' none A (cl_up (cl_up (cl_up (cl_up (cl_up (cl_up S 100 x0.toNatClampNeg x1) 101 x0.toNatClampNeg x2) 102 x0.toNatClampNeg (-1)) 103 x0.toNatClampNeg (-1)) 104 x0.toNatClampNeg x3) 105 x0.toNatClampNeg x3) → cl_C xs K (d + 1) 54 [cl_rf A 1 x0, .int x1, .int x2, .int x3] A S Q' := by
  intro Q' hQ
  refine cl_intro (ms54 xs) (Nat.le_of_ble_eq_true rfl) (fun h0 => vc54_0 ?_)
  refine ⟨by first | assumption, ?_⟩
  exact hQ
set_option maxHeartbeats 1000000 in
theorem vc55_0 {xs : List Int32} {K : Nat → Prop} {h0 : am_H} {d : Nat} {Q : Option Value → cl_A → cl_S → Prop} {A : cl_A} {S : cl_S} {x0 : Int32}
    (k : (cl_f S x0) ∧ (Q none A (cl_up (cl_up (cl_up S 400 x0.toNatClampNeg (-1)) 401 x0.toNatClampNeg (-1)) 404 x0.toNatClampNeg 0))) :
    cl_wp xs K h0 d Q I55 0 [some (cl_rf A 4 x0)] [] A S := by
  refine cl_aload_n (dd D55_ok 0 rfl) rfl ?_
  refine cl_null (g := 0) (dd D55_ok 1 rfl) ?_
  refine cl_pR (g := 400) (f := 0) (dd D55_ok 2 rfl) pl4_9 (by decide) (by decide) rfl rfl rfl ⟨_, rfl⟩ rfl k.1.l4 ?_
  refine cl_aload_n (dd D55_ok 3 rfl) rfl ?_
  refine cl_null (g := 0) (dd D55_ok 4 rfl) ?_
  refine cl_pR (g := 401) (f := 0) (dd D55_ok 5 rfl) pl4_15 (by decide) (by decide) rfl rfl rfl ⟨_, rfl⟩ rfl k.1.l4 ?_
  refine cl_aload_n (dd D55_ok 6 rfl) rfl ?_
  refine cl_iconst (v := 0) (dd D55_ok 7 rfl) (by decide) ?_
  refine cl_pI (g := 404) (dd D55_ok 8 rfl) pl4_18 (by decide) (by decide) rfl rfl rfl rfl rfl k.1.l4 ?_
  exact cl_vret (dd D55_ok 9 rfl) rfl k.2
theorem cc_drop {xs : List Int32} {K : Nat → Prop} {d : Nat} {A : cl_A} {S : cl_S} {x0 : Int32} (h0 : cl_f S x0) : ∀ Q', Q' none A (cl_up (cl_up (cl_up S 400 x0.toNatClampNeg (-1)) 401 x0.toNatClampNeg (-1)) 404 x0.toNatClampNeg 0) → cl_C xs K (d + 1) 55 [cl_rf A 4 x0] A S Q' := by
  intro Q' hQ
  refine cl_intro (ms55 xs) (Nat.le_of_ble_eq_true rfl) (fun h0 => vc55_0 ?_)
  refine ⟨by first | assumption, ?_⟩
  exact hQ
set_option maxHeartbeats 1000000 in
theorem vc66_0 {xs : List Int32} {K : Nat → Prop} {h0 : am_H} {d : Nat} {Q : Option Value → cl_A → cl_S → Prop} {A : cl_A} {S : cl_S} {x0 : Int32}
    (k : (cl_f S x0) ∧ (Q none A (cl_up (cl_up S 204 x0.toNatClampNeg ((S.2.1 204 x0.toNatClampNeg) + (S.2.1 205 x0.toNatClampNeg))) 205 x0.toNatClampNeg 0))) :
    cl_wp xs K h0 d Q I66 0 [some (cl_rf A 2 x0)] [] A S := by
  refine cl_aload_n (dd D66_ok 0 rfl) rfl ?_
  refine cl_dup (dd D66_ok 1 rfl) ?_
  refine cl_gI (g := 204) (e := S.2.1 204 x0.toNatClampNeg) (dd D66_ok 2 rfl) pl2_64 (by decide) (by decide) (by decide) rfl rfl k.1.l2 rfl ?_
  refine cl_aload_n (dd D66_ok 3 rfl) rfl ?_
  refine cl_gI (g := 205) (e := S.2.1 205 x0.toNatClampNeg) (dd D66_ok 4 rfl) pl2_65 (by decide) (by decide) (by decide) rfl rfl k.1.l2 rfl ?_
  refine cl_iadd (dd D66_ok 5 rfl) ?_
  refine cl_pI (g := 204) (dd D66_ok 6 rfl) pl2_64 (by decide) (by decide) rfl rfl rfl rfl rfl k.1.l2 ?_
  refine cl_aload_n (dd D66_ok 7 rfl) rfl ?_
  refine cl_iconst (v := 0) (dd D66_ok 8 rfl) (by decide) ?_
  refine cl_pI (g := 205) (dd D66_ok 9 rfl) pl2_65 (by decide) (by decide) rfl rfl rfl rfl rfl k.1.l2 ?_
  exact cl_vret (dd D66_ok 10 rfl) rfl k.2
theorem cc_beginLines {xs : List Int32} {K : Nat → Prop} {d : Nat} {A : cl_A} {S : cl_S} {x0 : Int32} (h0 : cl_f S x0) : ∀ Q', Q' none A (cl_up (cl_up S 204 x0.toNatClampNeg ((S.2.1 204 x0.toNatClampNeg) + (S.2.1 205 x0.toNatClampNeg))) 205 x0.toNatClampNeg 0) → cl_C xs K (d + 1) 66 [cl_rf A 2 x0] A S Q' := by
  intro Q' hQ
  refine cl_intro (ms66 xs) (Nat.le_of_ble_eq_true rfl) (fun h0 => vc66_0 ?_)
  refine ⟨by first | assumption, ?_⟩
  exact hQ
set_option maxHeartbeats 1000000 in
theorem vc87_0 {xs : List Int32} {K : Nat → Prop} {h0 : am_H} {d : Nat} {Q : Option Value → cl_A → cl_S → Prop} {A : cl_A} {S : cl_S} {x0 : Int32} {x1 : Int32} {x2 : Int32}
    (k : (cl_f S x0) ∧ (Q none A (cl_up (cl_up S 403 x0.toNatClampNeg x1) 402 x0.toNatClampNeg x2))) :
    cl_wp xs K h0 d Q I87 0 [some (cl_rf A 4 x0), some (.int x1), some (.int x2)] [] A S := by
  refine cl_aload_n (dd D87_ok 0 rfl) rfl ?_
  refine cl_iload_n (dd D87_ok 1 rfl) rfl ?_
  refine cl_pI (g := 403) (dd D87_ok 2 rfl) pl4_22 (by decide) (by decide) rfl rfl rfl rfl rfl k.1.l4 ?_
  refine cl_aload_n (dd D87_ok 3 rfl) rfl ?_
  refine cl_iload_n (dd D87_ok 4 rfl) rfl ?_
  refine cl_pI (g := 402) (dd D87_ok 5 rfl) pl4_25 (by decide) (by decide) rfl rfl rfl rfl rfl k.1.l4 ?_
  exact cl_vret (dd D87_ok 6 rfl) rfl k.2
theorem cc_open {xs : List Int32} {K : Nat → Prop} {d : Nat} {A : cl_A} {S : cl_S} {x0 x1 x2 : Int32} (h0 : cl_f S x0) : ∀ Q', Q' none A (cl_up (cl_up S 403 x0.toNatClampNeg x1) 402 x0.toNatClampNeg x2) → cl_C xs K (d + 1) 87 [cl_rf A 4 x0, .int x1, .int x2] A S Q' := by
  intro Q' hQ
  refine cl_intro (ms87 xs) (Nat.le_of_ble_eq_true rfl) (fun h0 => vc87_0 ?_)
  refine ⟨by first | assumption, ?_⟩
  exact hQ
set_option maxHeartbeats 1000000 in
theorem vc57_0 {xs : List Int32} {K : Nat → Prop} {h0 : am_H} {d : Nat} {Q : Option Value → cl_A → cl_S → Prop} {A : cl_A} {S : cl_S} {x1 : Int32} {x2 : Int32}
    (k : (cl_n S x1) ∧ (∀ s1 : Int32, s1 = (if ¬ (S.2.1 2200 (9 * x1.toNatClampNeg + 3)) = (-1) then (S.2.1 2200 (9 * x1.toNatClampNeg + 3)) else 8) → (Q none A (cl_up (cl_up (cl_up S 511 x1.toNatClampNeg 1) 2 x1.toNatClampNeg (g_told S x1 x2 8)) 3 x1.toNatClampNeg s1)))) :
    cl_wp xs K h0 (d + 1) Q I57 0 [some (cl_rf A 3 0), some (cl_rf A 5 x1), some (.int x2), none] [] A S := by
  refine cl_aload_n (dd D57_ok 0 rfl) rfl ?_
  refine cl_getO (g := 22) (dd D57_ok 1 rfl) pl3_46 (by decide) (by decide) (by decide) rfl k.1.l5 ?_
  refine cl_iconst (v := 3) (dd D57_ok 2 rfl) (by decide) ?_
  refine cl_hs (q := 3) (e := S.2.1 2200 (9 * x1.toNatClampNeg + 3)) (dd D57_ok 3 rfl) k.1.l22 (md_vl (by decide)) (by decide) rfl ?_
  refine cl_istore_n (dd D57_ok 4 rfl) (Nat.le_of_ble_eq_true rfl) ?_
  refine cl_aload_n (dd D57_ok 5 rfl) rfl ?_
  refine cl_iconst (v := 1) (dd D57_ok 6 rfl) (by decide) ?_
  refine cl_pI (g := 511) (dd D57_ok 7 rfl) pl3_63 (by decide) (by decide) rfl rfl rfl rfl rfl k.1.l5 ?_
  refine cl_aload_n (dd D57_ok 8 rfl) rfl ?_
  refine cl_getO (g := 0) (dd D57_ok 9 rfl) pl3_140 (by decide) (by decide) (by decide) rfl k.1.l5 ?_
  refine cl_aload_n (dd D57_ok 10 rfl) rfl ?_
  refine cl_iload_n (dd D57_ok 11 rfl) rfl ?_
  refine cl_bipush (v := 8) (dd D57_ok 12 rfl) (by decide) ?_
  refine cl_callP (r := .int (g_told S x1 x2 8)) (as := [.int x2, .int 8]) (rest := [cl_rf A 0 x1]) (v := x1) (dd D57_ok 13 rfl) pl3_291 rfl (Nat.le_of_ble_eq_true rfl) (ms58 xs) rfl (by decide) k.1.l5 (cc_g_told (S := cl_up S 511 x1.toNatClampNeg 1) k.1) rfl ?_
  refine cl_pI (g := 2) (dd D57_ok 14 rfl) pl3_132 (by decide) (by decide) rfl rfl rfl rfl rfl k.1.l0 ?_
  refine cl_aload_n (dd D57_ok 15 rfl) rfl ?_
  refine cl_getO (g := 0) (dd D57_ok 16 rfl) pl3_140 (by decide) (by decide) (by decide) rfl k.1.l5 ?_
  refine cl_iload_n (dd D57_ok 17 rfl) rfl ?_
  refine cl_iconst (v := (-1)) (dd D57_ok 18 rfl) (by decide) ?_
  have J1 : ∀ s1 : Int32, s1 = (if ¬ (S.2.1 2200 (9 * x1.toNatClampNeg + 3)) = (-1) then (S.2.1 2200 (9 * x1.toNatClampNeg + 3)) else 8) → cl_wp xs K h0 (d + 1) Q I57 41 [some (cl_rf A 3 0), some (cl_rf A 5 x1), some (.int x2), some (.int (S.2.1 2200 (9 * x1.toNatClampNeg + 3)))] [.int s1, cl_rf A 0 x1] A (cl_up (cl_up S 511 x1.toNatClampNeg 1) 2 x1.toNatClampNeg (g_told S x1 x2 8)) := by
    intro s1 e_s1
    refine cl_pI (g := 3) (dd D57_ok 23 rfl) pl3_137 (by decide) (by decide) rfl rfl rfl rfl rfl k.1.l0 ?_
    exact cl_vret (dd D57_ok 24 rfl) rfl (k.2 s1 e_s1)
  refine cl_icmp_ne (tgt := 40) (dd D57_ok 19 rfl) (by decide) (fun c2 => ?_) (fun c2 => ?_)
  · refine cl_iload_n (dd D57_ok 22 rfl) rfl ?_
    exact J1 _ (by first | rfl | rw [if_pos c2] | simp only [if_pos c2])
  · refine cl_bipush (v := 8) (dd D57_ok 20 rfl) (by decide) ?_
    refine cl_goto (tgt := 41) (dd D57_ok 21 rfl) (by decide) ?_
    exact J1 _ (by first | rfl | rw [if_neg c2] | simp only [if_neg c2])
theorem cc_piece {xs : List Int32} {K : Nat → Prop} {d : Nat} {A : cl_A} {S : cl_S} {x1 x2 : Int32} (h0 : cl_n S x1) : ∀ Q', Q' none A (cl_up (cl_up (cl_up S 511 x1.toNatClampNeg 1) 2 x1.toNatClampNeg (g_told S x1 x2 8)) 3 x1.toNatClampNeg (if ¬ (S.2.1 2200 (9 * x1.toNatClampNeg + 3)) = (-1) then (S.2.1 2200 (9 * x1.toNatClampNeg + 3)) else 8)) → cl_C xs K (d + 2) 57 [cl_rf A 3 0, cl_rf A 5 x1, .int x2] A S Q' := by
  intro Q' hQ
  refine cl_intro (ms57 xs) (Nat.le_of_ble_eq_true rfl) (fun h0 => vc57_0 ?_)
  refine ⟨by first | assumption, ?_⟩
  intro s1 e_s1
  subst e_s1
  exact hQ
set_option maxHeartbeats 1000000 in
theorem vc16_0 {xs : List Int32} {K : Nat → Prop} {h0 : am_H} {d : Nat} {Q : Option Value → cl_A → cl_S → Prop} {A : cl_A} {S : cl_S} 
    (k : (cl_z S) ∧ (Q none A (cl_up S 301 0 0))) :
    cl_wp xs K h0 d Q I16 0 [some (cl_rf A 3 0)] [] A S := by
  refine cl_aload_n (dd D16_ok 0 rfl) rfl ?_
  refine cl_iconst (v := 0) (dd D16_ok 1 rfl) (by decide) ?_
  refine cl_pI (g := 301) (dd D16_ok 2 rfl) pl3_32 (by decide) (by decide) rfl rfl rfl rfl rfl k.1.l3 ?_
  exact cl_vret (dd D16_ok 3 rfl) rfl k.2
theorem cc_forget {xs : List Int32} {K : Nat → Prop} {d : Nat} {A : cl_A} {S : cl_S}  (h0 : cl_z S) : ∀ Q', Q' none A (cl_up S 301 0 0) → cl_C xs K (d + 1) 16 [cl_rf A 3 0] A S Q' := by
  intro Q' hQ
  refine cl_intro (ms16 xs) (Nat.le_of_ble_eq_true rfl) (fun h0 => vc16_0 ?_)
  refine ⟨by first | assumption, ?_⟩
  exact hQ
set_option maxHeartbeats 1000000 in
theorem vc52_0 {xs : List Int32} {K : Nat → Prop} {h0 : am_H} {d : Nat} {Q : Option Value → cl_A → cl_S → Prop} {A : cl_A} {S : cl_S} {x0 : Int32} {x1 : Int32}
    (k : (cl_f S x0) ∧ ((cl_n S x1) ∧ (Q none A (cl_up (cl_up (cl_up (cl_up (cl_up (cl_up (cl_up (cl_up (cl_up (cl_up (cl_up (cl_up (cl_up (cl_up (cl_up (cl_up (cl_up (cl_up S 200 x0.toNatClampNeg x1) 201 x0.toNatClampNeg ((S.2.1 0 x1.toNatClampNeg) + (g_frame S x1))) 202 x0.toNatClampNeg ((S.2.1 1 x1.toNatClampNeg) + (g_frame S x1))) 203 x0.toNatClampNeg (f_more 0 ((S.2.1 2 x1.toNatClampNeg) - (2 * (g_frame S x1))))) 204 x0.toNatClampNeg ((S.2.1 1 x1.toNatClampNeg) + (g_frame S x1))) 205 x0.toNatClampNeg 0) 206 x0.toNatClampNeg 0) 207 x0.toNatClampNeg (-1)) 208 x0.toNatClampNeg (-1)) 100 x0.toNatClampNeg ((S.2.1 0 x1.toNatClampNeg) + (g_frame S x1))) 101 x0.toNatClampNeg (((S.2.1 0 x1.toNatClampNeg) + (g_frame S x1)) + (f_more 0 ((S.2.1 2 x1.toNatClampNeg) - (2 * (g_frame S x1)))))) 102 x0.toNatClampNeg (-1)) 103 x0.toNatClampNeg (-1)) 104 x0.toNatClampNeg ((S.2.1 1 x1.toNatClampNeg) + (g_frame S x1))) 105 x0.toNatClampNeg ((S.2.1 1 x1.toNatClampNeg) + (g_frame S x1))) 400 x0.toNatClampNeg (-1)) 401 x0.toNatClampNeg (-1)) 404 x0.toNatClampNeg 0)))) :
    cl_wp xs K h0 (d + 1) Q I52 0 [some (cl_rf A 2 x0), some (cl_rf A 5 x1)] [] A S := by
  refine cl_aload_n (dd D52_ok 0 rfl) rfl ?_
  refine cl_aload_n (dd D52_ok 1 rfl) rfl ?_
  refine cl_pR (g := 200) (f := 5) (dd D52_ok 2 rfl) pl2_23 (by decide) (by decide) rfl rfl rfl ⟨_, rfl⟩ rfl k.1.l2 ?_
  refine cl_aload_n (dd D52_ok 3 rfl) rfl ?_
  refine cl_aload_n (dd D52_ok 4 rfl) rfl ?_
  refine cl_getO (g := 0) (dd D52_ok 5 rfl) pl2_27 (by decide) (by decide) (by decide) rfl k.2.1.l5 ?_
  refine cl_gI (g := 0) (e := S.2.1 0 x1.toNatClampNeg) (dd D52_ok 6 rfl) pl2_33 (by decide) (by decide) (by decide) rfl rfl k.2.1.l0 (by first | rfl | simp [cl_up]) ?_
  refine cl_aload_n (dd D52_ok 7 rfl) rfl ?_
  refine cl_callP (r := .int (g_frame S x1)) (as := []) (rest := [.int (S.2.1 0 x1.toNatClampNeg), cl_rf A 2 x0]) (v := x1) (dd D52_ok 8 rfl) pl2_39 rfl (Nat.le_of_ble_eq_true rfl) (ms53 xs) rfl (by decide) k.2.1.l5 (cc_g_frame (S := cl_up S 200 x0.toNatClampNeg x1) k.2.1) rfl ?_
  refine cl_iadd (dd D52_ok 9 rfl) ?_
  refine cl_pI (g := 201) (dd D52_ok 10 rfl) pl2_43 (by decide) (by decide) rfl rfl rfl rfl rfl k.1.l2 ?_
  refine cl_aload_n (dd D52_ok 11 rfl) rfl ?_
  refine cl_aload_n (dd D52_ok 12 rfl) rfl ?_
  refine cl_getO (g := 0) (dd D52_ok 13 rfl) pl2_27 (by decide) (by decide) (by decide) rfl k.2.1.l5 ?_
  refine cl_gI (g := 1) (e := S.2.1 1 x1.toNatClampNeg) (dd D52_ok 14 rfl) pl2_46 (by decide) (by decide) (by decide) rfl rfl k.2.1.l0 (by first | rfl | simp [cl_up]) ?_
  refine cl_aload_n (dd D52_ok 15 rfl) rfl ?_
  refine cl_callP (r := .int (g_frame S x1)) (as := []) (rest := [.int (S.2.1 1 x1.toNatClampNeg), cl_rf A 2 x0]) (v := x1) (dd D52_ok 16 rfl) pl2_39 rfl (Nat.le_of_ble_eq_true rfl) (ms53 xs) rfl (by decide) k.2.1.l5 (cc_g_frame (S := cl_up (cl_up S 200 x0.toNatClampNeg x1) 201 x0.toNatClampNeg ((S.2.1 0 x1.toNatClampNeg) + (g_frame S x1))) k.2.1) rfl ?_
  refine cl_iadd (dd D52_ok 17 rfl) ?_
  refine cl_pI (g := 202) (dd D52_ok 18 rfl) pl2_49 (by decide) (by decide) rfl rfl rfl rfl rfl k.1.l2 ?_
  refine cl_aload_n (dd D52_ok 19 rfl) rfl ?_
  refine cl_iconst (v := 0) (dd D52_ok 20 rfl) (by decide) ?_
  refine cl_aload_n (dd D52_ok 21 rfl) rfl ?_
  refine cl_getO (g := 0) (dd D52_ok 22 rfl) pl2_27 (by decide) (by decide) (by decide) rfl k.2.1.l5 ?_
  refine cl_gI (g := 2) (e := S.2.1 2 x1.toNatClampNeg) (dd D52_ok 23 rfl) pl2_52 (by decide) (by decide) (by decide) rfl rfl k.2.1.l0 (by first | rfl | simp [cl_up]) ?_
  refine cl_iconst (v := 2) (dd D52_ok 24 rfl) (by decide) ?_
  refine cl_aload_n (dd D52_ok 25 rfl) rfl ?_
  refine cl_callP (r := .int (g_frame S x1)) (as := []) (rest := [.int 2, .int (S.2.1 2 x1.toNatClampNeg), .int 0, cl_rf A 2 x0]) (v := x1) (dd D52_ok 26 rfl) pl2_39 rfl (Nat.le_of_ble_eq_true rfl) (ms53 xs) rfl (by decide) k.2.1.l5 (cc_g_frame (S := cl_up (cl_up (cl_up S 200 x0.toNatClampNeg x1) 201 x0.toNatClampNeg ((S.2.1 0 x1.toNatClampNeg) + (g_frame S x1))) 202 x0.toNatClampNeg ((S.2.1 1 x1.toNatClampNeg) + (g_frame S x1))) k.2.1) rfl ?_
  refine cl_imul (dd D52_ok 27 rfl) ?_
  refine cl_isub (dd D52_ok 28 rfl) ?_
  refine cl_max (dd D52_ok 29 rfl) pl2_55 (Nat.le_of_ble_eq_true rfl) ?_
  rw [← f_more_lt]
  refine cl_pI (g := 203) (dd D52_ok 30 rfl) pl2_61 (by decide) (by decide) rfl rfl rfl rfl rfl k.1.l2 ?_
  refine cl_aload_n (dd D52_ok 31 rfl) rfl ?_
  refine cl_aload_n (dd D52_ok 32 rfl) rfl ?_
  refine cl_gI (g := 202) (e := (S.2.1 1 x1.toNatClampNeg) + (g_frame S x1)) (dd D52_ok 33 rfl) pl2_49 (by decide) (by decide) (by decide) rfl rfl k.1.l2 (by first | rfl | simp [cl_up]) ?_
  refine cl_pI (g := 204) (dd D52_ok 34 rfl) pl2_64 (by decide) (by decide) rfl rfl rfl rfl rfl k.1.l2 ?_
  refine cl_aload_n (dd D52_ok 35 rfl) rfl ?_
  refine cl_iconst (v := 0) (dd D52_ok 36 rfl) (by decide) ?_
  refine cl_pI (g := 205) (dd D52_ok 37 rfl) pl2_65 (by decide) (by decide) rfl rfl rfl rfl rfl k.1.l2 ?_
  refine cl_aload_n (dd D52_ok 38 rfl) rfl ?_
  refine cl_iconst (v := 0) (dd D52_ok 39 rfl) (by decide) ?_
  refine cl_pI (g := 206) (dd D52_ok 40 rfl) pl2_68 (by decide) (by decide) rfl rfl rfl rfl rfl k.1.l2 ?_
  refine cl_aload_n (dd D52_ok 41 rfl) rfl ?_
  refine cl_null (g := 5) (dd D52_ok 42 rfl) ?_
  refine cl_pR (g := 207) (f := 5) (dd D52_ok 43 rfl) pl2_72 (by decide) (by decide) rfl rfl rfl ⟨_, rfl⟩ rfl k.1.l2 ?_
  refine cl_aload_n (dd D52_ok 44 rfl) rfl ?_
  refine cl_null (g := 5) (dd D52_ok 45 rfl) ?_
  refine cl_pR (g := 208) (f := 5) (dd D52_ok 46 rfl) pl2_75 (by decide) (by decide) rfl rfl rfl ⟨_, rfl⟩ rfl k.1.l2 ?_
  refine cl_aload_n (dd D52_ok 47 rfl) rfl ?_
  refine cl_getO (g := 1) (dd D52_ok 48 rfl) pl2_10 (by decide) (by decide) (by decide) rfl k.1.l2 ?_
  refine cl_aload_n (dd D52_ok 49 rfl) rfl ?_
  refine cl_gI (g := 201) (e := (S.2.1 0 x1.toNatClampNeg) + (g_frame S x1)) (dd D52_ok 50 rfl) pl2_43 (by decide) (by decide) (by decide) rfl rfl k.1.l2 (by first | rfl | simp [cl_up]) ?_
  refine cl_aload_n (dd D52_ok 51 rfl) rfl ?_
  refine cl_gI (g := 201) (e := (S.2.1 0 x1.toNatClampNeg) + (g_frame S x1)) (dd D52_ok 52 rfl) pl2_43 (by decide) (by decide) (by decide) rfl rfl k.1.l2 (by first | rfl | simp [cl_up]) ?_
  refine cl_aload_n (dd D52_ok 53 rfl) rfl ?_
  refine cl_gI (g := 203) (e := f_more 0 ((S.2.1 2 x1.toNatClampNeg) - (2 * (g_frame S x1)))) (dd D52_ok 54 rfl) pl2_61 (by decide) (by decide) (by decide) rfl rfl k.1.l2 (by first | rfl | simp [cl_up]) ?_
  refine cl_iadd (dd D52_ok 55 rfl) ?_
  refine cl_aload_n (dd D52_ok 56 rfl) rfl ?_
  refine cl_gI (g := 202) (e := (S.2.1 1 x1.toNatClampNeg) + (g_frame S x1)) (dd D52_ok 57 rfl) pl2_49 (by decide) (by decide) (by decide) rfl rfl k.1.l2 (by first | rfl | simp [cl_up]) ?_
  refine cl_callU (as := [.int ((S.2.1 0 x1.toNatClampNeg) + (g_frame S x1)), .int (((S.2.1 0 x1.toNatClampNeg) + (g_frame S x1)) + (f_more 0 ((S.2.1 2 x1.toNatClampNeg) - (2 * (g_frame S x1))))), .int ((S.2.1 1 x1.toNatClampNeg) + (g_frame S x1))]) (rest := []) (v := x0) (dd D52_ok 58 rfl) pl2_78 rfl (Nat.le_of_ble_eq_true rfl) (ms54 xs) rfl (by decide) k.1.l1 (cc_fbegin (S := cl_up (cl_up (cl_up (cl_up (cl_up (cl_up (cl_up (cl_up (cl_up S 200 x0.toNatClampNeg x1) 201 x0.toNatClampNeg ((S.2.1 0 x1.toNatClampNeg) + (g_frame S x1))) 202 x0.toNatClampNeg ((S.2.1 1 x1.toNatClampNeg) + (g_frame S x1))) 203 x0.toNatClampNeg (f_more 0 ((S.2.1 2 x1.toNatClampNeg) - (2 * (g_frame S x1))))) 204 x0.toNatClampNeg ((S.2.1 1 x1.toNatClampNeg) + (g_frame S x1))) 205 x0.toNatClampNeg 0) 206 x0.toNatClampNeg 0) 207 x0.toNatClampNeg (-1)) 208 x0.toNatClampNeg (-1)) k.1) rfl ?_
  refine cl_aload_n (dd D52_ok 59 rfl) rfl ?_
  refine cl_getO (g := 4) (dd D52_ok 60 rfl) pl2_19 (by decide) (by decide) (by decide) rfl k.1.l2 ?_
  refine cl_callU (as := []) (rest := []) (v := x0) (dd D52_ok 61 rfl) pl2_82 rfl (Nat.le_of_ble_eq_true rfl) (ms55 xs) rfl (by decide) k.1.l4 (cc_drop (S := cl_up (cl_up (cl_up (cl_up (cl_up (cl_up (cl_up (cl_up (cl_up (cl_up (cl_up (cl_up (cl_up (cl_up (cl_up S 200 x0.toNatClampNeg x1) 201 x0.toNatClampNeg ((S.2.1 0 x1.toNatClampNeg) + (g_frame S x1))) 202 x0.toNatClampNeg ((S.2.1 1 x1.toNatClampNeg) + (g_frame S x1))) 203 x0.toNatClampNeg (f_more 0 ((S.2.1 2 x1.toNatClampNeg) - (2 * (g_frame S x1))))) 204 x0.toNatClampNeg ((S.2.1 1 x1.toNatClampNeg) + (g_frame S x1))) 205 x0.toNatClampNeg 0) 206 x0.toNatClampNeg 0) 207 x0.toNatClampNeg (-1)) 208 x0.toNatClampNeg (-1)) 100 x0.toNatClampNeg ((S.2.1 0 x1.toNatClampNeg) + (g_frame S x1))) 101 x0.toNatClampNeg (((S.2.1 0 x1.toNatClampNeg) + (g_frame S x1)) + (f_more 0 ((S.2.1 2 x1.toNatClampNeg) - (2 * (g_frame S x1)))))) 102 x0.toNatClampNeg (-1)) 103 x0.toNatClampNeg (-1)) 104 x0.toNatClampNeg ((S.2.1 1 x1.toNatClampNeg) + (g_frame S x1))) 105 x0.toNatClampNeg ((S.2.1 1 x1.toNatClampNeg) + (g_frame S x1))) k.1) rfl ?_
  exact cl_vret (dd D52_ok 62 rfl) rfl k.2.2
theorem cc_begin {xs : List Int32} {K : Nat → Prop} {d : Nat} {A : cl_A} {S : cl_S} {x0 x1 : Int32} (h0 : cl_f S x0) (h1 : cl_n S x1) : ∀ Q', Q' none A (cl_up (cl_up (cl_up (cl_up (cl_up (cl_up (cl_up (cl_up (cl_up (cl_up (cl_up (cl_up (cl_up (cl_up (cl_up (cl_up (cl_up (cl_up S 200 x0.toNatClampNeg x1) 201 x0.toNatClampNeg ((S.2.1 0 x1.toNatClampNeg) + (g_frame S x1))) 202 x0.toNatClampNeg ((S.2.1 1 x1.toNatClampNeg) + (g_frame S x1))) 203 x0.toNatClampNeg (f_more 0 ((S.2.1 2 x1.toNatClampNeg) - (2 * (g_frame S x1))))) 204 x0.toNatClampNeg ((S.2.1 1 x1.toNatClampNeg) + (g_frame S x1))) 205 x0.toNatClampNeg 0) 206 x0.toNatClampNeg 0) 207 x0.toNatClampNeg (-1)) 208 x0.toNatClampNeg (-1)) 100 x0.toNatClampNeg ((S.2.1 0 x1.toNatClampNeg) + (g_frame S x1))) 101 x0.toNatClampNeg (((S.2.1 0 x1.toNatClampNeg) + (g_frame S x1)) + (f_more 0 ((S.2.1 2 x1.toNatClampNeg) - (2 * (g_frame S x1)))))) 102 x0.toNatClampNeg (-1)) 103 x0.toNatClampNeg (-1)) 104 x0.toNatClampNeg ((S.2.1 1 x1.toNatClampNeg) + (g_frame S x1))) 105 x0.toNatClampNeg ((S.2.1 1 x1.toNatClampNeg) + (g_frame S x1))) 400 x0.toNatClampNeg (-1)) 401 x0.toNatClampNeg (-1)) 404 x0.toNatClampNeg 0) → cl_C xs K (d + 2) 52 [cl_rf A 2 x0, cl_rf A 5 x1] A S Q' := by
  intro Q' hQ
  refine cl_intro (ms52 xs) (Nat.le_of_ble_eq_true rfl) (fun h0 => vc52_0 ?_)
  refine ⟨by first | assumption, ?_⟩
  refine ⟨by first | assumption, ?_⟩
  exact hQ
