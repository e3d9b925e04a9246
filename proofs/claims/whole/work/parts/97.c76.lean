/-! the reference: its constructor (by program and by hand: wip/whole/gen/c76.py) -/
def mdT : am_H := [.inr (.byte, List.replicate 400 (.int 0)), .inr (.int, List.replicate 60 (.int 0)), .inr (.int, List.replicate 60 (.int 0)), .inr (.int, List.replicate 60 (.int 0)), .inr (.int, List.replicate 60 (.int 0)), .inr (.int, List.replicate 60 (.int 0)), .inr (.int, List.replicate 60 (.int 0)), .inr (.int, List.replicate 540 (.int 0)), .inr (.byte, List.replicate 7200 (.int 0)), .inr (.int, List.replicate 60 (.int 0)), .inr (.int, List.replicate 60 (.int 0)), .inr (.boolean, List.replicate 60 (.int 0)), .inr (.int, List.replicate 60 (.int 0)), .inr (.int, List.replicate 60 (.int 0)), .inr (.int, List.replicate 60 (.int 0)), .inr (.int, List.replicate 60 (.int 0)), .inr (.int, List.replicate 60 (.int 0)), .inr (.int, List.replicate 60 (.int 0)), .inr (.int, List.replicate 60 (.int 0)), .inr (.int, List.replicate 60 (.int 0)), .inr (.boolean, List.replicate 60 (.int 0)), .inr (.int, List.replicate 60 (.int 0)), .inr (.int, List.replicate 60 (.int 0)), .inr (.int, List.replicate 60 (.int 0)), .inr (.int, List.replicate 60 (.int 0)), .inr (.int, List.replicate 60 (.int 0)), .inr (.int, List.replicate 3700 (.int 0)), .inr (.int, List.replicate 3700 (.int 0)), .inr (.int, List.replicate 3700 (.int 0)), .inr (.int, List.replicate 3700 (.int 0)), .inr (.int, List.replicate 3700 (.int 0)), .inr (.int, List.replicate 3700 (.int 0)), .inr (.int, List.replicate 3700 (.int 0)), .inr (.int, List.replicate 3700 (.int 0)), .inr (.int, List.replicate 3700 (.int 0)), .inr (.int, List.replicate 60 (.int 0)), .inr (.int, List.replicate 60 (.int 0)), .inr (.int, List.replicate 60 (.int 0)), .inr (.int, List.replicate 60 (.int 0)), .inr (.int, List.replicate 60 (.int 0)), .inr (.int, List.replicate 60 (.int 0))]
def rk (f : Nat) : Nat := match f with
  | 0 => 0
  | 3 => 1
  | 4 => 2
  | 5 => 3
  | 6 => 4
  | 7 => 5
  | 8 => 6
  | 9 => 7
  | 10 => 8
  | 11 => 9
  | 12 => 10
  | 13 => 11
  | 14 => 12
  | 15 => 13
  | 16 => 14
  | 17 => 15
  | 18 => 16
  | 19 => 17
  | 20 => 18
  | 21 => 19
  | 23 => 20
  | 24 => 21
  | 25 => 22
  | 26 => 23
  | 27 => 24
  | 28 => 25
  | 30 => 26
  | 31 => 27
  | 32 => 28
  | 33 => 29
  | 34 => 30
  | 35 => 31
  | 36 => 32
  | 44 => 33
  | 45 => 34
  | 47 => 35
  | 48 => 36
  | 49 => 37
  | 50 => 38
  | 51 => 39
  | 52 => 40
  | _ => 99
def MZ : md_S := (fun f => if f = 2 then 1 else 0, fun _ _ => 0)
def mdA (L : Nat) (f : Nat) : Nat := L + rk f
def mdB : am_E := .inl (9, [.null, .int 0, .int 0, .null, .null, .null, .null, .null, .null, .null, .null, .null, .null, .null, .null, .null, .null, .null, .null, .null, .null, .null, .int 0, .null, .null, .null, .null, .null, .null, .int 0, .null, .null, .null, .null, .null, .null, .null, .int 0, .int 0, .int 0, .int 0, .int 0, .int 0, .int 0, .null, .null, .int 0, .null, .null, .null, .null, .null, .null, .int 0, .int 0, .int 0])
def mdC (L : Nat) : am_E := .inl (9, (List.range 56).map (md_fv (mdA L) MZ))
def mdV (L j f : Nat) : Value := if rk f < j then .ref (L + rk f) else if (md_ar f).isSome = true then .null else if f = 2 ∧ 1 ≤ j then .int 1 else .int 0
def mdF (L j : Nat) : List Value := (List.range 56).map (mdV L j)
theorem md_ar_lt {f : Nat} (h : (md_ar f).isSome = true) : f < 56 := by
  rcases Nat.lt_or_ge f 56 with q | q
  · exact q
  · exfalso
    unfold md_ar at h
    split at h <;> first | omega | simp at h
theorem md_D0 {L a : Nat} (ha : a < L) : md_D a (mdA L) := by
  refine ⟨fun f g hf hg e => ?_, fun f hf e => ?_⟩
  · have : ∀ f ∈ List.range 56, ∀ g ∈ List.range 56, (md_ar f).isSome = true → (md_ar g).isSome = true → rk f = rk g → f = g := by decide
    refine this f (List.mem_range.mpr (md_ar_lt hf)) g (List.mem_range.mpr (md_ar_lt hg)) hf hg ?_
    unfold mdA at e
    omega
  · unfold mdA at e
    omega
theorem cells_0 (f n : Nat) : md_cells MZ f n = List.replicate n (.int 0) := rep_map (fun _ _ => rfl)
theorem md_R0 {H : am_H} {a : Nat} (ha : a < H.length) : md_R a (mdA H.length) MZ (XH H a (mdC H.length) mdT) := by
  refine ⟨XH_a ha, fun f ty n hf => ?_⟩
  unfold mdA
  rw [XH_t, cells_0]
  have : ∀ f ∈ List.range 56, ∀ ty n, md_ar f = some (ty, n) → mdT[rk f]? = some (.inr (ty, List.replicate n (.int 0))) := by
    intro f hfm ty n hf
    unfold md_ar at hf
    split at hf <;> first | (cases hf; rfl) | cases hf
  exact this f (List.mem_range.mpr (md_ar_lt (by rw [hf]; rfl))) ty n hf
theorem mdF_get {L j f : Nat} (hf : f < 56) : (mdF L j)[f]? = some (mdV L j f) := by
  unfold mdF
  rw [List.getElem?_map, List.getElem?_range hf]
  rfl
theorem mdF_set {L j f : Nat} (hf : f < 56) (hj : 1 ≤ j) (hj4 : j < 41) (hr : rk f = j) : (mdF L j).set f (.ref (L + j)) = mdF L (j + 1) := by
  have hj41 : j < 41 ∨ j = 99 := by
    have : ∀ f ∈ List.range 56, rk f < 41 ∨ rk f = 99 := by decide
    rw [← hr]
    exact this f (List.mem_range.mpr hf)
  apply List.ext_getElem?
  intro q
  by_cases c : q = f
  · subst c
    rw [List.getElem?_set_self (by simp [mdF]; exact hf), mdF_get hf]
    unfold mdV
    rw [if_pos (by omega), hr]
  · rw [List.getElem?_set_ne (Ne.symm c)]
    by_cases hq : q < 56
    · rw [mdF_get hq, mdF_get hq]
      have hne : rk q = j → False ∨ rk q = 99 := fun e => by
        have : ∀ f ∈ List.range 56, ∀ g ∈ List.range 56, rk f = rk g → f = g ∨ rk f = 99 := by decide
        rcases this q (List.mem_range.mpr hq) f (List.mem_range.mpr hf) (e.trans hr.symm) with z | z
        · exact absurd z c
        · exact Or.inr z
      unfold mdV
      by_cases cr : rk q < j
      · rw [if_pos cr, if_pos (by omega)]
      · rw [if_neg cr]
        by_cases cr2 : rk q < j + 1
        · exfalso
          have e : rk q = j := by omega
          rcases hne e with z | z
          · exact z
          · omega
        · rw [if_neg cr2]
          by_cases cs : (md_ar q).isSome = true
          · rw [if_pos cs, if_pos cs]
          · rw [if_neg cs, if_neg cs]
            by_cases c2 : q = 2
            · rw [if_pos ⟨c2, hj⟩, if_pos ⟨c2, by omega⟩]
            · rw [if_neg (fun z => c2 z.1), if_neg (fun z => c2 z.1)]
    · rw [List.getElem?_eq_none (by simp [mdF]; omega), List.getElem?_eq_none (by simp [mdF]; omega)]
theorem mdT_len {j : Nat} (hj : j ≤ 41) : (mdT.take j).length = j := by
  rw [List.length_take, show mdT.length = 41 from rfl]
  omega
theorem mdT_take {j : Nat} {e : am_E} (h : mdT[j]? = some e) : mdT.take j ++ [e] = mdT.take (j + 1) := by
  rw [List.take_succ, h]
  rfl
theorem cx_na {xs : List Int32} {d : Nat} {Q : Option Value → am_H → Prop} {I : am_I} {pc : Nat} {ls : List (Option Value)} {st : List Value} {H : am_H} {a : Nat} {c : am_E} {n : Int32} {N j : Nat} {at_ : _} {ty : FieldType} (hd : decode I.2.1 pc = .ok (.newarray at_, 2)) (hty : newarray.typeOf at_ = ty) (hty2 : ty = .int ∨ ty = .byte ∨ ty = .boolean) (hn : ¬ n < 0) (hN : n.toNatClampNeg = N) (hN2 : N ≤ 100000) (hj : j ≤ 41) (ht : mdT[j]? = some (.inr (ty, List.replicate N (.int 0)))) (k : am_wp (am_Bx xs) am_nm (am_T (am_Bx xs) am_nm d) Q I (pc + 2, ls, .ref (H.length + j) :: st, XH H a c (mdT.take (j + 1)))) : am_wp (am_Bx xs) am_nm (am_T (am_Bx xs) am_nm d) Q I (pc, ls, .int n :: st, XH H a c (mdT.take j)) :=
  cx_newarr hd hty hty2 hn (by rw [hN]; exact hN2) (mdT_len hj) (by rw [hN]; exact mdT_take ht) k
theorem mdF_0 (L : Nat) : mdB = .inl (9, mdF L 0) := rfl
theorem mdF_1 (L : Nat) : (((mdF L 0).set 0 (.ref (L + 0))).set 2 (.int 1)) = mdF L 1 := by
  apply List.ext_getElem?
  intro q
  by_cases hq : q < 56
  · have : ∀ q ∈ List.range 56, (((mdF L 0).set 0 (.ref (L + 0))).set 2 (.int 1))[q]? = (mdF L 1)[q]? := by
      intro q hq
      have hq := List.mem_range.mp hq
      match q, hq with
      | 0, _ => rfl
      | 1, _ => rfl
      | 2, _ => rfl
      | 3, _ => rfl
      | 4, _ => rfl
      | 5, _ => rfl
      | 6, _ => rfl
      | 7, _ => rfl
      | 8, _ => rfl
      | 9, _ => rfl
      | 10, _ => rfl
      | 11, _ => rfl
      | 12, _ => rfl
      | 13, _ => rfl
      | 14, _ => rfl
      | 15, _ => rfl
      | 16, _ => rfl
      | 17, _ => rfl
      | 18, _ => rfl
      | 19, _ => rfl
      | 20, _ => rfl
      | 21, _ => rfl
      | 22, _ => rfl
      | 23, _ => rfl
      | 24, _ => rfl
      | 25, _ => rfl
      | 26, _ => rfl
      | 27, _ => rfl
      | 28, _ => rfl
      | 29, _ => rfl
      | 30, _ => rfl
      | 31, _ => rfl
      | 32, _ => rfl
      | 33, _ => rfl
      | 34, _ => rfl
      | 35, _ => rfl
      | 36, _ => rfl
      | 37, _ => rfl
      | 38, _ => rfl
      | 39, _ => rfl
      | 40, _ => rfl
      | 41, _ => rfl
      | 42, _ => rfl
      | 43, _ => rfl
      | 44, _ => rfl
      | 45, _ => rfl
      | 46, _ => rfl
      | 47, _ => rfl
      | 48, _ => rfl
      | 49, _ => rfl
      | 50, _ => rfl
      | 51, _ => rfl
      | 52, _ => rfl
      | 53, _ => rfl
      | 54, _ => rfl
      | 55, _ => rfl
      | m + 56, h => omega
    exact this q (List.mem_range.mpr hq)
  · rw [List.getElem?_eq_none (by simp [mdF]; omega), List.getElem?_eq_none (by simp [mdF]; omega)]
theorem mdF_41 (L : Nat) : mdF L 41 = (List.range 56).map (md_fv (mdA L) MZ) := by
  unfold mdF
  apply List.map_congr_left
  intro q hq
  have hq := List.mem_range.mp hq
  match q, hq with
  | 0, _ => rfl
  | 1, _ => rfl
  | 2, _ => rfl
  | 3, _ => rfl
  | 4, _ => rfl
  | 5, _ => rfl
  | 6, _ => rfl
  | 7, _ => rfl
  | 8, _ => rfl
  | 9, _ => rfl
  | 10, _ => rfl
  | 11, _ => rfl
  | 12, _ => rfl
  | 13, _ => rfl
  | 14, _ => rfl
  | 15, _ => rfl
  | 16, _ => rfl
  | 17, _ => rfl
  | 18, _ => rfl
  | 19, _ => rfl
  | 20, _ => rfl
  | 21, _ => rfl
  | 22, _ => rfl
  | 23, _ => rfl
  | 24, _ => rfl
  | 25, _ => rfl
  | 26, _ => rfl
  | 27, _ => rfl
  | 28, _ => rfl
  | 29, _ => rfl
  | 30, _ => rfl
  | 31, _ => rfl
  | 32, _ => rfl
  | 33, _ => rfl
  | 34, _ => rfl
  | 35, _ => rfl
  | 36, _ => rfl
  | 37, _ => rfl
  | 38, _ => rfl
  | 39, _ => rfl
  | 40, _ => rfl
  | 41, _ => rfl
  | 42, _ => rfl
  | 43, _ => rfl
  | 44, _ => rfl
  | 45, _ => rfl
  | 46, _ => rfl
  | 47, _ => rfl
  | 48, _ => rfl
  | 49, _ => rfl
  | 50, _ => rfl
  | 51, _ => rfl
  | 52, _ => rfl
  | 53, _ => rfl
  | 54, _ => rfl
  | 55, _ => rfl
  | m + 56, h => omega
set_option maxHeartbeats 4000000 in
theorem r104 {xs : List Int32} {d a : Nat} {H : am_H} (h0 : H[a]? = some mdB) : ∀ Q : Option Value → am_H → Prop, (∀ h', md_R a (mdA H.length) (f_clear_M MZ) h' → md_Fr a (mdA H.length) (XH H a (mdC H.length) mdT) h' → Q none h') → am_T (am_Bx xs) am_nm (d + 5) 104 [.ref a] H Q := by
  intro Q hQ
  have ha : a < H.length := (List.getElem?_eq_some_iff.mp h0).1
  refine ax_intro (ms104 xs) (Nat.le_of_ble_eq_true rfl) ?_
  rw [← XH_0 h0, mdF_0 H.length, show ([] : am_H) = mdT.take 0 from rfl]
  refine ax_aload_n (dd D104_ok 0 rfl) rfl (Or.inr (Or.inl ⟨_, rfl⟩)) ?_
  refine ax_obj (dd D104_ok 1 rfl) pl9_1 (Nat.le_of_ble_eq_true rfl) ?_
  refine ax_aload_n (dd D104_ok 2 rfl) rfl (Or.inr (Or.inl ⟨_, rfl⟩)) ?_
  refine ax_sipush (v := 400) (dd D104_ok 3 rfl) (by decide) ?_
  refine cx_na (j := 0) (N := 400) (dd D104_ok 4 rfl) rfl (Or.inr (Or.inl rfl)) (by decide) (by decide) (by decide) (by decide) rfl ?_
  refine cx_put (fs := mdF H.length 0) (dd D104_ok 5 rfl) pl9_7 ha rfl rfl rfl rfl rfl (fun _ => ⟨rfl, rfl⟩) ?_
  refine ax_aload_n (dd D104_ok 6 rfl) rfl (Or.inr (Or.inl ⟨_, rfl⟩)) ?_
  refine ax_iconst (v := 1) (dd D104_ok 7 rfl) (by decide) ?_
  refine cx_put (fs := (mdF H.length 0).set 0 (.ref (H.length + 0))) (dd D104_ok 8 rfl) pl9_13 ha rfl (mdF_1 _) rfl rfl rfl (fun q => absurd q (by decide)) ?_
  refine ax_aload_n (dd D104_ok 9 rfl) rfl (Or.inr (Or.inl ⟨_, rfl⟩)) ?_
  refine ax_bipush (v := 60) (dd D104_ok 10 rfl) (by decide) ?_
  refine cx_na (j := 1) (N := 60) (dd D104_ok 11 rfl) rfl (Or.inl rfl) (by decide) (by decide) (by decide) (by decide) rfl ?_
  refine cx_put (fs := mdF H.length 1) (dd D104_ok 12 rfl) pl9_17 ha (mdF_get (by decide)) (mdF_set (by decide) (by decide) (by decide) rfl) rfl rfl rfl (fun _ => ⟨rfl, rfl⟩) ?_
  refine ax_aload_n (dd D104_ok 13 rfl) rfl (Or.inr (Or.inl ⟨_, rfl⟩)) ?_
  refine ax_bipush (v := 60) (dd D104_ok 14 rfl) (by decide) ?_
  refine cx_na (j := 2) (N := 60) (dd D104_ok 15 rfl) rfl (Or.inl rfl) (by decide) (by decide) (by decide) (by decide) rfl ?_
  refine cx_put (fs := mdF H.length 2) (dd D104_ok 16 rfl) pl9_21 ha (mdF_get (by decide)) (mdF_set (by decide) (by decide) (by decide) rfl) rfl rfl rfl (fun _ => ⟨rfl, rfl⟩) ?_
  refine ax_aload_n (dd D104_ok 17 rfl) rfl (Or.inr (Or.inl ⟨_, rfl⟩)) ?_
  refine ax_bipush (v := 60) (dd D104_ok 18 rfl) (by decide) ?_
  refine cx_na (j := 3) (N := 60) (dd D104_ok 19 rfl) rfl (Or.inl rfl) (by decide) (by decide) (by decide) (by decide) rfl ?_
  refine cx_put (fs := mdF H.length 3) (dd D104_ok 20 rfl) pl9_24 ha (mdF_get (by decide)) (mdF_set (by decide) (by decide) (by decide) rfl) rfl rfl rfl (fun _ => ⟨rfl, rfl⟩) ?_
  refine ax_aload_n (dd D104_ok 21 rfl) rfl (Or.inr (Or.inl ⟨_, rfl⟩)) ?_
  refine ax_bipush (v := 60) (dd D104_ok 22 rfl) (by decide) ?_
  refine cx_na (j := 4) (N := 60) (dd D104_ok 23 rfl) rfl (Or.inl rfl) (by decide) (by decide) (by decide) (by decide) rfl ?_
  refine cx_put (fs := mdF H.length 4) (dd D104_ok 24 rfl) pl9_27 ha (mdF_get (by decide)) (mdF_set (by decide) (by decide) (by decide) rfl) rfl rfl rfl (fun _ => ⟨rfl, rfl⟩) ?_
  refine ax_aload_n (dd D104_ok 25 rfl) rfl (Or.inr (Or.inl ⟨_, rfl⟩)) ?_
  refine ax_bipush (v := 60) (dd D104_ok 26 rfl) (by decide) ?_
  refine cx_na (j := 5) (N := 60) (dd D104_ok 27 rfl) rfl (Or.inl rfl) (by decide) (by decide) (by decide) (by decide) rfl ?_
  refine cx_put (fs := mdF H.length 5) (dd D104_ok 28 rfl) pl9_30 ha (mdF_get (by decide)) (mdF_set (by decide) (by decide) (by decide) rfl) rfl rfl rfl (fun _ => ⟨rfl, rfl⟩) ?_
  refine ax_aload_n (dd D104_ok 29 rfl) rfl (Or.inr (Or.inl ⟨_, rfl⟩)) ?_
  refine ax_bipush (v := 60) (dd D104_ok 30 rfl) (by decide) ?_
  refine cx_na (j := 6) (N := 60) (dd D104_ok 31 rfl) rfl (Or.inl rfl) (by decide) (by decide) (by decide) (by decide) rfl ?_
  refine cx_put (fs := mdF H.length 6) (dd D104_ok 32 rfl) pl9_33 ha (mdF_get (by decide)) (mdF_set (by decide) (by decide) (by decide) rfl) rfl rfl rfl (fun _ => ⟨rfl, rfl⟩) ?_
  refine ax_aload_n (dd D104_ok 33 rfl) rfl (Or.inr (Or.inl ⟨_, rfl⟩)) ?_
  refine ax_sipush (v := 540) (dd D104_ok 34 rfl) (by decide) ?_
  refine cx_na (j := 7) (N := 540) (dd D104_ok 35 rfl) rfl (Or.inl rfl) (by decide) (by decide) (by decide) (by decide) rfl ?_
  refine cx_put (fs := mdF H.length 7) (dd D104_ok 36 rfl) pl9_36 ha (mdF_get (by decide)) (mdF_set (by decide) (by decide) (by decide) rfl) rfl rfl rfl (fun _ => ⟨rfl, rfl⟩) ?_
  refine ax_aload_n (dd D104_ok 37 rfl) rfl (Or.inr (Or.inl ⟨_, rfl⟩)) ?_
  refine ax_sipush (v := 7200) (dd D104_ok 38 rfl) (by decide) ?_
  refine cx_na (j := 8) (N := 7200) (dd D104_ok 39 rfl) rfl (Or.inr (Or.inl rfl)) (by decide) (by decide) (by decide) (by decide) rfl ?_
  refine cx_put (fs := mdF H.length 8) (dd D104_ok 40 rfl) pl9_39 ha (mdF_get (by decide)) (mdF_set (by decide) (by decide) (by decide) rfl) rfl rfl rfl (fun _ => ⟨rfl, rfl⟩) ?_
  refine ax_aload_n (dd D104_ok 41 rfl) rfl (Or.inr (Or.inl ⟨_, rfl⟩)) ?_
  refine ax_bipush (v := 60) (dd D104_ok 42 rfl) (by decide) ?_
  refine cx_na (j := 9) (N := 60) (dd D104_ok 43 rfl) rfl (Or.inl rfl) (by decide) (by decide) (by decide) (by decide) rfl ?_
  refine cx_put (fs := mdF H.length 9) (dd D104_ok 44 rfl) pl9_42 ha (mdF_get (by decide)) (mdF_set (by decide) (by decide) (by decide) rfl) rfl rfl rfl (fun _ => ⟨rfl, rfl⟩) ?_
  refine ax_aload_n (dd D104_ok 45 rfl) rfl (Or.inr (Or.inl ⟨_, rfl⟩)) ?_
  refine ax_bipush (v := 60) (dd D104_ok 46 rfl) (by decide) ?_
  refine cx_na (j := 10) (N := 60) (dd D104_ok 47 rfl) rfl (Or.inl rfl) (by decide) (by decide) (by decide) (by decide) rfl ?_
  refine cx_put (fs := mdF H.length 10) (dd D104_ok 48 rfl) pl9_45 ha (mdF_get (by decide)) (mdF_set (by decide) (by decide) (by decide) rfl) rfl rfl rfl (fun _ => ⟨rfl, rfl⟩) ?_
  refine ax_aload_n (dd D104_ok 49 rfl) rfl (Or.inr (Or.inl ⟨_, rfl⟩)) ?_
  refine ax_bipush (v := 60) (dd D104_ok 50 rfl) (by decide) ?_
  refine cx_na (j := 11) (N := 60) (dd D104_ok 51 rfl) rfl (Or.inr (Or.inr rfl)) (by decide) (by decide) (by decide) (by decide) rfl ?_
  refine cx_put (fs := mdF H.length 11) (dd D104_ok 52 rfl) pl9_48 ha (mdF_get (by decide)) (mdF_set (by decide) (by decide) (by decide) rfl) rfl rfl rfl (fun _ => ⟨rfl, rfl⟩) ?_
  refine ax_aload_n (dd D104_ok 53 rfl) rfl (Or.inr (Or.inl ⟨_, rfl⟩)) ?_
  refine ax_bipush (v := 60) (dd D104_ok 54 rfl) (by decide) ?_
  refine cx_na (j := 12) (N := 60) (dd D104_ok 55 rfl) rfl (Or.inl rfl) (by decide) (by decide) (by decide) (by decide) rfl ?_
  refine cx_put (fs := mdF H.length 12) (dd D104_ok 56 rfl) pl9_52 ha (mdF_get (by decide)) (mdF_set (by decide) (by decide) (by decide) rfl) rfl rfl rfl (fun _ => ⟨rfl, rfl⟩) ?_
  refine ax_aload_n (dd D104_ok 57 rfl) rfl (Or.inr (Or.inl ⟨_, rfl⟩)) ?_
  refine ax_bipush (v := 60) (dd D104_ok 58 rfl) (by decide) ?_
  refine cx_na (j := 13) (N := 60) (dd D104_ok 59 rfl) rfl (Or.inl rfl) (by decide) (by decide) (by decide) (by decide) rfl ?_
  refine cx_put (fs := mdF H.length 13) (dd D104_ok 60 rfl) pl9_55 ha (mdF_get (by decide)) (mdF_set (by decide) (by decide) (by decide) rfl) rfl rfl rfl (fun _ => ⟨rfl, rfl⟩) ?_
  refine ax_aload_n (dd D104_ok 61 rfl) rfl (Or.inr (Or.inl ⟨_, rfl⟩)) ?_
  refine ax_bipush (v := 60) (dd D104_ok 62 rfl) (by decide) ?_
  refine cx_na (j := 14) (N := 60) (dd D104_ok 63 rfl) rfl (Or.inl rfl) (by decide) (by decide) (by decide) (by decide) rfl ?_
  refine cx_put (fs := mdF H.length 14) (dd D104_ok 64 rfl) pl9_58 ha (mdF_get (by decide)) (mdF_set (by decide) (by decide) (by decide) rfl) rfl rfl rfl (fun _ => ⟨rfl, rfl⟩) ?_
  refine ax_aload_n (dd D104_ok 65 rfl) rfl (Or.inr (Or.inl ⟨_, rfl⟩)) ?_
  refine ax_bipush (v := 60) (dd D104_ok 66 rfl) (by decide) ?_
  refine cx_na (j := 15) (N := 60) (dd D104_ok 67 rfl) rfl (Or.inl rfl) (by decide) (by decide) (by decide) (by decide) rfl ?_
  refine cx_put (fs := mdF H.length 15) (dd D104_ok 68 rfl) pl9_61 ha (mdF_get (by decide)) (mdF_set (by decide) (by decide) (by decide) rfl) rfl rfl rfl (fun _ => ⟨rfl, rfl⟩) ?_
  refine ax_aload_n (dd D104_ok 69 rfl) rfl (Or.inr (Or.inl ⟨_, rfl⟩)) ?_
  refine ax_bipush (v := 60) (dd D104_ok 70 rfl) (by decide) ?_
  refine cx_na (j := 16) (N := 60) (dd D104_ok 71 rfl) rfl (Or.inl rfl) (by decide) (by decide) (by decide) (by decide) rfl ?_
  refine cx_put (fs := mdF H.length 16) (dd D104_ok 72 rfl) pl9_64 ha (mdF_get (by decide)) (mdF_set (by decide) (by decide) (by decide) rfl) rfl rfl rfl (fun _ => ⟨rfl, rfl⟩) ?_
  refine ax_aload_n (dd D104_ok 73 rfl) rfl (Or.inr (Or.inl ⟨_, rfl⟩)) ?_
  refine ax_bipush (v := 60) (dd D104_ok 74 rfl) (by decide) ?_
  refine cx_na (j := 17) (N := 60) (dd D104_ok 75 rfl) rfl (Or.inl rfl) (by decide) (by decide) (by decide) (by decide) rfl ?_
  refine cx_put (fs := mdF H.length 17) (dd D104_ok 76 rfl) pl9_67 ha (mdF_get (by decide)) (mdF_set (by decide) (by decide) (by decide) rfl) rfl rfl rfl (fun _ => ⟨rfl, rfl⟩) ?_
  refine ax_aload_n (dd D104_ok 77 rfl) rfl (Or.inr (Or.inl ⟨_, rfl⟩)) ?_
  refine ax_bipush (v := 60) (dd D104_ok 78 rfl) (by decide) ?_
  refine cx_na (j := 18) (N := 60) (dd D104_ok 79 rfl) rfl (Or.inl rfl) (by decide) (by decide) (by decide) (by decide) rfl ?_
  refine cx_put (fs := mdF H.length 18) (dd D104_ok 80 rfl) pl9_70 ha (mdF_get (by decide)) (mdF_set (by decide) (by decide) (by decide) rfl) rfl rfl rfl (fun _ => ⟨rfl, rfl⟩) ?_
  refine ax_aload_n (dd D104_ok 81 rfl) rfl (Or.inr (Or.inl ⟨_, rfl⟩)) ?_
  refine ax_bipush (v := 60) (dd D104_ok 82 rfl) (by decide) ?_
  refine cx_na (j := 19) (N := 60) (dd D104_ok 83 rfl) rfl (Or.inl rfl) (by decide) (by decide) (by decide) (by decide) rfl ?_
  refine cx_put (fs := mdF H.length 19) (dd D104_ok 84 rfl) pl9_73 ha (mdF_get (by decide)) (mdF_set (by decide) (by decide) (by decide) rfl) rfl rfl rfl (fun _ => ⟨rfl, rfl⟩) ?_
  refine ax_aload_n (dd D104_ok 85 rfl) rfl (Or.inr (Or.inl ⟨_, rfl⟩)) ?_
  refine ax_bipush (v := 60) (dd D104_ok 86 rfl) (by decide) ?_
  refine cx_na (j := 20) (N := 60) (dd D104_ok 87 rfl) rfl (Or.inr (Or.inr rfl)) (by decide) (by decide) (by decide) (by decide) rfl ?_
  refine cx_put (fs := mdF H.length 20) (dd D104_ok 88 rfl) pl9_76 ha (mdF_get (by decide)) (mdF_set (by decide) (by decide) (by decide) rfl) rfl rfl rfl (fun _ => ⟨rfl, rfl⟩) ?_
  refine ax_aload_n (dd D104_ok 89 rfl) rfl (Or.inr (Or.inl ⟨_, rfl⟩)) ?_
  refine ax_bipush (v := 60) (dd D104_ok 90 rfl) (by decide) ?_
  refine cx_na (j := 21) (N := 60) (dd D104_ok 91 rfl) rfl (Or.inl rfl) (by decide) (by decide) (by decide) (by decide) rfl ?_
  refine cx_put (fs := mdF H.length 21) (dd D104_ok 92 rfl) pl9_79 ha (mdF_get (by decide)) (mdF_set (by decide) (by decide) (by decide) rfl) rfl rfl rfl (fun _ => ⟨rfl, rfl⟩) ?_
  refine ax_aload_n (dd D104_ok 93 rfl) rfl (Or.inr (Or.inl ⟨_, rfl⟩)) ?_
  refine ax_bipush (v := 60) (dd D104_ok 94 rfl) (by decide) ?_
  refine cx_na (j := 22) (N := 60) (dd D104_ok 95 rfl) rfl (Or.inl rfl) (by decide) (by decide) (by decide) (by decide) rfl ?_
  refine cx_put (fs := mdF H.length 22) (dd D104_ok 96 rfl) pl9_82 ha (mdF_get (by decide)) (mdF_set (by decide) (by decide) (by decide) rfl) rfl rfl rfl (fun _ => ⟨rfl, rfl⟩) ?_
  refine ax_aload_n (dd D104_ok 97 rfl) rfl (Or.inr (Or.inl ⟨_, rfl⟩)) ?_
  refine ax_bipush (v := 60) (dd D104_ok 98 rfl) (by decide) ?_
  refine cx_na (j := 23) (N := 60) (dd D104_ok 99 rfl) rfl (Or.inl rfl) (by decide) (by decide) (by decide) (by decide) rfl ?_
  refine cx_put (fs := mdF H.length 23) (dd D104_ok 100 rfl) pl9_85 ha (mdF_get (by decide)) (mdF_set (by decide) (by decide) (by decide) rfl) rfl rfl rfl (fun _ => ⟨rfl, rfl⟩) ?_
  refine ax_aload_n (dd D104_ok 101 rfl) rfl (Or.inr (Or.inl ⟨_, rfl⟩)) ?_
  refine ax_bipush (v := 60) (dd D104_ok 102 rfl) (by decide) ?_
  refine cx_na (j := 24) (N := 60) (dd D104_ok 103 rfl) rfl (Or.inl rfl) (by decide) (by decide) (by decide) (by decide) rfl ?_
  refine cx_put (fs := mdF H.length 24) (dd D104_ok 104 rfl) pl9_88 ha (mdF_get (by decide)) (mdF_set (by decide) (by decide) (by decide) rfl) rfl rfl rfl (fun _ => ⟨rfl, rfl⟩) ?_
  refine ax_aload_n (dd D104_ok 105 rfl) rfl (Or.inr (Or.inl ⟨_, rfl⟩)) ?_
  refine ax_bipush (v := 60) (dd D104_ok 106 rfl) (by decide) ?_
  refine cx_na (j := 25) (N := 60) (dd D104_ok 107 rfl) rfl (Or.inl rfl) (by decide) (by decide) (by decide) (by decide) rfl ?_
  refine cx_put (fs := mdF H.length 25) (dd D104_ok 108 rfl) pl9_91 ha (mdF_get (by decide)) (mdF_set (by decide) (by decide) (by decide) rfl) rfl rfl rfl (fun _ => ⟨rfl, rfl⟩) ?_
  refine ax_aload_n (dd D104_ok 109 rfl) rfl (Or.inr (Or.inl ⟨_, rfl⟩)) ?_
  refine ax_sipush (v := 3700) (dd D104_ok 110 rfl) (by decide) ?_
  refine cx_na (j := 26) (N := 3700) (dd D104_ok 111 rfl) rfl (Or.inl rfl) (by decide) (by decide) (by decide) (by decide) rfl ?_
  refine cx_put (fs := mdF H.length 26) (dd D104_ok 112 rfl) pl9_94 ha (mdF_get (by decide)) (mdF_set (by decide) (by decide) (by decide) rfl) rfl rfl rfl (fun _ => ⟨rfl, rfl⟩) ?_
  refine ax_aload_n (dd D104_ok 113 rfl) rfl (Or.inr (Or.inl ⟨_, rfl⟩)) ?_
  refine ax_sipush (v := 3700) (dd D104_ok 114 rfl) (by decide) ?_
  refine cx_na (j := 27) (N := 3700) (dd D104_ok 115 rfl) rfl (Or.inl rfl) (by decide) (by decide) (by decide) (by decide) rfl ?_
  refine cx_put (fs := mdF H.length 27) (dd D104_ok 116 rfl) pl9_97 ha (mdF_get (by decide)) (mdF_set (by decide) (by decide) (by decide) rfl) rfl rfl rfl (fun _ => ⟨rfl, rfl⟩) ?_
  refine ax_aload_n (dd D104_ok 117 rfl) rfl (Or.inr (Or.inl ⟨_, rfl⟩)) ?_
  refine ax_sipush (v := 3700) (dd D104_ok 118 rfl) (by decide) ?_
  refine cx_na (j := 28) (N := 3700) (dd D104_ok 119 rfl) rfl (Or.inl rfl) (by decide) (by decide) (by decide) (by decide) rfl ?_
  refine cx_put (fs := mdF H.length 28) (dd D104_ok 120 rfl) pl9_100 ha (mdF_get (by decide)) (mdF_set (by decide) (by decide) (by decide) rfl) rfl rfl rfl (fun _ => ⟨rfl, rfl⟩) ?_
  refine ax_aload_n (dd D104_ok 121 rfl) rfl (Or.inr (Or.inl ⟨_, rfl⟩)) ?_
  refine ax_sipush (v := 3700) (dd D104_ok 122 rfl) (by decide) ?_
  refine cx_na (j := 29) (N := 3700) (dd D104_ok 123 rfl) rfl (Or.inl rfl) (by decide) (by decide) (by decide) (by decide) rfl ?_
  refine cx_put (fs := mdF H.length 29) (dd D104_ok 124 rfl) pl9_103 ha (mdF_get (by decide)) (mdF_set (by decide) (by decide) (by decide) rfl) rfl rfl rfl (fun _ => ⟨rfl, rfl⟩) ?_
  refine ax_aload_n (dd D104_ok 125 rfl) rfl (Or.inr (Or.inl ⟨_, rfl⟩)) ?_
  refine ax_sipush (v := 3700) (dd D104_ok 126 rfl) (by decide) ?_
  refine cx_na (j := 30) (N := 3700) (dd D104_ok 127 rfl) rfl (Or.inl rfl) (by decide) (by decide) (by decide) (by decide) rfl ?_
  refine cx_put (fs := mdF H.length 30) (dd D104_ok 128 rfl) pl9_106 ha (mdF_get (by decide)) (mdF_set (by decide) (by decide) (by decide) rfl) rfl rfl rfl (fun _ => ⟨rfl, rfl⟩) ?_
  refine ax_aload_n (dd D104_ok 129 rfl) rfl (Or.inr (Or.inl ⟨_, rfl⟩)) ?_
  refine ax_sipush (v := 3700) (dd D104_ok 130 rfl) (by decide) ?_
  refine cx_na (j := 31) (N := 3700) (dd D104_ok 131 rfl) rfl (Or.inl rfl) (by decide) (by decide) (by decide) (by decide) rfl ?_
  refine cx_put (fs := mdF H.length 31) (dd D104_ok 132 rfl) pl9_109 ha (mdF_get (by decide)) (mdF_set (by decide) (by decide) (by decide) rfl) rfl rfl rfl (fun _ => ⟨rfl, rfl⟩) ?_
  refine ax_aload_n (dd D104_ok 133 rfl) rfl (Or.inr (Or.inl ⟨_, rfl⟩)) ?_
  refine ax_sipush (v := 3700) (dd D104_ok 134 rfl) (by decide) ?_
  refine cx_na (j := 32) (N := 3700) (dd D104_ok 135 rfl) rfl (Or.inl rfl) (by decide) (by decide) (by decide) (by decide) rfl ?_
  refine cx_put (fs := mdF H.length 32) (dd D104_ok 136 rfl) pl9_112 ha (mdF_get (by decide)) (mdF_set (by decide) (by decide) (by decide) rfl) rfl rfl rfl (fun _ => ⟨rfl, rfl⟩) ?_
  refine ax_aload_n (dd D104_ok 137 rfl) rfl (Or.inr (Or.inl ⟨_, rfl⟩)) ?_
  refine ax_sipush (v := 3700) (dd D104_ok 138 rfl) (by decide) ?_
  refine cx_na (j := 33) (N := 3700) (dd D104_ok 139 rfl) rfl (Or.inl rfl) (by decide) (by decide) (by decide) (by decide) rfl ?_
  refine cx_put (fs := mdF H.length 33) (dd D104_ok 140 rfl) pl9_115 ha (mdF_get (by decide)) (mdF_set (by decide) (by decide) (by decide) rfl) rfl rfl rfl (fun _ => ⟨rfl, rfl⟩) ?_
  refine ax_aload_n (dd D104_ok 141 rfl) rfl (Or.inr (Or.inl ⟨_, rfl⟩)) ?_
  refine ax_sipush (v := 3700) (dd D104_ok 142 rfl) (by decide) ?_
  refine cx_na (j := 34) (N := 3700) (dd D104_ok 143 rfl) rfl (Or.inl rfl) (by decide) (by decide) (by decide) (by decide) rfl ?_
  refine cx_put (fs := mdF H.length 34) (dd D104_ok 144 rfl) pl9_118 ha (mdF_get (by decide)) (mdF_set (by decide) (by decide) (by decide) rfl) rfl rfl rfl (fun _ => ⟨rfl, rfl⟩) ?_
  refine ax_aload_n (dd D104_ok 145 rfl) rfl (Or.inr (Or.inl ⟨_, rfl⟩)) ?_
  refine ax_bipush (v := 60) (dd D104_ok 146 rfl) (by decide) ?_
  refine cx_na (j := 35) (N := 60) (dd D104_ok 147 rfl) rfl (Or.inl rfl) (by decide) (by decide) (by decide) (by decide) rfl ?_
  refine cx_put (fs := mdF H.length 35) (dd D104_ok 148 rfl) pl9_121 ha (mdF_get (by decide)) (mdF_set (by decide) (by decide) (by decide) rfl) rfl rfl rfl (fun _ => ⟨rfl, rfl⟩) ?_
  refine ax_aload_n (dd D104_ok 149 rfl) rfl (Or.inr (Or.inl ⟨_, rfl⟩)) ?_
  refine ax_bipush (v := 60) (dd D104_ok 150 rfl) (by decide) ?_
  refine cx_na (j := 36) (N := 60) (dd D104_ok 151 rfl) rfl (Or.inl rfl) (by decide) (by decide) (by decide) (by decide) rfl ?_
  refine cx_put (fs := mdF H.length 36) (dd D104_ok 152 rfl) pl9_124 ha (mdF_get (by decide)) (mdF_set (by decide) (by decide) (by decide) rfl) rfl rfl rfl (fun _ => ⟨rfl, rfl⟩) ?_
  refine ax_aload_n (dd D104_ok 153 rfl) rfl (Or.inr (Or.inl ⟨_, rfl⟩)) ?_
  refine ax_bipush (v := 60) (dd D104_ok 154 rfl) (by decide) ?_
  refine cx_na (j := 37) (N := 60) (dd D104_ok 155 rfl) rfl (Or.inl rfl) (by decide) (by decide) (by decide) (by decide) rfl ?_
  refine cx_put (fs := mdF H.length 37) (dd D104_ok 156 rfl) pl9_127 ha (mdF_get (by decide)) (mdF_set (by decide) (by decide) (by decide) rfl) rfl rfl rfl (fun _ => ⟨rfl, rfl⟩) ?_
  refine ax_aload_n (dd D104_ok 157 rfl) rfl (Or.inr (Or.inl ⟨_, rfl⟩)) ?_
  refine ax_bipush (v := 60) (dd D104_ok 158 rfl) (by decide) ?_
  refine cx_na (j := 38) (N := 60) (dd D104_ok 159 rfl) rfl (Or.inl rfl) (by decide) (by decide) (by decide) (by decide) rfl ?_
  refine cx_put (fs := mdF H.length 38) (dd D104_ok 160 rfl) pl9_130 ha (mdF_get (by decide)) (mdF_set (by decide) (by decide) (by decide) rfl) rfl rfl rfl (fun _ => ⟨rfl, rfl⟩) ?_
  refine ax_aload_n (dd D104_ok 161 rfl) rfl (Or.inr (Or.inl ⟨_, rfl⟩)) ?_
  refine ax_bipush (v := 60) (dd D104_ok 162 rfl) (by decide) ?_
  refine cx_na (j := 39) (N := 60) (dd D104_ok 163 rfl) rfl (Or.inl rfl) (by decide) (by decide) (by decide) (by decide) rfl ?_
  refine cx_put (fs := mdF H.length 39) (dd D104_ok 164 rfl) pl9_133 ha (mdF_get (by decide)) (mdF_set (by decide) (by decide) (by decide) rfl) rfl rfl rfl (fun _ => ⟨rfl, rfl⟩) ?_
  refine ax_aload_n (dd D104_ok 165 rfl) rfl (Or.inr (Or.inl ⟨_, rfl⟩)) ?_
  refine ax_bipush (v := 60) (dd D104_ok 166 rfl) (by decide) ?_
  refine cx_na (j := 40) (N := 60) (dd D104_ok 167 rfl) rfl (Or.inl rfl) (by decide) (by decide) (by decide) (by decide) rfl ?_
  refine cx_put (fs := mdF H.length 40) (dd D104_ok 168 rfl) pl9_136 ha (mdF_get (by decide)) (mdF_set (by decide) (by decide) (by decide) rfl) rfl rfl rfl (fun _ => ⟨rfl, rfl⟩) ?_
  rw [mdF_41, show mdT.take (40 + 1) = mdT from rfl]
  refine ax_aload_n (dd D104_ok 169 rfl) rfl (Or.inr (Or.inl ⟨_, rfl⟩)) ?_
  refine ax_callv (as := []) (rest := []) (b := a) (dd D104_ok 170 rfl) pl9_139 rfl (Nat.le_of_ble_eq_true rfl) rfl (ms105 xs) (XH_a ha) (am_T_mono ?_ (c_clear (xs := xs) (d := d) (md_D0 ha) (fun v M' => v = none ∧ M' = f_clear_M MZ) ⟨rfl, rfl⟩ _ (md_R0 ha)))
  rintro v h' ⟨M', k1, k2, rfl, rfl⟩
  exact ax_vret (dd D104_ok 171 rfl) rfl (hQ h' k1 k2)
