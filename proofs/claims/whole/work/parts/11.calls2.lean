/-! the instructions that call -/
section AMV
variable {l : Launch} {B : am_B} {nm : Nat → String} {my : Nat → MethodName} {cl : List vw_C} {Ts NW : List Cond} {D : va_G} {DA : FieldType → ClassId} {sa : Nat → Nat} {base : Nat}
variable {I : am_I} {h0 : am_H} {d : Nat} {Q : Option Value → am_H → Prop} {Z : Option Value → am_H → State → Array Value → List Frame → State → Prop} {pc : Nat} {ls : List (Option Value)} {rest : List Value} {h : am_H}
theorem am_rev {as rest : List Value} (h : ∀ v ∈ as.reverse ++ rest, v.category = 1) : (∀ v ∈ as, v.category = 1) ∧ ∀ v ∈ rest, v.category = 1 :=
  ⟨fun v hv => h v (List.mem_append_left _ (List.mem_reverse.mpr hv)), fun v hv => h v (List.mem_append_right _ hv)⟩
theorem am_roomW {m : MethodId} {lsm : Array Slot} {st : List Value} (h : ∀ v ∈ rest, v.category = 1) (hr : rest.length ≤ 8) : 2 * (F0 m pc lsm st).monitorRoom + ((rest.map (am_cv sa base)).map fun v => v.category).sum ≤ 8 := by
  show 2 * 0 + _ ≤ 8
  rw [am_sum1 rest h]
  omega
theorem am_i_virtual {idx mi n b : Nat} {as : List Value} {J : am_I} {fs : List Value} (hT : am_Tab B nm my cl Ts NW) (hS : am_Sim l B nm my cl Ts NW D DA sa base d) (hd : decode I.2.1 pc = .ok (.invokevirtual idx, 3)) (hb : B.1 I.1 idx = (4, mi, n)) (hn : as.length = n) (hrl : rest.length ≤ 8) (hJ : B.2.1 mi = some J) (hbb : h[b]? = some (.inl (J.1, fs)))
    (ht : am_T B nm d mi (.ref b :: as) h (fun v h' => am_P l B nm cl Ts NW D DA sa base I h0 (d + 1) Q Z (pc + 3, ls, v.toList ++ rest, h'))) : am_P l B nm cl Ts NW D DA sa base I h0 (d + 1) Q Z (pc, ls, as.reverse ++ .ref b :: rest, h) := by
  refine am_gocall hS (fun q => ⟨List.forall_mem_cons.mpr ⟨rfl, (am_rev q).1⟩, am_tl (am_rev q).2⟩) ht (fun v h' J' g1 g2 hJ' hM p e R s m args below meth c H locs lsm cells slots hst hll hC hf hlo hc1 hc2 hR => ?_)
  cases hJ.symm.trans hJ'
  obtain ⟨w1, w2, w3, w4⟩ := hT.2.2.2.1 _ _ _ _ hb
  obtain ⟨m1, m2, m3, m4, m5, m6, m7⟩ := hT.2.1 mi J hJ
  have hG : GoodIn Ts (wsV (nm I.1) idx (my mi).cls (my mi) (Cond.code (my mi) J.2.1 J.2.2.1 J.2.2.2.1 :: Ts)) := by
    intro w hw
    rcases List.mem_append.mp hw with hw | hw
    · have hin : w ∈ Ts := by
        simp only [List.mem_cons, List.not_mem_nil, or_false] at hw
        rcases hw with rfl | rfl | rfl | rfl
        · exact w1
        · exact w2
        · exact w3
        · exact m7
      exact ⟨hin, hT.2.2.2.2.2.2.2.2.2.2.2.2.1 _ hin⟩
    · exact am_good hT m1 w hw
  obtain ⟨r, hr, -, cell, c1, c2, c3, -⟩ := hR.2.1.2 b _ hbb
  have hfc := (hC.2.2.2.2.2.1.1.1 _ r hr).2.1
  rw [(hT.1 _ r hr).1, ← m2] at hfc
  refine ⟨_, va_runV (As := as.map (am_cv sa base)) (b := base + b) (nL := I.2.2.1) ⟨hC.1, hC.2.1, hC.2.2.1, hC.2.2.2.1, hC.2.2.2.2.1⟩ hM (cwV n hC.2.2.2.2.1 hG rfl rfl rfl ⟨rfl, m4.1, m4.2, w4⟩ ⟨hf, ?_⟩) ⟨am_Pc_blind hT, ⟨cell, c1, by rw [c3]; rfl, by rw [c2]; exact hfc⟩, fun U hU hW => ⟨rfl, by rw [hU]; exact hR.2.1, am_K_warm hT hC.2.2.2.2.2.1 hR.2.2.1 hU hW⟩⟩ rfl (by rw [List.length_map]; exact hn) (hR.1.1.trans hll) ?_ (am_roomW (am_tl (am_rev hst).2) hrl) hd ⟨hc1, hc2⟩⟩
  · show 8 + (J.2.2.1 + 11) + 64 * d ≤ _
    omega
  · show (as.reverse ++ .ref b :: rest).map (am_cv sa base) = _
    rw [List.map_append, List.map_reverse]
    rfl
theorem am_i_static {idx mi n : Nat} {as : List Value} (hT : am_Tab B nm my cl Ts NW) (hS : am_Sim l B nm my cl Ts NW D DA sa base d) (hd : decode I.2.1 pc = .ok (.invokestatic idx, 3)) (hb : B.1 I.1 idx = (5, mi, n)) (hn : as.length = n) (hrl : rest.length ≤ 8)
    (ht : am_T B nm d mi as h (fun v h' => am_P l B nm cl Ts NW D DA sa base I h0 (d + 1) Q Z (pc + 3, ls, v.toList ++ rest, h'))) : am_P l B nm cl Ts NW D DA sa base I h0 (d + 1) Q Z (pc, ls, as.reverse ++ rest, h) := by
  refine am_gocall hS (fun q => am_rev q) ht (fun v h' J g1 g2 hJ hM p e R s m args below meth c H locs lsm cells slots hst hll hC hf hlo hc1 hc2 hR => ?_)
  obtain ⟨w1, w2, w4⟩ := hT.2.2.2.2.1 _ _ _ _ hb
  obtain ⟨m1, m2, m3, m4, m5, m6, m7⟩ := hT.2.1 mi J hJ
  have hG : GoodIn Ts (va_wsS (nm I.1) idx (my mi) (Cond.code (my mi) J.2.1 J.2.2.1 J.2.2.2.1 :: Ts)) := by
    intro w hw
    rcases List.mem_append.mp hw with hw | hw
    · have hin : w ∈ Ts := by
        simp only [List.mem_cons, List.not_mem_nil, or_false] at hw
        rcases hw with rfl | rfl | rfl
        · exact w1
        · exact w2
        · exact m7
      exact ⟨hin, hT.2.2.2.2.2.2.2.2.2.2.2.2.1 _ hin⟩
    · exact am_good hT m1 w hw
  refine ⟨_, va_runS (As := as.map (am_cv sa base)) (nL := I.2.2.1) ⟨hC.1, hC.2.1, hC.2.2.1, hC.2.2.2.1, hC.2.2.2.2.1⟩ hM (va_cwS n hC.2.2.2.2.1 hG rfl rfl rfl ⟨m4.1, m4.2, w4⟩ ⟨hf, ?_⟩) ⟨am_Pc_blind hT, fun U hU hW => ⟨rfl, by rw [hU]; exact hR.2.1, am_K_warm hT hC.2.2.2.2.2.1 hR.2.2.1 hU hW⟩⟩ rfl (by rw [List.length_map]; exact hn) (hR.1.1.trans hll) ?_ (am_roomW (am_rev hst).2 hrl) hd ⟨hc1, hc2⟩⟩
  · show 8 + (J.2.2.1 + 11) + 64 * d ≤ _
    omega
  · show (as.reverse ++ rest).map (am_cv sa base) = _
    rw [List.map_append, List.map_reverse]
theorem am_i_special {idx t mi n b : Nat} {as : List Value} (hT : am_Tab B nm my cl Ts NW) (hS : am_Sim l B nm my cl Ts NW D DA sa base d) (hd : decode I.2.1 pc = .ok (.invokespecial idx, 3)) (hb : B.1 I.1 idx = (t, mi, n)) (htt : t = 6 ∨ t = 7) (hn : as.length = n) (hrl : rest.length ≤ 8)
    (ht : am_T B nm d mi (.ref b :: as) h (fun v h' => v = none ∧ am_P l B nm cl Ts NW D DA sa base I h0 (d + 1) Q Z (pc + 3, ls, rest, h'))) : am_P l B nm cl Ts NW D DA sa base I h0 (d + 1) Q Z (pc, ls, as.reverse ++ .ref b :: rest, h) := by
  refine am_gocall hS (fun q => ⟨List.forall_mem_cons.mpr ⟨rfl, (am_rev q).1⟩, am_tl (am_rev q).2⟩) (am_T_mono (fun v h' q => by obtain ⟨rfl, q⟩ := q; exact q) ht) (fun v h' J g1 g2 hJ hM p e R s m args below meth c H locs lsm cells slots hst hll hC hf hlo hc1 hc2 hR => ?_)
  obtain ⟨m1, m2, m3, m4, m5, m6, m7⟩ := hT.2.1 mi J hJ
  have hst' : (as.reverse ++ .ref b :: rest).map (am_cv sa base) = (as.map (am_cv sa base)).reverse ++ .ref (base + b) :: rest.map (am_cv sa base) := by
    rw [List.map_append, List.map_reverse]
    rfl
  have hPS : PreS s H (am_Pc B nm cl NW D DA sa base (.ref b :: as) h) (.ref (base + b) :: as.map (am_cv sa base)) := ⟨am_Pc_blind hT, fun U hU hW => ⟨rfl, by rw [hU]; exact hR.2.1, am_K_warm hT hC.2.2.2.2.2.1 hR.2.2.1 hU hW⟩⟩
  rcases htt with rfl | rfl
  · obtain ⟨w1, w2, w3, w4, w5⟩ := hT.2.2.2.2.2.1 _ _ _ _ hb
    unfold am_Met at hM
    rw [w5 J hJ] at hM m1
    refine ⟨_, va_runI (As := as.map (am_cv sa base)) (b := base + b) (nL := I.2.2.1) ⟨hC.1, hC.2.1, hC.2.2.1, hC.2.2.2.1, hC.2.2.2.2.1⟩ hM (cwI n hC.2.2.2.2.1 (am_good hT m1) rfl rfl rfl (hC.2.2.2.2.1 _ m7) (hC.2.2.2.2.1 _ w1) (hC.2.2.2.2.1 _ w2) w3 ⟨m4.1, m4.2, w4⟩ ⟨hf, ?_⟩) hPS rfl (by rw [List.length_map]; exact hn) (hR.1.1.trans hll) hst' (am_roomW (am_tl (am_rev hst).2) hrl) hd ⟨hc1, hc2⟩⟩
    show 8 + (J.2.2.1 + 11) + 64 * d ≤ _
    omega
  · obtain ⟨⟨host, w1⟩, w2, w3, w4, w5⟩ := hT.2.2.2.2.2.2.1 _ _ _ _ hb
    unfold am_Met at hM
    rw [w5 J hJ] at hM m1
    refine ⟨_, va_runIN (As := as.map (am_cv sa base)) (b := base + b) (nL := I.2.2.1) (host := host) ⟨hC.1, hC.2.1, hC.2.2.1, hC.2.2.2.1, hC.2.2.2.2.1⟩ hM ⟨va_cnB n hC.2.2.2.2.1 (am_good hT m1) rfl rfl rfl (hC.2.2.2.2.2.1.2.1 _ w1) (hC.2.2.2.2.1 _ m7) ⟨m4.1, m4.2, w4⟩ ⟨hf, ?_⟩, w3, hC.2.2.2.2.1 _ w2⟩ hPS rfl (by rw [List.length_map]; exact hn) (hR.1.1.trans hll) hst' (am_roomW (am_tl (am_rev hst).2) hrl) hd ⟨hc1, hc2⟩⟩
    show 8 + (J.2.2.1 + 11) + 64 * d ≤ _
    omega
end AMV
