/-! the class: prepare, layRoot (by program and by hand: wip/whole/gen/c73.py) -/
set_option maxHeartbeats 1000000 in
theorem vc29_0 {xs : List Int32} {K : Nat → Prop} {h0 : am_H} {d : Nat} {Q : Option Value → cl_A → cl_S → Prop} {A : cl_A} {S : cl_S} {x1 : Int32} {x2 : Int32}
    (k : (cl_z S) ∧ ((cl_n S x1) ∧ (cl_wp xs K h0 (d + 800) Q I29 13 [some (cl_rf A 3 0), some (cl_rf A 5 x1), some (.int x2)] [.int (S.2.1 2200 (9 * x1.toNatClampNeg + 0)), cl_rf A 5 x1, cl_rf A 3 0] A (cl_up S 301 0 0)))) :
    cl_wp xs K h0 (d + 800) Q I29 0 [some (cl_rf A 3 0), some (cl_rf A 5 x1), some (.int x2)] [] A S := by
  refine cl_aload_n (dd D29_ok 0 rfl) rfl ?_
  refine cl_iconst (v := 0) (dd D29_ok 1 rfl) (by decide) ?_
  refine cl_pI (g := 301) (dd D29_ok 2 rfl) pl3_32 (by decide) (by decide) rfl rfl rfl rfl rfl k.1.l3 ?_
  refine cl_aload_n (dd D29_ok 3 rfl) rfl ?_
  refine cl_aload_n (dd D29_ok 4 rfl) rfl ?_
  refine cl_aload_n (dd D29_ok 5 rfl) rfl ?_
  refine cl_getO (g := 22) (dd D29_ok 6 rfl) pl3_46 (by decide) (by decide) (by decide) rfl k.2.1.l5 ?_
  refine cl_iconst (v := 0) (dd D29_ok 7 rfl) (by decide) ?_
  refine cl_hs (q := 0) (e := S.2.1 2200 (9 * x1.toNatClampNeg + 0)) (dd D29_ok 8 rfl) k.2.1.l22 (md_vl (by decide)) (by decide) (by first | rfl | simp [cl_up]) ?_
  exact k.2.2
set_option maxHeartbeats 1000000 in
theorem vc29_16 {xs : List Int32} {K : Nat → Prop} {h0 : am_H} {d : Nat} {Q : Option Value → cl_A → cl_S → Prop} {A : cl_A} {S : cl_S} {x1 : Int32} {x2 : Int32}
    (k : (cl_z S) ∧ (cl_C xs K (d + 800) 51 [cl_rf A 3 0, cl_rf A 5 x1, .int 0, .int 0, .int x2] A S (fun v A' N1 => A' = A ∧ N1.1 = S.1 ∧ v = none ∧ (Q none A N1)))) :
    cl_wp xs K h0 (d + 800) Q I29 16 [some (cl_rf A 3 0), some (cl_rf A 5 x1), some (.int x2)] [] A S := by
  refine cl_aload_n (dd D29_ok 10 rfl) rfl ?_
  refine cl_aload_n (dd D29_ok 11 rfl) rfl ?_
  refine cl_iconst (v := 0) (dd D29_ok 12 rfl) (by decide) ?_
  refine cl_iconst (v := 0) (dd D29_ok 13 rfl) (by decide) ?_
  refine cl_iload_n (dd D29_ok 14 rfl) rfl ?_
  refine cl_call (as := [cl_rf A 5 x1, .int 0, .int 0, .int x2]) (rest := []) (v := 0) (dd D29_ok 15 rfl) pl3_56 rfl (Nat.le_of_ble_eq_true rfl) (ms51 xs) rfl (by decide) k.1.l3 ((k.2).mono ?_) rfl
  rintro v A N1 ⟨rfl, e1, rfl, w1⟩
  exact cl_vret (dd D29_ok 16 rfl) rfl w1
section PR2
variable {xs : List Int32} {Kp : Nat → Prop} {h0 : am_H} {d : Nat} {A : cl_A} {S S' : cl_S} {P : md_S} {nn W Wp B1 B2 i : Nat} {w : Int32}
theorem prep_t (hN : NS P nn) (hFL : FL P nn) (hB : B1 ≤ 100000) : ∀ t, prP xs Kp d P nn B1 B2 w t := by
  intro t
  induction t with
  | leaf u =>
    intro H hH q A S W Wp o4 Q h0 hq hq3 hR hnd hx hI hK hF hl k
    refine vc30_54 (d := d + H) ⟨fun _ => k A S Wp ?_ pY.rf (fun x => ⟨fun _ => ⟨rfl, rfl, rfl, rfl⟩, fun _ => rfl⟩) (fun x hx => by cases hx), fun c => absurd rfl c⟩
    rw [show W + l1_ws P (.leaf u) = W from rfl]
    exact hI
  | branch i k s ihk ihs =>
    intro H hH q A S W Wp o4 Q h0 hq hq3 hR hnd hx hI hK hF hl kk
    obtain ⟨r1, r2, r3, r4, r5, r6⟩ := hR
    obtain ⟨f1, f2, f3⟩ := hF
    rw [l1_ws_br] at hl kk
    have hht : bt_ht k + 1 ≤ H ∧ bt_ht s ≤ H := by
      have : max (bt_ht k + 1) (bt_ht s) ≤ H := hH
      omega
    simp only [bt_pre] at hnd hx kk
    rw [List.nodup_cons, List.nodup_append] at hnd
    obtain ⟨n1, n2, n3, n4⟩ := hnd
    simp only [List.mem_append, not_or] at n1
    have hi := (hx i (by simp)).1
    have hi0 := (hx i (by simp)).2
    have h60 := hI.1.1
    have ci : (nI i).toNatClampNeg = i := nI_clamp (by omega)
    have hnt := hI.nt hi
    obtain ⟨p, p1, p2, p3, p4, p5, p6⟩ := hN.par hi hi0
    have hpq : p = q := nI_inj60 (by omega) (by omega) (p2.symm.trans r2)
    subst hpq
    have hr := (hN.2 i hi).1.2.2.2.2.2.2
    have hk := (hN.2 i hi).1.2.2.1
    have hm : P.2 12 p ∈ ([0, 1, 2, 3] : List Int32) := by
      rcases hN.k0 hq p3 with c | c | c | c <;> rw [c] <;> decide
    have e501 : S.2.1 501 i = P.2 3 i := hnt.2.2.1
    have e0 : S.2.1 2200 (9 * i + 0) = f_of P (nI i) 0 := by
      rw [hnt.2.2.2.2.2.2.2.2.2.2.2.2 0 (by decide)]
      exact (f_of_n (M := P) (i := i) (q := 0) (by omega) (by decide)).symm
    have e1 : S.2.1 2200 (9 * i + 1) = f_of P (nI i) 1 := by
      rw [hnt.2.2.2.2.2.2.2.2.2.2.2.2 1 (by decide)]
      exact (f_of_n (M := P) (i := i) (q := 1) (by omega) (by decide)).symm
    have hrole : g_role S (nI i) (ro (P.2 12 p)) = ro (P.2 12 i) := by
      unfold g_role
      rw [ci, e501, e0, e1, p4]
      exact role_eq _ hm _ hk _ hr.1 _ hr.2.1
    have hfl : ¬ P.2 3 i = 0 → f_of P (nI i) 1 = 0 := fun c => by
      have := hFL.2 i hi c
      rw [← this]
      exact f_of_n (M := P) (i := i) (q := 1) (by omega) (by decide)
    refine vc30_54 (d := d + H) ⟨fun c => absurd c (nI_ne_m1 (by omega)), fun _ => ⟨hnt.1, fun s1 es => ?_⟩⟩
    change s1 = (if ¬ ro (P.2 12 p) = 0 then 0 else (if (g_role S (nI i) (ro (P.2 12 p))) = 3 then 0 else (if (S.2.1 2200 (9 * (nI i).toNatClampNeg + 1)) = 0 then 0 else 1))) at es
    have hs1 : s1 = P.2 13 i := by
      rw [es, hrole, ci, e1, p5, p4]
      have := flt_eq _ hm _ hk _ hr.1 _ hr.2.1 hfl
      rw [this]
      unfold f_isBox
      rw [ci, p4]
    have hfit : am_fit .boolean (.int s1) = true := by
      rw [es]
      split
      · rfl
      · split
        · rfl
        · split <;> rfl
    refine ⟨hfit, ?_⟩
    show cl_wp xs Kp h0 (d + H + 9) Q I30 97 [some (cl_rf A 3 0), some (cl_rf A 5 (nI p)), some (.int (ro (P.2 12 p))), some (cl_rf A 5 (nI i)), some (.int (g_role S (nI i) (ro (P.2 12 p))))] [.int (g_role S (nI i) (ro (P.2 12 p))), cl_rf A 5 (nI i), cl_rf A 3 0] A (cl_up S 510 (nI i).toNatClampNeg s1)
    rw [hrole, ci, hs1]
    have hI1 : pI A (cl_up S 510 i (P.2 13 i)) P nn W Wp B1 B2 := hI.up (by decide) (fun _ => hi0)
    refine cl_call (as := [cl_rf A 5 (nI i), .int (ro (P.2 12 i))]) (rest := []) (dd D30_ok 54 rfl) pl3_52 rfl (Nat.le_of_ble_eq_true rfl) (ms30 xs) rfl (by decide) hI1.1.2.1.l3 (cl_C.le (show d + bt_ht k + 10 ≤ d + H + 9 by omega) (prep_node hN hB ihk hi r3 r5 (List.nodup_cons.mpr ⟨n1.1, n2⟩) (fun y hy => hx y (by simp [hy])) hI1 hK f1.1 f1.2.2.2 f2 (by omega) _ (fun A' S' Wp' k1 k2 k3 k4 k5 => ?_))) rfl
    show cl_wp xs Kp h0 (d + H + 9) Q I30 100 [some (cl_rf A 3 0), some (cl_rf A 5 (nI p)), some (.int (ro (P.2 12 p))), some (cl_rf A 5 (nI i)), some (.int (ro (P.2 12 i)))] [] A' S'
    rw [k2.r3, k2.r5, k2.r5]
    have hnt' := k1.nt hi
    refine vc30_100 (d := d + H) ⟨hnt'.1, ?_⟩
    rw [ci, hnt'.2.2.2.2.2.2.2.1, r4]
    have hY1 : pY X_p5 A S A (cl_up S 510 i (P.2 13 i)) := pY.x (cl_X.rf.up (by decide) _ _)
    refine ihs H hht.2 p A' S' (W + l1_w P i + l1_ws P k) Wp' _ Q h0 hq hq3 r6 n3 (fun y hy => hx y (by simp [hy])) k1 (fun a ha => Nat.lt_of_lt_of_le (hK a ha) (hY1.tr k2).1.2.2.2) f3 (by omega) (fun A2 S2 Wp2 m1 m2 m3 m4 => ?_)
    have u4 : ∀ v, ∀ y, sm4 S (cl_up S 510 i v) y := fun v y => ⟨by rw [cl_up_off _ _ (by omega)], by rw [cl_up_off _ _ (by omega)], by rw [cl_up_off _ _ (by omega)], by rw [cl_up_off _ _ (by omega)]⟩
    refine kk A2 S2 Wp2 ?_ ((hY1.tr k2).tr m2) (fun y => ⟨fun hy => ?_, fun hy => ?_⟩) (fun y hy => ?_)
    · rw [show W + (l1_w P i + l1_ws P k + l1_ws P s) = W + l1_w P i + l1_ws P k + l1_ws P s by omega]
      exact m1
    · simp only [List.mem_cons, List.mem_append, not_or] at hy
      exact ((u4 _ y).tr ((k3 y).1 (by simp only [List.mem_cons, not_or]; exact ⟨hy.1, hy.2.1⟩))).tr ((m3 y).1 hy.2.2)
    · simp only [List.mem_cons, List.mem_append, not_or] at hy
      rw [(m3 y).2 hy.2.2, (k3 y).2 hy.2.1, cl_up_off _ _ (fun q => hy.1 q.2)]
    · rcases List.mem_cons.mp hy with rfl | hy
      · refine ⟨(k4 y (by simp)).sm ((m3 y).1 n1.2), ?_⟩
        show S2.2.1 510 y = _
        rw [(m3 y).2 n1.2, (k3 y).2 n1.1, cl_up_at]
      · rcases List.mem_append.mp hy with hy | hy
        · have hys : y ∉ bt_pre s := fun q => n4 y hy y q rfl
          refine ⟨(k4 y (by simp [hy])).sm ((m3 y).1 hys), ?_⟩
          show S2.2.1 510 y = _
          rw [(m3 y).2 hys]
          exact k5 y hy
        · exact m4 y hy
/-- the root's display is its role -/
theorem root_role (hN : NS P nn) (hn : 0 < nn) (hFL : FL P nn) : P.2 9 0 = ro (P.2 12 0) := by
  have hm := (hN.2 0 hn).2.2.1
  rw [if_pos rfl] at hm
  have e : f_of P 0 0 = P.2 9 0 := f_of_n (M := P) (i := 0) (q := 0) (by decide) (by decide)
  rw [e] at hm
  rw [hm]
  rcases hFL.1 with c | c <;> rw [c] <;> decide
end PR2
