/-! the class: settle; the words by number (by hand: wip/whole/gen/c12.py) -/
set_option maxHeartbeats 1000000 in
theorem vc84_0 {xs : List Int32} {K : Nat → Prop} {h0 : am_H} {d : Nat} {Q : Option Value → cl_A → cl_S → Prop} {A : cl_A} {S : cl_S} {x0 : Int32} {x1 : Int32} {x2 : Int32}
    (k : (cl_f S x0) ∧ (cl_wp xs K h0 (d + 1) Q I84 12 [some (cl_rf A 4 x0), some (.int x1), some (.int x2), some (.int (g_space S x0 x2)), some (cl_rf A 0 (S.2.1 400 x0.toNatClampNeg))] [] A S)) :
    cl_wp xs K h0 (d + 1) Q I84 0 [some (cl_rf A 4 x0), some (.int x1), some (.int x2), none, none] [] A S := by
  refine cl_aload_n (dd D84_ok 0 rfl) rfl ?_
  refine cl_iload_n (dd D84_ok 1 rfl) rfl ?_
  refine cl_callP (r := .int (g_space S x0 x2)) (as := [.int x2]) (rest := []) (v := x0) (dd D84_ok 2 rfl) pl4_46 rfl (Nat.le_of_ble_eq_true rfl) (ms85 xs) rfl (by decide) k.1.l4 (cc_g_space (S := S) k.1) rfl ?_
  refine cl_istore_n (dd D84_ok 3 rfl) (Nat.le_of_ble_eq_true rfl) ?_
  refine cl_aload_n (dd D84_ok 4 rfl) rfl ?_
  refine cl_gR (g := 400) (f := 0) (e := S.2.1 400 x0.toNatClampNeg) (dd D84_ok 5 rfl) pl4_9 (by decide) (by decide) (by decide) rfl rfl k.1.l4 rfl ?_
  refine cl_astore (dd D84_ok 6 rfl) (Nat.le_of_ble_eq_true rfl) ?_
  exact k.2
set_option maxHeartbeats 1000000 in
theorem vc84_12 {xs : List Int32} {K : Nat → Prop} {h0 : am_H} {d : Nat} {Q : Option Value → cl_A → cl_S → Prop} {A : cl_A} {S : cl_S} {x0 : Int32} {x1 : Int32} {x2 : Int32} {x3 : Int32} {x4 : Int32}
    (k : ((x4 = -1) → (cl_f S x0) ∧ (Q (some (.int (S.2.1 404 x0.toNatClampNeg))) A S)) ∧ (¬ (x4 = -1) → (cl_lv S 0 x4) ∧ ((cl_f S x0) ∧ (cl_wp xs K h0 (d + 1) Q I84 12 [some (cl_rf A 4 x0), some (.int x1), some (.int x2), some (.int x3), some (cl_rf A 0 (S.2.1 4 x4.toNatClampNeg))] [] A (cl_up (cl_up S 0 x4.toNatClampNeg ((S.2.1 0 x4.toNatClampNeg) + x3)) 1 x4.toNatClampNeg ((x1 + (S.2.1 404 x0.toNatClampNeg)) - (S.2.1 3 x4.toNatClampNeg))))))) :
    cl_wp xs K h0 (d + 1) Q I84 12 [some (cl_rf A 4 x0), some (.int x1), some (.int x2), some (.int x3), some (cl_rf A 0 x4)] [] A S := by
  refine cl_aload (dd D84_ok 7 rfl) rfl ?_
  refine cl_ifnull (tgt := 55) (dd D84_ok 8 rfl) (by decide) (fun c1 => ?_) (fun c1 => ?_)
  · refine cl_aload_n (dd D84_ok 28 rfl) rfl ?_
    refine cl_gI (g := 404) (e := S.2.1 404 x0.toNatClampNeg) (dd D84_ok 29 rfl) pl4_18 (by decide) (by decide) (by decide) rfl rfl (k.1 c1).1.l4 rfl ?_
    exact cl_iret (dd D84_ok 30 rfl) rfl (k.1 c1).2
  · refine cl_aload (dd D84_ok 9 rfl) rfl ?_
    refine cl_dup (dd D84_ok 10 rfl) ?_
    refine cl_gI (g := 0) (e := S.2.1 0 x4.toNatClampNeg) (dd D84_ok 11 rfl) pl4_33 (by decide) (by decide) (by decide) rfl rfl (k.2 c1).1 rfl ?_
    refine cl_iload_n (dd D84_ok 12 rfl) rfl ?_
    refine cl_iadd (dd D84_ok 13 rfl) ?_
    refine cl_pI (g := 0) (dd D84_ok 14 rfl) pl4_33 (by decide) (by decide) rfl rfl rfl rfl rfl (k.2 c1).1 ?_
    refine cl_aload (dd D84_ok 15 rfl) rfl ?_
    refine cl_iload_n (dd D84_ok 16 rfl) rfl ?_
    refine cl_aload_n (dd D84_ok 17 rfl) rfl ?_
    refine cl_gI (g := 404) (e := S.2.1 404 x0.toNatClampNeg) (dd D84_ok 18 rfl) pl4_18 (by decide) (by decide) (by decide) rfl rfl (k.2 c1).2.1.l4 (by first | rfl | simp [cl_up]) ?_
    refine cl_iadd (dd D84_ok 19 rfl) ?_
    refine cl_aload (dd D84_ok 20 rfl) rfl ?_
    refine cl_gI (g := 3) (e := S.2.1 3 x4.toNatClampNeg) (dd D84_ok 21 rfl) pl4_39 (by decide) (by decide) (by decide) rfl rfl (k.2 c1).1 (by first | rfl | simp [cl_up]) ?_
    refine cl_isub (dd D84_ok 22 rfl) ?_
    refine cl_pI (g := 1) (dd D84_ok 23 rfl) pl4_50 (by decide) (by decide) rfl rfl rfl rfl rfl (k.2 c1).1 ?_
    refine cl_aload (dd D84_ok 24 rfl) rfl ?_
    refine cl_gR (g := 4) (f := 0) (e := S.2.1 4 x4.toNatClampNeg) (dd D84_ok 25 rfl) pl4_28 (by decide) (by decide) (by decide) rfl rfl (k.2 c1).1 (by first | rfl | simp [cl_up]) ?_
    refine cl_astore (dd D84_ok 26 rfl) (Nat.le_of_ble_eq_true rfl) ?_
    refine cl_goto (tgt := 12) (dd D84_ok 27 rfl) (by decide) ?_
    exact (k.2 c1).2.2
theorem kk_settle1 {xs : List Int32} {K : Nat → Prop} {h0 : am_H} {d : Nat} {Q : Option Value → cl_A → cl_S → Prop} {A : cl_A} {f : Nat} {x1 x2 x3 : Int32} (hf13 : f < 13) : ∀ (l : List Nat) (x4 : Int32) (S : cl_S), cl_f S (nI f) → (∀ m ∈ l, m < 4000 ∧ cl_lv S 0 (nI m)) → l.Nodup → chn (S.2.1 4) l x4 → (∀ S', cl_X [0, 1] S S' → (∀ m, m ∉ l → S'.2.1 0 m = S.2.1 0 m ∧ S'.2.1 1 m = S.2.1 1 m) → (∀ m ∈ l, S'.2.1 0 m = S.2.1 0 m + x3 ∧ S'.2.1 1 m = x1 + S.2.1 404 f - S.2.1 3 m) → Q (some (.int (S.2.1 404 f))) A S') → cl_wp xs K h0 (d + 1) Q I84 12 [some (cl_rf A 4 (nI f)), some (.int x1), some (.int x2), some (.int x3), some (cl_rf A 0 x4)] [] A S := by
  have cf : (nI f).toNatClampNeg = f := nI_clamp (by omega)
  intro l
  induction l with
  | nil =>
    intro x4 S hf _ _ hc hQ
    refine vc84_12 ⟨fun _ => ⟨hf, ?_⟩, fun c => absurd hc c⟩
    rw [cf]
    exact hQ S cl_X.rf (fun _ _ => ⟨rfl, rfl⟩) (fun m hm => by cases hm)
  | cons b l ih =>
    intro x4 S hf hl hd hc hQ
    obtain ⟨rfl, hc⟩ := hc
    have hb := hl b (by simp)
    have cb : (nI b).toNatClampNeg = b := nI_clamp (by omega)
    have hbl := (List.nodup_cons.mp hd).1
    refine vc84_12 ⟨fun c => absurd c (nI_ne_m1 (by omega)), fun _ => ⟨hb.2, hf, ?_⟩⟩
    rw [cb, cf]
    refine ih _ _ (hf.mv rfl) (fun m hm => ⟨(hl m (by simp [hm])).1, (hl m (by simp [hm])).2.mv rfl⟩) (List.nodup_cons.mp hd).2 ?_ ?_
    · refine chn_mv (fun n _ => ?_) hc
      rw [cl_up_ne1 _ _ _ _ (by decide), cl_up_ne1 _ _ _ _ (by decide)]
    · intro S' h1 h2 h3
      have e404 : (cl_up (cl_up S 0 b (S.2.1 0 b + x3)) 1 b (x1 + S.2.1 404 f - S.2.1 3 b)).2.1 404 f = S.2.1 404 f := by
        rw [cl_up_ne1 _ _ _ _ (by decide), cl_up_ne1 _ _ _ _ (by decide)]
      have e3 : ∀ m, (cl_up (cl_up S 0 b (S.2.1 0 b + x3)) 1 b (x1 + S.2.1 404 f - S.2.1 3 b)).2.1 3 m = S.2.1 3 m := fun m => by
        rw [cl_up_ne1 _ _ _ _ (by decide), cl_up_ne1 _ _ _ _ (by decide)]
      have e0 : ∀ m, ¬ m = b → (cl_up (cl_up S 0 b (S.2.1 0 b + x3)) 1 b (x1 + S.2.1 404 f - S.2.1 3 b)).2.1 0 m = S.2.1 0 m ∧ (cl_up (cl_up S 0 b (S.2.1 0 b + x3)) 1 b (x1 + S.2.1 404 f - S.2.1 3 b)).2.1 1 m = S.2.1 1 m := fun m hm => by
        rw [cl_up_ne2 _ _ _ _ hm, cl_up_ne2 _ _ _ _ hm, cl_up_ne2 _ _ _ _ hm, cl_up_ne2 _ _ _ _ hm]
        exact ⟨rfl, rfl⟩
      rw [e404]
      refine hQ S' (((cl_X.rf.up (by decide) _ _).up (by decide) _ _).tr h1) (fun m hm => ?_) (fun m hm => ?_)
      · rw [List.mem_cons, not_or] at hm
        have := h2 m hm.2
        rw [(e0 m hm.1).1, (e0 m hm.1).2] at this
        exact this
      · rcases List.mem_cons.mp hm with rfl | hm
        · rw [(h2 m hbl).1, (h2 m hbl).2]
          exact ⟨by simp [cl_up], by simp [cl_up]⟩
        · have hmb : ¬ m = b := fun e => hbl (by rw [← e]; exact hm)
          have := h3 m hm
          rw [e404, e3, (e0 m hmb).1] at this
          exact this
theorem kk_settle {xs : List Int32} {K : Nat → Prop} {d : Nat} {A : cl_A} {S : cl_S} {f : Nat} {y al : Int32} {l : List Nat} (hf : cl_f S (nI f)) (hf13 : f < 13) (hl : ∀ m ∈ l, m < 4000 ∧ cl_lv S 0 (nI m)) (hd : l.Nodup) (hc : chn (S.2.1 4) l (S.2.1 400 f)) : ∀ Q', (∀ S', cl_X [0, 1] S S' → (∀ m, m ∉ l → S'.2.1 0 m = S.2.1 0 m ∧ S'.2.1 1 m = S.2.1 1 m) → (∀ m ∈ l, S'.2.1 0 m = S.2.1 0 m + g_space S (nI f) al ∧ S'.2.1 1 m = y + S.2.1 404 f - S.2.1 3 m) → Q' (some (.int (S.2.1 404 f))) A S') → cl_C xs K (d + 2) 84 [cl_rf A 4 (nI f), .int y, .int al] A S Q' := by
  intro Q' hQ
  refine cl_intro (ms84 xs) (Nat.le_of_ble_eq_true rfl) (fun h0 => vc84_0 ⟨hf, ?_⟩)
  have cf : (nI f).toNatClampNeg = f := nI_clamp (by omega)
  rw [cf]
  exact kk_settle1 hf13 l _ S hf hl hd hc hQ
/-- the pool of words: Wp of them -/
def wp_R (S : cl_S) (Wp : Nat) : Prop := Wp ≤ 3700 ∧ S.2.1 1002 0 = nI Wp ∧ Wp ≤ (S.2.1 2501 0).toNatClampNeg ∧ (0 < Wp → ¬ S.2.1 1001 0 = -1 ∧ S.1 25 0) ∧ ∀ w, w < Wp → S.2.1 2500 w = nI w ∧ cl_w S (nI w)
/-- size -/
def g_size (S : cl_S)  : Int32 := S.2.1 1002 0
set_option maxHeartbeats 1000000 in
theorem vc35_0 {xs : List Int32} {K : Nat → Prop} {h0 : am_H} {d : Nat} {Q : Option Value → cl_A → cl_S → Prop} {A : cl_A} {S : cl_S} 
    (k : (cl_z S) ∧ (Q (some (.int (S.2.1 1002 0))) A S)) :
    cl_wp xs K h0 d Q I35 0 [some (cl_rf A 10 0)] [] A S := by
  refine cl_aload_n (dd D35_ok 0 rfl) rfl ?_
  refine cl_gI (g := 1002) (e := S.2.1 1002 0) (dd D35_ok 1 rfl) pl10_48 (by decide) (by decide) (by decide) rfl rfl k.1.l10 rfl ?_
  exact cl_iret (dd D35_ok 2 rfl) rfl k.2
theorem cc_g_size {xs : List Int32} {K : Nat → Prop} {d : Nat} {A : cl_A} {S : cl_S} (h0 : cl_z S) : ∀ Q', Q' (some (.int (g_size S ))) A S → cl_C xs K (d + 1) 35 [cl_rf A 10 0] A S Q' := by
  intro Q' hQ
  refine cl_intro (ms35 xs) (Nat.le_of_ble_eq_true rfl) (fun h0 => vc35_0 ?_)
  unfold g_size at hQ
  refine ⟨by first | assumption, ?_⟩
  exact hQ
theorem kk_chk {xs : List Int32} {K : Nat → Prop} {d : Nat} {A : cl_A} {S : cl_S} {g w n : Nat} (hw : w < n) (hn : n ≤ 3700) : ∀ Q', Q' (some (.int (nI w))) A S → cl_C xs K (d + 1) 48 [.int (nI w), .int (nI n), cl_rf A g (-1)] A S Q' := by
  intro Q' hQ
  refine cl_intro (ms48 xs) (Nat.le_of_ble_eq_true rfl) (fun h0 => ?_)
  refine cl_iload_n (dd D48_ok 0 rfl) rfl ?_
  refine cl_if_lt (tgt := 9) (dd D48_ok 1 rfl) (by decide) (fun c => absurd c (nI_pos (by omega))) (fun _ => ?_)
  refine cl_iload_n (dd D48_ok 2 rfl) rfl ?_
  refine cl_iload_n (dd D48_ok 3 rfl) rfl ?_
  refine cl_icmp_lt (tgt := 16) (dd D48_ok 4 rfl) (by decide) (fun _ => ?_) (fun c => absurd (Int32.not_le.mp (nI_ge hw (by omega))) c)
  refine cl_iload_n (dd D48_ok 10 rfl) rfl ?_
  exact cl_iret (dd D48_ok 11 rfl) rfl hQ
theorem kk_chk2 {xs : List Int32} {K : Nat → Prop} {d : Nat} {A : cl_A} {S : cl_S} {w n : Nat} (hw : w < n) (hn : n ≤ 3700) : ∀ Q', Q' (some (.int (nI w))) A S → cl_C xs K (d + 2) 47 [.int (nI w), .int (nI n)] A S Q' := by
  intro Q' hQ
  refine cl_intro (ms47 xs) (Nat.le_of_ble_eq_true rfl) (fun h0 => ?_)
  refine cl_iload_n (dd D47_ok 0 rfl) rfl ?_
  refine cl_iload_n (dd D47_ok 1 rfl) rfl ?_
  refine cl_null (g := 99) (dd D47_ok 2 rfl) ?_
  refine cl_callsP (as := [.int (nI w), .int (nI n), cl_rf A 99 (-1)]) (rest := []) (dd D47_ok 3 rfl) pl16_105 rfl (Nat.le_of_ble_eq_true rfl) (kk_chk hw hn) rfl ?_
  exact cl_iret (dd D47_ok 4 rfl) rfl hQ
theorem cl_gE {xs : List Int32} {K : Nat → Prop} {h0 : am_H} {d : Nat} {Q : Option Value → cl_A → cl_S → Prop} {I : am_I} {pc : Nat} {ls : List (Option Value)} {st : List Value} {A : cl_A} {S : cl_S} {idx t : Nat} (hd : decode I.2.1 pc = .ok (.getfield idx, 3)) (hb : am_pool I.1 idx = (t, 10, 1)) (ht : t = 1 ∨ t = 2) (hl : cl_z S) (hc : ¬ S.2.1 1001 0 = -1) (kk : cl_wp xs K h0 d Q I (pc + 3) ls (cl_rf A 25 0 :: st) A S) : cl_wp xs K h0 d Q I pc ls (cl_rf A 10 0 :: st) A S :=
  fun h hR hF => by
    rw [cl_rf_lv hl.l10]
    have hg := cl_get hR hl.l10.2 (c := 10) (k := 1) (by decide) (by decide)
    have kk := kk h hR hF
    have e : cl_fv A S 10 1 (Int32.toNatClampNeg 0) = cl_rf A 25 0 := by
      show (if S.2.1 1001 0 = -1 then Value.retAddr 2 else Value.ref (A 25 0)) = _
      rw [if_neg hc]
      rfl
    rw [e] at hg
    exact ax_getf hd hb ht hg kk
theorem kk_elem {xs : List Int32} {K : Nat → Prop} {d : Nat} {A : cl_A} {S : cl_S} {w Wp : Nat} (hz : cl_z S) (hp : wp_R S Wp) (hw : w < Wp) : ∀ Q', Q' (some (cl_rf A 7 (nI w))) A S → cl_C xs K (d + 1) 49 [cl_rf A 10 0, .int (nI w)] A S Q' := by
  intro Q' hQ
  have h37 := hp.1
  have hc := hp.2.2.2.1 (by omega)
  refine cl_intro (ms49 xs) (Nat.le_of_ble_eq_true rfl) (fun h0 => ?_)
  refine cl_aload_n (dd D49_ok 0 rfl) rfl ?_
  refine cl_gE (dd D49_ok 1 rfl) pl10_9 (by decide) hz hc.1 ?_
  refine cl_iload_n (dd D49_ok 2 rfl) rfl ?_
  refine cl_aald (f := 25) (g := 7) (x := nI w) (dd D49_ok 3 rfl) (by decide) ⟨by decide, hc.2⟩ ⟨_, by decide, rfl⟩ (nI_pos (by omega)) ?_ ?_
  · show ((List.range (S.2.1 2501 0).toNatClampNeg).map (fun p => cl_rf A 7 (S.2.1 2500 p)))[(nI w).toNatClampNeg]? = _
    have := hp.2.2.1
    rw [nI_clamp (by omega), List.getElem?_map, List.getElem?_range (by omega), Option.map_some, (hp.2.2.2.2 w hw).1]
  · exact cl_aret (dd D49_ok 4 rfl) ⟨_, rfl⟩ hQ
theorem kk_get {xs : List Int32} {K : Nat → Prop} {d : Nat} {A : cl_A} {S : cl_S} {w Wp : Nat} (hz : cl_z S) (hp : wp_R S Wp) (hw : w < Wp) : ∀ Q', Q' (some (cl_rf A 7 (nI w))) A S → cl_C xs K (d + 3) 46 [cl_rf A 10 0, .int (nI w)] A S Q' := by
  intro Q' hQ
  refine cl_intro (ms46 xs) (Nat.le_of_ble_eq_true rfl) (fun h0 => ?_)
  refine cl_iload_n (dd D46_ok 0 rfl) rfl ?_
  refine cl_aload_n (dd D46_ok 1 rfl) rfl ?_
  refine cl_gI (g := 1002) (e := nI Wp) (dd D46_ok 2 rfl) pl10_48 (by decide) (by decide) (by decide) rfl rfl hz.l10 hp.2.1 ?_
  refine cl_callsP (as := [.int (nI w), .int (nI Wp)]) (rest := []) (dd D46_ok 3 rfl) pl10_118 rfl (Nat.le_of_ble_eq_true rfl) (kk_chk2 hw hp.1) rfl ?_
  refine cl_pop (dd D46_ok 4 rfl) ?_
  refine cl_aload_n (dd D46_ok 5 rfl) rfl ?_
  refine cl_iload_n (dd D46_ok 6 rfl) rfl ?_
  refine cl_callP (as := [.int (nI w)]) (rest := []) (v := 0) (dd D46_ok 7 rfl) pl10_123 rfl (Nat.le_of_ble_eq_true rfl) (ms49 xs) rfl (by decide) hz.l10 (kk_elem hz hp hw) rfl ?_
  exact cl_aret (dd D46_ok 8 rfl) ⟨_, rfl⟩ hQ
theorem cl_cast {xs : List Int32} {K : Nat → Prop} {h0 : am_H} {d : Nat} {Q : Option Value → cl_A → cl_S → Prop} {I : am_I} {pc : Nat} {ls : List (Option Value)} {st : List Value} {A : cl_A} {S : cl_S} {idx y : Nat} {v : Int32} (hd : decode I.2.1 pc = .ok (.checkcast idx, 3)) (hb : am_pool I.1 idx = (9, 7, y)) (hl : cl_lv S 7 v) (kk : cl_wp xs K h0 d Q I (pc + 3) ls (cl_rf A 7 v :: st) A S) : cl_wp xs K h0 d Q I pc ls (cl_rf A 7 v :: st) A S :=
  fun h hR hF => am_r hd rfl (show am_nx _ _ _ _ _ _ _ _ _ _ from ⟨_, st, 7, y, rfl, hb, Or.inr ⟨_, _, cl_rf_lv hl, (hR.1 7 _ hl.2).1⟩, kk h hR hF⟩)
/-- wordAt -/
theorem kk_wordAt {xs : List Int32} {K : Nat → Prop} {d : Nat} {A : cl_A} {S : cl_S} {W Wp : Nat} {x : Int32} (hz : cl_z S) (hp : wp_R S Wp) (hW : W ≤ Wp) (h1 : S.2.1 301 0 = nI W) : ∀ Q', (∀ w, w < W → x = nI w → Q' (some (cl_rf A 7 (nI w))) A S) → ((¬ ∃ w, w < W ∧ x = nI w) → Q' (some (cl_rf A 7 (-1))) A S) → cl_C xs K (d + 4) 45 [cl_rf A 3 0, .int x] A S Q' := by
  intro Q' hQ hQ2
  have h37 := hp.1
  refine cl_intro (ms45 xs) (Nat.le_of_ble_eq_true rfl) (fun h0 => ?_)
  have hno : (¬ ∃ w, w < W ∧ x = nI w) → cl_wp xs K h0 (d + 3) Q' I45 37 [some (cl_rf A 3 0), some (.int x)] [] A S := fun c => by
    refine cl_null (g := 7) (dd D45_ok 17 rfl) ?_
    exact cl_aret (dd D45_ok 18 rfl) ⟨_, rfl⟩ (hQ2 c)
  refine cl_iload_n (dd D45_ok 0 rfl) rfl ?_
  refine cl_if_lt (tgt := 37) (dd D45_ok 1 rfl) (by decide) (fun c => hno ?_) (fun c => ?_)
  · rintro ⟨w, hw, rfl⟩
    exact nI_pos (by omega) c
  refine cl_iload_n (dd D45_ok 2 rfl) rfl ?_
  refine cl_aload_n (dd D45_ok 3 rfl) rfl ?_
  refine cl_gI (g := 301) (e := nI W) (dd D45_ok 4 rfl) pl3_32 (by decide) (by decide) (by decide) rfl rfl hz.l3 h1 ?_
  refine cl_icmp_ge (tgt := 37) (dd D45_ok 5 rfl) (by decide) (fun c2 => hno ?_) (fun c2 => ?_)
  · rintro ⟨w, hw, rfl⟩
    exact nI_ge hw (by omega) c2
  obtain ⟨w, hw, rfl⟩ : ∃ w, w < W ∧ x = nI w := by
    rcases pk_ix x (n := W) (by omega) with q | q | ⟨j, hj, rfl⟩
    · exact absurd q c
    · exact absurd q c2
    · exact ⟨j, hj, rfl⟩
  refine cl_iload_n (dd D45_ok 6 rfl) rfl ?_
  refine cl_aload_n (dd D45_ok 7 rfl) rfl ?_
  refine cl_getO (g := 10) (dd D45_ok 8 rfl) pl3_12 (by decide) (by decide) (by decide) rfl hz.l3 ?_
  refine cl_callP (r := .int (nI Wp)) (as := []) (rest := [.int (nI w)]) (v := 0) (dd D45_ok 9 rfl) pl3_36 rfl (Nat.le_of_ble_eq_true rfl) (ms35 xs) rfl (by decide) hz.l10 (fun Q' h => cc_g_size hz Q' (by
    have e : g_size S = nI Wp := hp.2.1
    rw [e]
    exact h)) rfl ?_
  refine cl_icmp_ge (tgt := 37) (dd D45_ok 10 rfl) (by decide) (fun c2 => absurd c2 (nI_ge (by omega) (by omega))) (fun c3 => ?_)
  refine cl_aload_n (dd D45_ok 11 rfl) rfl ?_
  refine cl_getO (g := 10) (dd D45_ok 12 rfl) pl3_12 (by decide) (by decide) (by decide) rfl hz.l3 ?_
  refine cl_iload_n (dd D45_ok 13 rfl) rfl ?_
  refine cl_callP (as := [.int (nI w)]) (rest := []) (v := 0) (dd D45_ok 14 rfl) pl3_40 rfl (Nat.le_of_ble_eq_true rfl) (ms46 xs) rfl (by decide) hz.l10 (kk_get hz hp (by omega)) rfl ?_
  refine cl_cast (dd D45_ok 15 rfl) pl3_44 (hp.2.2.2.2 w (by omega)).2.l7 ?_
  refine cl_goto (tgt := 38) (dd D45_ok 16 rfl) (by decide) ?_
  exact cl_aret (dd D45_ok 18 rfl) ⟨_, rfl⟩ (hQ w hw rfl)
