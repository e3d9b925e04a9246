/-! the class: numbers with an offset; floats (by hand: wip/whole/gen/c10.py) -/
/-- far from the edge of ints -/
abbrev bd (x : Int32) : Prop := -1073741823 ≤ x.toInt ∧ x.toInt ≤ 1073741823
theorem bd_0 : bd 0 := by decide
theorem bmod_small {x : Int} (h1 : -2147483648 ≤ x) (h2 : x < 2147483648) : x.bmod (2 ^ 32) = x := by
  rw [Int.bmod_def]
  have e : ((2 ^ 32 : Nat) : Int) = 4294967296 := by decide
  rw [e]
  split <;> omega
theorem off_toInt {a o : Int32} (ha : bd a) (ho : bd o) : (a + o).toInt = a.toInt + o.toInt := by
  rw [Int32.toInt_add]
  exact bmod_small (by omega) (by omega)
theorem off_sub {a b : Int32} (ha : bd a) (hb : bd b) : (a - b).toInt = a.toInt - b.toInt := by
  rw [Int32.toInt_sub]
  exact bmod_small (by omega) (by omega)
theorem off_lt {a b o : Int32} (ha : bd a) (hb : bd b) (ho : bd o) : a + o < b + o ↔ a < b := by
  rw [Int32.lt_iff_toInt_lt, Int32.lt_iff_toInt_lt, off_toInt ha ho, off_toInt hb ho]
  omega
theorem off_le {a b o : Int32} (ha : bd a) (hb : bd b) (ho : bd o) : a + o ≤ b + o ↔ a ≤ b := by
  rw [Int32.le_iff_toInt_le, Int32.le_iff_toInt_le, off_toInt ha ho, off_toInt hb ho]
  omega
theorem off_eq {a b o : Int32} : a + o = b + o ↔ a = b := Int32.add_left_inj o
theorem off_more {a b o : Int32} (ha : bd a) (hb : bd b) (ho : bd o) : f_more (a + o) (b + o) = f_more a b + o := by
  unfold f_more
  by_cases h : a ≤ b
  · rw [if_pos h, if_pos ((off_le ha hb ho).mpr h)]
  · rw [if_neg h, if_neg (fun q => h ((off_le ha hb ho).mp q))]
theorem off_less {a b o : Int32} (ha : bd a) (hb : bd b) (ho : bd o) : f_less (a + o) (b + o) = f_less a b + o := by
  unfold f_less
  by_cases h : b ≤ a
  · rw [if_pos h, if_pos ((off_le hb ha ho).mpr h)]
  · rw [if_neg h, if_neg (fun q => h ((off_le hb ha ho).mp q))]
theorem bd_more {a b : Int32} (ha : bd a) (hb : bd b) : bd (f_more a b) := by
  unfold f_more
  split
  · exact hb
  · exact ha
theorem bd_less {a b : Int32} (ha : bd a) (hb : bd b) : bd (f_less a b) := by
  unfold f_less
  split
  · exact hb
  · exact ha
theorem off_diff (a b o : Int32) : (a + o) - (b + o) = a - b := by
  rw [Int32.sub_eq_add_neg, Int32.neg_add, Int32.sub_eq_add_neg a b, Int32.sub_eq_add_neg, Int32.add_comm (-b), Int32.add_assoc a, ← Int32.add_assoc o, Int32.add_right_neg, Int32.zero_add]
/-- a chain of nodes -/
def chn (nx : Nat → Int32) : List Nat → Int32 → Prop
  | [], x => x = -1
  | n :: l, x => x = nI n ∧ chn nx l (nx n)
theorem chn_mv {nx nx' : Nat → Int32} : ∀ {l : List Nat} {x : Int32}, (∀ n ∈ l, nx' n = nx n) → chn nx l x → chn nx' l x := by
  intro l
  induction l with
  | nil => intro x _ h; exact h
  | cons n l ih =>
    intro x h hc
    exact ⟨hc.1, by rw [h n (by simp)]; exact ih (fun m hm => h m (by simp [hm])) hc.2⟩
/-- node n of the class is the float f of the reference -/
def fl_R (S : cl_S) (M : md_S) (ox oy : Int32) (n : Nat) (f : sp_fl) : Prop := S.2.1 0 n - f_of M (nI n) 4 = f.1 + ox ∧ S.2.1 0 n + S.2.1 2 n + f_of M (nI n) 4 = f.2.1 + ox ∧ S.2.1 1 n - f_of M (nI n) 4 = f.2.2.1 + oy ∧ S.2.1 1 n + S.2.1 3 n + f_of M (nI n) 4 = f.2.2.2.1 + oy ∧ f_of M (nI n) 1 = f.2.2.2.2 ∧ (f.2.2.2.2 = 1 ∨ f.2.2.2.2 = 2) ∧ bd f.1 ∧ bd f.2.1 ∧ bd f.2.2.1 ∧ bd f.2.2.2.1
def fl_L (S : cl_S) (M : md_S) (ox oy : Int32) : List Nat → List sp_fl → Prop
  | [], [] => True
  | n :: l, f :: fs => fl_R S M ox oy n f ∧ fl_L S M ox oy l fs
  | _, _ => False
theorem fl_L_len {S : cl_S} {M : md_S} {ox oy : Int32} : ∀ {l : List Nat} {fs : List sp_fl}, fl_L S M ox oy l fs → l.length = fs.length := by
  intro l
  induction l with
  | nil => intro fs h; cases fs with
    | nil => rfl
    | cons f fs => exact h.elim
  | cons n l ih => intro fs h; cases fs with
    | nil => exact h.elim
    | cons f fs => rw [List.length_cons, List.length_cons, ih h.2]
theorem fl_L_mv {S S' : cl_S} {M : md_S} {ox oy : Int32} : ∀ {l : List Nat} {fs : List sp_fl}, (∀ n ∈ l, S'.2.1 0 n = S.2.1 0 n ∧ S'.2.1 1 n = S.2.1 1 n ∧ S'.2.1 2 n = S.2.1 2 n ∧ S'.2.1 3 n = S.2.1 3 n) → fl_L S M ox oy l fs → fl_L S' M ox oy l fs := by
  intro l
  induction l with
  | nil => intro fs _ h; cases fs with
    | nil => exact h
    | cons f fs => exact h.elim
  | cons n l ih => intro fs hs h; cases fs with
    | nil => exact h.elim
    | cons f fs =>
      obtain ⟨e0, e1, e2, e3⟩ := hs n (by simp)
      refine ⟨?_, ih (fun m hm => hs m (by simp [hm])) h.2⟩
      unfold fl_R
      rw [e0, e1, e2, e3]
      exact h.1
theorem fl_L_mm {S : cl_S} {M M' : md_S} {ox oy : Int32} (h9 : M'.2 9 = M.2 9) : ∀ {l : List Nat} {fs : List sp_fl}, fl_L S M ox oy l fs → fl_L S M' ox oy l fs := by
  intro l
  induction l with
  | nil => intro fs h; cases fs with
    | nil => exact h
    | cons f fs => exact h.elim
  | cons n l ih => intro fs h; cases fs with
    | nil => exact h.elim
    | cons f fs =>
      refine ⟨?_, ih h.2⟩
      unfold fl_R
      rw [of_same h9, of_same h9]
      exact h.1
theorem fl_L_app {S : cl_S} {M : md_S} {ox oy : Int32} : ∀ {l : List Nat} {fs : List sp_fl} {l' : List Nat} {fs' : List sp_fl}, fl_L S M ox oy l fs → fl_L S M ox oy l' fs' → fl_L S M ox oy (l ++ l') (fs ++ fs') := by
  intro l
  induction l with
  | nil => intro fs l' fs' h h'; cases fs with
    | nil => exact h'
    | cons f fs => exact h.elim
  | cons n l ih => intro fs l' fs' h h'; cases fs with
    | nil => exact h.elim
    | cons f fs => exact ⟨h.1, ih h.2 h'⟩
section FL
variable {xs : List Int32} {K : Nat → Prop} {h0 : am_H} {d : Nat} {Q : Option Value → cl_A → cl_S → Prop} {A : cl_A} {S : cl_S} {M : md_S} {nn : Nat} {ox oy : Int32}
theorem fl_top (hT : cl_T S M nn) {n : Nat} {f : sp_fl} (hn : n < nn) (h : fl_R S M ox oy n f) : g_top S (nI n) = f.2.2.1 + oy := by
  unfold g_top
  rw [hT.cl hn, hT.h4 hn]
  exact h.2.2.1
theorem fl_end (hT : cl_T S M nn) {n : Nat} {f : sp_fl} (hn : n < nn) (h : fl_R S M ox oy n f) : g_end S (nI n) = f.2.2.2.1 + oy := by
  unfold g_end
  rw [hT.cl hn, hT.h4 hn]
  exact h.2.2.2.1
theorem fl_at (hT : cl_T S M nn) {n : Nat} {f : sp_fl} {y : Int32} (hn : n < nn) (h : fl_R S M ox oy n f) (hy : bd y) (ho : bd oy) : g_at S (nI n) (y + oy) = if y < f.2.2.1 then 0 else if f.2.2.2.1 ≤ y then 0 else 1 := by
  unfold g_at
  rw [fl_top hT hn h, fl_end hT hn h]
  have e1 := off_lt hy h.2.2.2.2.2.2.2.2.1 ho
  have e2 := off_le h.2.2.2.2.2.2.2.2.2 hy ho
  by_cases c1 : y < f.2.2.1
  · rw [if_pos c1, if_pos (e1.mpr c1)]
  · rw [if_neg c1, if_neg (fun q => c1 (e1.mp q))]
    by_cases c2 : f.2.2.2.1 ≤ y
    · rw [if_pos c2, if_pos (e2.mpr c2)]
    · rw [if_neg c2, if_neg (fun q => c2 (e2.mp q))]
theorem bd_edge1 {y : Int32} {e : Int32 × Int32} {f : sp_fl} (h1 : bd e.1) (h2 : bd e.2) (h3 : bd f.1) (h4 : bd f.2.1) : bd (sp_edge1 y e f).1 ∧ bd (sp_edge1 y e f).2 := by
  unfold sp_edge1
  split
  · exact ⟨h1, h2⟩
  · split
    · exact ⟨h1, h2⟩
    · split
      · exact ⟨h1, bd_less h2 h3⟩
      · exact ⟨bd_more h1 h4, h2⟩
theorem bd_edges {y : Int32} : ∀ (l : List Nat) (fs : List sp_fl) (e : Int32 × Int32), fl_L S M ox oy l fs → bd e.1 → bd e.2 → bd (fs.foldl (sp_edge1 y) e).1 ∧ bd (fs.foldl (sp_edge1 y) e).2 := by
  intro l
  induction l with
  | nil => intro fs e h h1 h2; cases fs with
    | nil => exact ⟨h1, h2⟩
    | cons f fs => exact h.elim
  | cons n l ih => intro fs e h h1 h2; cases fs with
    | nil => exact h.elim
    | cons f fs =>
      have := bd_edge1 (y := y) h1 h2 h.1.2.2.2.2.2.2.1 h.1.2.2.2.2.2.2.2.1
      exact ih fs _ h.2 this.1 this.2
end FL
set_option maxHeartbeats 1000000 in
theorem vc75_0 {xs : List Int32} {K : Nat → Prop} {h0 : am_H} {d : Nat} {Q : Option Value → cl_A → cl_S → Prop} {A : cl_A} {S : cl_S} {x0 : Int32} {x1 : Int32}
    (k : (cl_f S x0) ∧ (cl_wp xs K h0 (d + 2) Q I75 10 [some (cl_rf A 1 x0), some (.int x1), some (.int (S.2.1 100 x0.toNatClampNeg)), some (cl_rf A 5 (S.2.1 102 x0.toNatClampNeg))] [] A S)) :
    cl_wp xs K h0 (d + 2) Q I75 0 [some (cl_rf A 1 x0), some (.int x1), none, none] [] A S := by
  refine cl_aload_n (dd D75_ok 0 rfl) rfl ?_
  refine cl_gI (g := 100) (e := S.2.1 100 x0.toNatClampNeg) (dd D75_ok 1 rfl) pl1_9 (by decide) (by decide) (by decide) rfl rfl k.1.l1 rfl ?_
  refine cl_istore_n (dd D75_ok 2 rfl) (Nat.le_of_ble_eq_true rfl) ?_
  refine cl_aload_n (dd D75_ok 3 rfl) rfl ?_
  refine cl_gR (g := 102) (f := 5) (e := S.2.1 102 x0.toNatClampNeg) (dd D75_ok 4 rfl) pl1_18 (by decide) (by decide) (by decide) rfl rfl k.1.l1 rfl ?_
  refine cl_astore_n (dd D75_ok 5 rfl) (Nat.le_of_ble_eq_true rfl) ?_
  exact k.2
set_option maxHeartbeats 1000000 in
theorem vc75_10 {xs : List Int32} {K : Nat → Prop} {h0 : am_H} {d : Nat} {Q : Option Value → cl_A → cl_S → Prop} {A : cl_A} {S : cl_S} {x0 : Int32} {x1 : Int32} {x2 : Int32} {x3 : Int32}
    (k : ((x3 = -1) → Q (some (.int x2)) A S) ∧ (¬ (x3 = -1) → (cl_n S x3) ∧ (∀ s1 : Int32, s1 = (if ¬ (S.2.1 2200 (9 * x3.toNatClampNeg + 1)) = 1 then x2 else (if (g_at S x3 x1) = 0 then x2 else (f_more x2 (((S.2.1 0 x3.toNatClampNeg) + (S.2.1 2 x3.toNatClampNeg)) + (S.2.1 2200 (9 * x3.toNatClampNeg + 4)))))) → (cl_wp xs K h0 (d + 2) Q I75 10 [some (cl_rf A 1 x0), some (.int x1), some (.int s1), some (cl_rf A 5 (S.2.1 515 x3.toNatClampNeg))] [] A S)))) :
    cl_wp xs K h0 (d + 2) Q I75 10 [some (cl_rf A 1 x0), some (.int x1), some (.int x2), some (cl_rf A 5 x3)] [] A S := by
  refine cl_aload_n (dd D75_ok 6 rfl) rfl ?_
  refine cl_ifnull (tgt := 67) (dd D75_ok 7 rfl) (by decide) (fun c1 => ?_) (fun c1 => ?_)
  · refine cl_iload_n (dd D75_ok 37 rfl) rfl ?_
    exact cl_iret (dd D75_ok 38 rfl) rfl (k.1 c1)
  · refine cl_aload_n (dd D75_ok 8 rfl) rfl ?_
    refine cl_getO (g := 22) (dd D75_ok 9 rfl) pl1_49 (by decide) (by decide) (by decide) rfl (k.2 c1).1.l5 ?_
    refine cl_iconst (v := 1) (dd D75_ok 10 rfl) (by decide) ?_
    refine cl_hs (q := 1) (e := S.2.1 2200 (9 * x3.toNatClampNeg + 1)) (dd D75_ok 11 rfl) (k.2 c1).1.l22 (md_vl (by decide)) (by decide) rfl ?_
    refine cl_iconst (v := 1) (dd D75_ok 12 rfl) (by decide) ?_
    have J1 : ∀ s1 : Int32, s1 = (if ¬ (S.2.1 2200 (9 * x3.toNatClampNeg + 1)) = 1 then x2 else (if (g_at S x3 x1) = 0 then x2 else (f_more x2 (((S.2.1 0 x3.toNatClampNeg) + (S.2.1 2 x3.toNatClampNeg)) + (S.2.1 2200 (9 * x3.toNatClampNeg + 4)))))) → cl_wp xs K h0 (d + 2) Q I75 59 [some (cl_rf A 1 x0), some (.int x1), some (.int s1), some (cl_rf A 5 x3)] [] A S := by
      intro s1 e_s1
      refine cl_aload_n (dd D75_ok 33 rfl) rfl ?_
      refine cl_gR (g := 515) (f := 5) (e := S.2.1 515 x3.toNatClampNeg) (dd D75_ok 34 rfl) pl1_31 (by decide) (by decide) (by decide) rfl rfl (k.2 c1).1.l5 rfl ?_
      refine cl_astore_n (dd D75_ok 35 rfl) (Nat.le_of_ble_eq_true rfl) ?_
      refine cl_goto (tgt := 10) (dd D75_ok 36 rfl) (by decide) ?_
      exact ((k.2 c1).2 s1 e_s1)
    refine cl_icmp_ne (tgt := 59) (dd D75_ok 13 rfl) (by decide) (fun c3 => ?_) (fun c3 => ?_)
    · exact J1 _ (by first | rfl | (rw [if_pos c3]; done) | (rw [if_pos c3]; rfl) | simp only [if_pos c3])
    · refine cl_aload_n (dd D75_ok 14 rfl) rfl ?_
      refine cl_iload_n (dd D75_ok 15 rfl) rfl ?_
      refine cl_callsP (r := .int (g_at S x3 x1)) (as := [cl_rf A 5 x3, .int x1]) (rest := []) (dd D75_ok 16 rfl) pl1_53 rfl (Nat.le_of_ble_eq_true rfl) (cc_g_at (S := S) (k.2 c1).1) rfl ?_
      refine cl_if_eq (tgt := 59) (dd D75_ok 17 rfl) (by decide) (fun c4 => ?_) (fun c4 => ?_)
      · exact J1 _ (by first | rfl | (rw [if_neg c3, if_pos c4]; done) | (rw [if_neg c3, if_pos c4]; rfl) | simp only [if_neg c3, if_pos c4])
      · refine cl_iload_n (dd D75_ok 18 rfl) rfl ?_
        refine cl_aload_n (dd D75_ok 19 rfl) rfl ?_
        refine cl_getO (g := 0) (dd D75_ok 20 rfl) pl1_57 (by decide) (by decide) (by decide) rfl (k.2 c1).1.l5 ?_
        refine cl_gI (g := 0) (e := S.2.1 0 x3.toNatClampNeg) (dd D75_ok 21 rfl) pl1_61 (by decide) (by decide) (by decide) rfl rfl (k.2 c1).1.l0 rfl ?_
        refine cl_aload_n (dd D75_ok 22 rfl) rfl ?_
        refine cl_getO (g := 0) (dd D75_ok 23 rfl) pl1_57 (by decide) (by decide) (by decide) rfl (k.2 c1).1.l5 ?_
        refine cl_gI (g := 2) (e := S.2.1 2 x3.toNatClampNeg) (dd D75_ok 24 rfl) pl1_66 (by decide) (by decide) (by decide) rfl rfl (k.2 c1).1.l0 rfl ?_
        refine cl_iadd (dd D75_ok 25 rfl) ?_
        refine cl_aload_n (dd D75_ok 26 rfl) rfl ?_
        refine cl_getO (g := 22) (dd D75_ok 27 rfl) pl1_49 (by decide) (by decide) (by decide) rfl (k.2 c1).1.l5 ?_
        refine cl_iconst (v := 4) (dd D75_ok 28 rfl) (by decide) ?_
        refine cl_hs (q := 4) (e := S.2.1 2200 (9 * x3.toNatClampNeg + 4)) (dd D75_ok 29 rfl) (k.2 c1).1.l22 (md_vl (by decide)) (by decide) rfl ?_
        refine cl_iadd (dd D75_ok 30 rfl) ?_
        refine cl_max (dd D75_ok 31 rfl) pl1_40 (Nat.le_of_ble_eq_true rfl) ?_
        rw [← f_more_lt]
        refine cl_istore_n (dd D75_ok 32 rfl) (Nat.le_of_ble_eq_true rfl) ?_
        exact J1 _ (by first | rfl | (rw [if_neg c3, if_neg c4]; done) | (rw [if_neg c3, if_neg c4]; rfl) | simp only [if_neg c3, if_neg c4])
set_option maxHeartbeats 1000000 in
theorem vc74_0 {xs : List Int32} {K : Nat → Prop} {h0 : am_H} {d : Nat} {Q : Option Value → cl_A → cl_S → Prop} {A : cl_A} {S : cl_S} {x0 : Int32} {x1 : Int32}
    (k : (cl_f S x0) ∧ (cl_wp xs K h0 (d + 2) Q I74 10 [some (cl_rf A 1 x0), some (.int x1), some (.int (S.2.1 101 x0.toNatClampNeg)), some (cl_rf A 5 (S.2.1 102 x0.toNatClampNeg))] [] A S)) :
    cl_wp xs K h0 (d + 2) Q I74 0 [some (cl_rf A 1 x0), some (.int x1), none, none] [] A S := by
  refine cl_aload_n (dd D74_ok 0 rfl) rfl ?_
  refine cl_gI (g := 101) (e := S.2.1 101 x0.toNatClampNeg) (dd D74_ok 1 rfl) pl1_15 (by decide) (by decide) (by decide) rfl rfl k.1.l1 rfl ?_
  refine cl_istore_n (dd D74_ok 2 rfl) (Nat.le_of_ble_eq_true rfl) ?_
  refine cl_aload_n (dd D74_ok 3 rfl) rfl ?_
  refine cl_gR (g := 102) (f := 5) (e := S.2.1 102 x0.toNatClampNeg) (dd D74_ok 4 rfl) pl1_18 (by decide) (by decide) (by decide) rfl rfl k.1.l1 rfl ?_
  refine cl_astore_n (dd D74_ok 5 rfl) (Nat.le_of_ble_eq_true rfl) ?_
  exact k.2
set_option maxHeartbeats 1000000 in
theorem vc74_10 {xs : List Int32} {K : Nat → Prop} {h0 : am_H} {d : Nat} {Q : Option Value → cl_A → cl_S → Prop} {A : cl_A} {S : cl_S} {x0 : Int32} {x1 : Int32} {x2 : Int32} {x3 : Int32}
    (k : ((x3 = -1) → Q (some (.int x2)) A S) ∧ (¬ (x3 = -1) → (cl_n S x3) ∧ (∀ s1 : Int32, s1 = (if ¬ (S.2.1 2200 (9 * x3.toNatClampNeg + 1)) = 2 then x2 else (if (g_at S x3 x1) = 0 then x2 else (f_less x2 ((S.2.1 0 x3.toNatClampNeg) - (S.2.1 2200 (9 * x3.toNatClampNeg + 4)))))) → (cl_wp xs K h0 (d + 2) Q I74 10 [some (cl_rf A 1 x0), some (.int x1), some (.int s1), some (cl_rf A 5 (S.2.1 515 x3.toNatClampNeg))] [] A S)))) :
    cl_wp xs K h0 (d + 2) Q I74 10 [some (cl_rf A 1 x0), some (.int x1), some (.int x2), some (cl_rf A 5 x3)] [] A S := by
  refine cl_aload_n (dd D74_ok 6 rfl) rfl ?_
  refine cl_ifnull (tgt := 59) (dd D74_ok 7 rfl) (by decide) (fun c1 => ?_) (fun c1 => ?_)
  · refine cl_iload_n (dd D74_ok 33 rfl) rfl ?_
    exact cl_iret (dd D74_ok 34 rfl) rfl (k.1 c1)
  · refine cl_aload_n (dd D74_ok 8 rfl) rfl ?_
    refine cl_getO (g := 22) (dd D74_ok 9 rfl) pl1_49 (by decide) (by decide) (by decide) rfl (k.2 c1).1.l5 ?_
    refine cl_iconst (v := 1) (dd D74_ok 10 rfl) (by decide) ?_
    refine cl_hs (q := 1) (e := S.2.1 2200 (9 * x3.toNatClampNeg + 1)) (dd D74_ok 11 rfl) (k.2 c1).1.l22 (md_vl (by decide)) (by decide) rfl ?_
    refine cl_iconst (v := 2) (dd D74_ok 12 rfl) (by decide) ?_
    have J1 : ∀ s1 : Int32, s1 = (if ¬ (S.2.1 2200 (9 * x3.toNatClampNeg + 1)) = 2 then x2 else (if (g_at S x3 x1) = 0 then x2 else (f_less x2 ((S.2.1 0 x3.toNatClampNeg) - (S.2.1 2200 (9 * x3.toNatClampNeg + 4)))))) → cl_wp xs K h0 (d + 2) Q I74 51 [some (cl_rf A 1 x0), some (.int x1), some (.int s1), some (cl_rf A 5 x3)] [] A S := by
      intro s1 e_s1
      refine cl_aload_n (dd D74_ok 29 rfl) rfl ?_
      refine cl_gR (g := 515) (f := 5) (e := S.2.1 515 x3.toNatClampNeg) (dd D74_ok 30 rfl) pl1_31 (by decide) (by decide) (by decide) rfl rfl (k.2 c1).1.l5 rfl ?_
      refine cl_astore_n (dd D74_ok 31 rfl) (Nat.le_of_ble_eq_true rfl) ?_
      refine cl_goto (tgt := 10) (dd D74_ok 32 rfl) (by decide) ?_
      exact ((k.2 c1).2 s1 e_s1)
    refine cl_icmp_ne (tgt := 51) (dd D74_ok 13 rfl) (by decide) (fun c3 => ?_) (fun c3 => ?_)
    · exact J1 _ (by first | rfl | (rw [if_pos c3]; done) | (rw [if_pos c3]; rfl) | simp only [if_pos c3])
    · refine cl_aload_n (dd D74_ok 14 rfl) rfl ?_
      refine cl_iload_n (dd D74_ok 15 rfl) rfl ?_
      refine cl_callsP (r := .int (g_at S x3 x1)) (as := [cl_rf A 5 x3, .int x1]) (rest := []) (dd D74_ok 16 rfl) pl1_53 rfl (Nat.le_of_ble_eq_true rfl) (cc_g_at (S := S) (k.2 c1).1) rfl ?_
      refine cl_if_eq (tgt := 51) (dd D74_ok 17 rfl) (by decide) (fun c4 => ?_) (fun c4 => ?_)
      · exact J1 _ (by first | rfl | (rw [if_neg c3, if_pos c4]; done) | (rw [if_neg c3, if_pos c4]; rfl) | simp only [if_neg c3, if_pos c4])
      · refine cl_iload_n (dd D74_ok 18 rfl) rfl ?_
        refine cl_aload_n (dd D74_ok 19 rfl) rfl ?_
        refine cl_getO (g := 0) (dd D74_ok 20 rfl) pl1_57 (by decide) (by decide) (by decide) rfl (k.2 c1).1.l5 ?_
        refine cl_gI (g := 0) (e := S.2.1 0 x3.toNatClampNeg) (dd D74_ok 21 rfl) pl1_61 (by decide) (by decide) (by decide) rfl rfl (k.2 c1).1.l0 rfl ?_
        refine cl_aload_n (dd D74_ok 22 rfl) rfl ?_
        refine cl_getO (g := 22) (dd D74_ok 23 rfl) pl1_49 (by decide) (by decide) (by decide) rfl (k.2 c1).1.l5 ?_
        refine cl_iconst (v := 4) (dd D74_ok 24 rfl) (by decide) ?_
        refine cl_hs (q := 4) (e := S.2.1 2200 (9 * x3.toNatClampNeg + 4)) (dd D74_ok 25 rfl) (k.2 c1).1.l22 (md_vl (by decide)) (by decide) rfl ?_
        refine cl_isub (dd D74_ok 26 rfl) ?_
        refine cl_min (dd D74_ok 27 rfl) pl1_69 (Nat.le_of_ble_eq_true rfl) ?_
        rw [← f_less_lt]
        refine cl_istore_n (dd D74_ok 28 rfl) (Nat.le_of_ble_eq_true rfl) ?_
        exact J1 _ (by first | rfl | (rw [if_neg c3, if_neg c4]; done) | (rw [if_neg c3, if_neg c4]; rfl) | simp only [if_neg c3, if_neg c4])
set_option maxHeartbeats 1000000 in
theorem vc70_0 {xs : List Int32} {K : Nat → Prop} {h0 : am_H} {d : Nat} {Q : Option Value → cl_A → cl_S → Prop} {A : cl_A} {S : cl_S} {x0 : Int32} {x1 : Int32}
    (k : (cl_f S x0) ∧ (cl_wp xs K h0 (d + 2) Q I70 7 [some (cl_rf A 1 x0), some (.int x1), some (.int x1), some (cl_rf A 5 (S.2.1 102 x0.toNatClampNeg))] [] A S)) :
    cl_wp xs K h0 (d + 2) Q I70 0 [some (cl_rf A 1 x0), some (.int x1), none, none] [] A S := by
  refine cl_iload_n (dd D70_ok 0 rfl) rfl ?_
  refine cl_istore_n (dd D70_ok 1 rfl) (Nat.le_of_ble_eq_true rfl) ?_
  refine cl_aload_n (dd D70_ok 2 rfl) rfl ?_
  refine cl_gR (g := 102) (f := 5) (e := S.2.1 102 x0.toNatClampNeg) (dd D70_ok 3 rfl) pl1_18 (by decide) (by decide) (by decide) rfl rfl k.1.l1 rfl ?_
  refine cl_astore_n (dd D70_ok 4 rfl) (Nat.le_of_ble_eq_true rfl) ?_
  exact k.2
set_option maxHeartbeats 1000000 in
theorem vc70_7 {xs : List Int32} {K : Nat → Prop} {h0 : am_H} {d : Nat} {Q : Option Value → cl_A → cl_S → Prop} {A : cl_A} {S : cl_S} {x0 : Int32} {x1 : Int32} {x2 : Int32} {x3 : Int32}
    (k : ((x3 = -1) → Q (some (.int x2)) A S) ∧ (¬ (x3 = -1) → (cl_n S x3) ∧ (∀ s1 : Int32, s1 = (if (g_at S x3 x1) = 0 then x2 else (if x2 = x1 then (g_end S x3) else (if x2 ≤ (g_end S x3) then x2 else (g_end S x3)))) → (cl_wp xs K h0 (d + 2) Q I70 7 [some (cl_rf A 1 x0), some (.int x1), some (.int s1), some (cl_rf A 5 (S.2.1 515 x3.toNatClampNeg))] [] A S)))) :
    cl_wp xs K h0 (d + 2) Q I70 7 [some (cl_rf A 1 x0), some (.int x1), some (.int x2), some (cl_rf A 5 x3)] [] A S := by
  refine cl_aload_n (dd D70_ok 5 rfl) rfl ?_
  refine cl_ifnull (tgt := 45) (dd D70_ok 6 rfl) (by decide) (fun c1 => ?_) (fun c1 => ?_)
  · refine cl_iload_n (dd D70_ok 25 rfl) rfl ?_
    exact cl_iret (dd D70_ok 26 rfl) rfl (k.1 c1)
  · refine cl_aload_n (dd D70_ok 7 rfl) rfl ?_
    refine cl_iload_n (dd D70_ok 8 rfl) rfl ?_
    refine cl_callsP (r := .int (g_at S x3 x1)) (as := [cl_rf A 5 x3, .int x1]) (rest := []) (dd D70_ok 9 rfl) pl1_53 rfl (Nat.le_of_ble_eq_true rfl) (cc_g_at (S := S) (k.2 c1).1) rfl ?_
    have J1 : ∀ s1 : Int32, s1 = (if (g_at S x3 x1) = 0 then x2 else (if x2 = x1 then (g_end S x3) else (if x2 ≤ (g_end S x3) then x2 else (g_end S x3)))) → cl_wp xs K h0 (d + 2) Q I70 37 [some (cl_rf A 1 x0), some (.int x1), some (.int s1), some (cl_rf A 5 x3)] [] A S := by
      intro s1 e_s1
      refine cl_aload_n (dd D70_ok 21 rfl) rfl ?_
      refine cl_gR (g := 515) (f := 5) (e := S.2.1 515 x3.toNatClampNeg) (dd D70_ok 22 rfl) pl1_31 (by decide) (by decide) (by decide) rfl rfl (k.2 c1).1.l5 rfl ?_
      refine cl_astore_n (dd D70_ok 23 rfl) (Nat.le_of_ble_eq_true rfl) ?_
      refine cl_goto (tgt := 7) (dd D70_ok 24 rfl) (by decide) ?_
      exact ((k.2 c1).2 s1 e_s1)
    refine cl_if_eq (tgt := 37) (dd D70_ok 10 rfl) (by decide) (fun c3 => ?_) (fun c3 => ?_)
    · exact J1 _ (by first | rfl | (rw [if_pos c3]; done) | (rw [if_pos c3]; rfl) | simp only [if_pos c3])
    · refine cl_iload_n (dd D70_ok 11 rfl) rfl ?_
      refine cl_iload_n (dd D70_ok 12 rfl) rfl ?_
      refine cl_icmp_eq (tgt := 32) (dd D70_ok 13 rfl) (by decide) (fun c4 => ?_) (fun c4 => ?_)
      · refine cl_aload_n (dd D70_ok 18 rfl) rfl ?_
        refine cl_callsP (r := .int (g_end S x3)) (as := [cl_rf A 5 x3]) (rest := []) (dd D70_ok 19 rfl) pl1_46 rfl (Nat.le_of_ble_eq_true rfl) (cc_g_end (S := S) (k.2 c1).1) rfl ?_
        refine cl_istore_n (dd D70_ok 20 rfl) (Nat.le_of_ble_eq_true rfl) ?_
        exact J1 _ (by first | rfl | (rw [if_neg c3, if_pos c4]; done) | (rw [if_neg c3, if_pos c4]; rfl) | simp only [if_neg c3, if_pos c4])
      · refine cl_aload_n (dd D70_ok 14 rfl) rfl ?_
        refine cl_callsP (r := .int (g_end S x3)) (as := [cl_rf A 5 x3]) (rest := []) (dd D70_ok 15 rfl) pl1_46 rfl (Nat.le_of_ble_eq_true rfl) (cc_g_end (S := S) (k.2 c1).1) rfl ?_
        refine cl_iload_n (dd D70_ok 16 rfl) rfl ?_
        refine cl_icmp_ge (tgt := 37) (dd D70_ok 17 rfl) (by decide) (fun c5 => ?_) (fun c5 => ?_)
        · exact J1 _ (by first | rfl | (rw [if_neg c3, if_neg c4, if_pos c5]; done) | (rw [if_neg c3, if_neg c4, if_pos c5]; rfl) | simp only [if_neg c3, if_neg c4, if_pos c5])
        · refine cl_aload_n (dd D70_ok 18 rfl) rfl ?_
          refine cl_callsP (r := .int (g_end S x3)) (as := [cl_rf A 5 x3]) (rest := []) (dd D70_ok 19 rfl) pl1_46 rfl (Nat.le_of_ble_eq_true rfl) (cc_g_end (S := S) (k.2 c1).1) rfl ?_
          refine cl_istore_n (dd D70_ok 20 rfl) (Nat.le_of_ble_eq_true rfl) ?_
          exact J1 _ (by first | rfl | (rw [if_neg c3, if_neg c4, if_neg c5]; done) | (rw [if_neg c3, if_neg c4, if_neg c5]; rfl) | simp only [if_neg c3, if_neg c4, if_neg c5])
section FL2
variable {xs : List Int32} {K : Nat → Prop} {d : Nat} {Q : Option Value → cl_A → cl_S → Prop} {A : cl_A} {S : cl_S} {M : md_S} {nn : Nat} {ox oy : Int32}
theorem kk_left1 {h0 : am_H} (hT : cl_T S M nn) {y x0 : Int32} (hy : bd y) (hox : bd ox) (hoy : bd oy) : ∀ (l : List Nat) (fs : List sp_fl) (e : Int32 × Int32) (x3 : Int32), chn (S.2.1 515) l x3 → fl_L S M ox oy l fs → (∀ n ∈ l, n < nn) → bd e.1 → bd e.2 → Q (some (.int ((fs.foldl (sp_edge1 y) e).1 + ox))) A S → cl_wp xs K h0 (d + 2) Q I75 10 [some (cl_rf A 1 x0), some (.int (y + oy)), some (.int (e.1 + ox)), some (cl_rf A 5 x3)] [] A S := by
  have h60 := hT.1
  intro l
  induction l with
  | nil => intro fs e x3 hc hl _ _ _ hQ; cases fs with
    | cons f fs => exact hl.elim
    | nil => exact vc75_10 ⟨fun _ => hQ, fun c => absurd hc c⟩
  | cons n l ih => intro fs e x3 hc hl hn h1 h2 hQ; cases fs with
    | nil => exact hl.elim
    | cons f fs =>
      have hnn : n < nn := hn n (by simp)
      obtain ⟨rfl, hc⟩ := hc
      have hb := bd_edge1 (y := y) h1 h2 hl.1.2.2.2.2.2.2.1 hl.1.2.2.2.2.2.2.2.1
      refine vc75_10 ⟨fun c => absurd c (nI_ne_m1 (by omega)), fun _ => ⟨hT.n hnn, fun s1 e1 => ?_⟩⟩
      rw [fl_at hT hnn hl.1 hy hoy, hT.cl hnn, hT.h1 hnn, hT.h4 hnn, hl.1.2.1, off_more h1 hl.1.2.2.2.2.2.2.2.1 hox, hl.1.2.2.2.2.1] at e1
      have es : s1 = (sp_edge1 y e f).1 + ox := by
        rw [e1]
        unfold sp_edge1
        by_cases c1 : y < f.2.2.1
        · simp only [if_pos c1, if_true, ite_self]
        · by_cases c2 : f.2.2.2.1 ≤ y
          · simp only [if_neg c1, if_pos c2, if_true, ite_self]
          · simp only [if_neg c1, if_neg c2]
            rcases hl.1.2.2.2.2.2.1 with q | q
            · simp [q]
            · simp [q]
      rw [es, hT.cl hnn]
      exact ih fs _ _ hc hl.2 (fun m hm => hn m (by simp [hm])) hb.1 hb.2 hQ
theorem kk_left (hT : cl_T S M nn) {y bw : Int32} {f : Nat} {l : List Nat} {fs : List sp_fl} (hf : f < 13) (hy : bd y) (hbw : bd bw) (hox : bd ox) (hoy : bd oy) (hc : chn (S.2.1 515) l (S.2.1 102 f)) (hl : fl_L S M ox oy l fs) (hn : ∀ n ∈ l, n < nn) (he : S.2.1 100 f = ox) : ∀ Q', Q' (some (.int ((sp_edges bw y fs).1 + ox))) A S → cl_C xs K (d + 3) 75 [cl_rf A 1 (nI f), .int (y + oy)] A S Q' := by
  intro Q' hQ
  refine cl_intro (ms75 xs) (Nat.le_of_ble_eq_true rfl) (fun h0 => vc75_0 ⟨hT.2.2.1 f hf, ?_⟩)
  rw [nI_clamp (by omega), he]
  have := kk_left1 (xs := xs) (K := K) (d := d) (Q := Q') (A := A) (h0 := h0) (x0 := nI f) hT hy hox hoy l fs (0, bw) _ hc hl hn bd_0 hbw hQ
  rw [Int32.zero_add] at this
  exact this
theorem kk_right1 {h0 : am_H} (hT : cl_T S M nn) {y x0 : Int32} (hy : bd y) (hox : bd ox) (hoy : bd oy) : ∀ (l : List Nat) (fs : List sp_fl) (e : Int32 × Int32) (x3 : Int32), chn (S.2.1 515) l x3 → fl_L S M ox oy l fs → (∀ n ∈ l, n < nn) → bd e.1 → bd e.2 → Q (some (.int ((fs.foldl (sp_edge1 y) e).2 + ox))) A S → cl_wp xs K h0 (d + 2) Q I74 10 [some (cl_rf A 1 x0), some (.int (y + oy)), some (.int (e.2 + ox)), some (cl_rf A 5 x3)] [] A S := by
  have h60 := hT.1
  intro l
  induction l with
  | nil => intro fs e x3 hc hl _ _ _ hQ; cases fs with
    | cons f fs => exact hl.elim
    | nil => exact vc74_10 ⟨fun _ => hQ, fun c => absurd hc c⟩
  | cons n l ih => intro fs e x3 hc hl hn h1 h2 hQ; cases fs with
    | nil => exact hl.elim
    | cons f fs =>
      have hnn : n < nn := hn n (by simp)
      obtain ⟨rfl, hc⟩ := hc
      have hb := bd_edge1 (y := y) h1 h2 hl.1.2.2.2.2.2.2.1 hl.1.2.2.2.2.2.2.2.1
      refine vc74_10 ⟨fun c => absurd c (nI_ne_m1 (by omega)), fun _ => ⟨hT.n hnn, fun s1 e1 => ?_⟩⟩
      rw [fl_at hT hnn hl.1 hy hoy, hT.cl hnn, hT.h1 hnn, hT.h4 hnn, hl.1.1, off_less h2 hl.1.2.2.2.2.2.2.1 hox, hl.1.2.2.2.2.1] at e1
      have es : s1 = (sp_edge1 y e f).2 + ox := by
        rw [e1]
        unfold sp_edge1
        by_cases c1 : y < f.2.2.1
        · simp only [if_pos c1, if_true, ite_self]
        · by_cases c2 : f.2.2.2.1 ≤ y
          · simp only [if_neg c1, if_pos c2, if_true, ite_self]
          · simp only [if_neg c1, if_neg c2]
            rcases hl.1.2.2.2.2.2.1 with q | q
            · simp [q]
            · simp [q]
      rw [es, hT.cl hnn]
      exact ih fs _ _ hc hl.2 (fun m hm => hn m (by simp [hm])) hb.1 hb.2 hQ
theorem kk_right (hT : cl_T S M nn) {y bw : Int32} {f : Nat} {l : List Nat} {fs : List sp_fl} (hf : f < 13) (hy : bd y) (hbw : bd bw) (hox : bd ox) (hoy : bd oy) (hc : chn (S.2.1 515) l (S.2.1 102 f)) (hl : fl_L S M ox oy l fs) (hn : ∀ n ∈ l, n < nn) (he : S.2.1 101 f = bw + ox) : ∀ Q', Q' (some (.int ((sp_edges bw y fs).2 + ox))) A S → cl_C xs K (d + 3) 74 [cl_rf A 1 (nI f), .int (y + oy)] A S Q' := by
  intro Q' hQ
  refine cl_intro (ms74 xs) (Nat.le_of_ble_eq_true rfl) (fun h0 => vc74_0 ⟨hT.2.2.1 f hf, ?_⟩)
  rw [nI_clamp (by omega), he]
  have := kk_right1 (xs := xs) (K := K) (d := d) (Q := Q') (A := A) (h0 := h0) (x0 := nI f) hT hy hox hoy l fs (0, bw) _ hc hl hn bd_0 hbw hQ
  skip
  exact this
theorem kk_least1 {h0 : am_H} (hT : cl_T S M nn) {y x0 : Int32} (hy : bd y) (hy0 : 0 ≤ y) (hoy : bd oy) : ∀ (l : List Nat) (fs : List sp_fl) (e x3 : Int32), chn (S.2.1 515) l x3 → fl_L S M ox oy l fs → (∀ n ∈ l, n < nn) → (e = -1 ∨ y < e ∧ bd e) → Q (some (.int ((if fs.foldl (sp_least1 y) e = -1 then y else fs.foldl (sp_least1 y) e) + oy))) A S → cl_wp xs K h0 (d + 2) Q I70 7 [some (cl_rf A 1 x0), some (.int (y + oy)), some (.int ((if e = -1 then y else e) + oy)), some (cl_rf A 5 x3)] [] A S := by
  have h60 := hT.1
  intro l
  induction l with
  | nil => intro fs e x3 hc hl _ _ hQ; cases fs with
    | cons f fs => exact hl.elim
    | nil => exact vc70_7 ⟨fun _ => hQ, fun c => absurd hc c⟩
  | cons n l ih => intro fs e x3 hc hl hn he hQ; cases fs with
    | nil => exact hl.elim
    | cons f fs =>
      have hnn : n < nn := hn n (by simp)
      obtain ⟨rfl, hc⟩ := hc
      have hfe := hl.1.2.2.2.2.2.2.2.2.2
      refine vc70_7 ⟨fun c => absurd c (nI_ne_m1 (by omega)), fun _ => ⟨hT.n hnn, fun s1 e1 => ?_⟩⟩
      rw [fl_at hT hnn hl.1 hy hoy, fl_end hT hnn hl.1] at e1
      have hm1 : (-1 : Int32).toInt = -1 := by decide
      have hz : (0 : Int32).toInt = 0 := by decide
      rw [Int32.le_iff_toInt_le, hz] at hy0
      have es : s1 = (if sp_least1 y e f = -1 then y else sp_least1 y e f) + oy ∧ (sp_least1 y e f = -1 ∨ y < sp_least1 y e f ∧ bd (sp_least1 y e f)) := by
        rw [e1]
        unfold sp_least1
        by_cases c1 : y < f.2.2.1
        · simp only [if_pos c1, if_true]
          exact ⟨trivial, he⟩
        · by_cases c2 : f.2.2.2.1 ≤ y
          · simp only [if_neg c1, if_pos c2, if_true]
            exact ⟨trivial, he⟩
          · have hlt : y < f.2.2.2.1 := Int32.not_le.mp c2
            have hne : ¬ f.2.2.2.1 = -1 := by
              intro q
              rw [q, Int32.lt_iff_toInt_lt, hm1] at hlt
              omega
            simp only [if_neg c1, if_neg c2, show ¬ (1 : Int32) = 0 by decide, if_false]
            rcases he with rfl | ⟨he1, he2⟩
            · simp only [if_true, if_neg hne]
              exact ⟨trivial, Or.inr ⟨hlt, hfe⟩⟩
            · have hen : ¬ e = -1 := by
                intro q
                rw [q, Int32.lt_iff_toInt_lt, hm1] at he1
                omega
              have hey : ¬ e + oy = y + oy := by
                rw [off_eq]
                intro q
                rw [q] at he1
                exact Int32.lt_irrefl he1
              simp only [if_neg hen, if_neg hey]
              by_cases c3 : e ≤ f.2.2.2.1
              · rw [if_pos ((off_le he2 hfe hoy).mpr c3)]
                simp only [if_pos c3, if_neg hen]
                exact ⟨trivial, Or.inr ⟨he1, he2⟩⟩
              · rw [if_neg (fun q => c3 ((off_le he2 hfe hoy).mp q))]
                simp only [if_neg c3, if_neg hne]
                exact ⟨trivial, Or.inr ⟨hlt, hfe⟩⟩
      rw [es.1, hT.cl hnn]
      exact ih fs _ _ hc hl.2 (fun m hm => hn m (by simp [hm])) es.2 hQ
theorem kk_least (hT : cl_T S M nn) {y : Int32} {f : Nat} {l : List Nat} {fs : List sp_fl} (hf : f < 13) (hy : bd y) (hy0 : 0 ≤ y) (hoy : bd oy) (hc : chn (S.2.1 515) l (S.2.1 102 f)) (hl : fl_L S M ox oy l fs) (hn : ∀ n ∈ l, n < nn) : ∀ Q', Q' (some (.int ((if sp_least y fs = -1 then y else sp_least y fs) + oy))) A S → cl_C xs K (d + 3) 70 [cl_rf A 1 (nI f), .int (y + oy)] A S Q' := by
  intro Q' hQ
  refine cl_intro (ms70 xs) (Nat.le_of_ble_eq_true rfl) (fun h0 => vc70_0 ⟨hT.2.2.1 f hf, ?_⟩)
  rw [nI_clamp (by omega)]
  exact kk_least1 (x0 := nI f) hT hy hy0 hoy l fs (-1) _ hc hl hn (Or.inl rfl) hQ
theorem sp_least_bd {y : Int32} {l : List Nat} {fs : List sp_fl} (hl : fl_L S M ox oy l fs) (h : ¬ sp_least y fs = -1) : bd (sp_least y fs) ∧ y < sp_least y fs := by
  rcases sp_least_of y fs (-1) with e | ⟨f, hf, h1, h2⟩
  · exact absurd e h
  · have h2 : sp_least y fs = f.2.2.2.1 := h2
    rw [h2]
    refine ⟨?_, Int32.not_le.mp h1⟩
    have : ∀ (l : List Nat) (fs : List sp_fl), fl_L S M ox oy l fs → ∀ f ∈ fs, bd f.2.2.2.1 := by
      intro l
      induction l with
      | nil => intro fs h; cases fs with
        | nil => intro f hf; cases hf
        | cons f fs => exact h.elim
      | cons n l ih => intro fs h; cases fs with
        | nil => exact h.elim
        | cons f fs =>
          intro g hg
          rcases List.mem_cons.mp hg with rfl | hg
          · exact h.1.2.2.2.2.2.2.2.2.2
          · exact ih fs h.2 g hg
    exact this l fs hl f hf
end FL2
set_option maxHeartbeats 1000000 in
theorem vc69_0 {xs : List Int32} {K : Nat → Prop} {h0 : am_H} {d : Nat} {Q : Option Value → cl_A → cl_S → Prop} {A : cl_A} {S : cl_S} {x0 : Int32} {x1 : Int32} {x2 : Int32}
    (k : cl_wp xs K h0 (d + 3) Q I69 5 [some (cl_rf A 1 x0), some (.int x1), some (.int x2), some (.int x2), some (.int 0), none] [] A S) :
    cl_wp xs K h0 (d + 3) Q I69 0 [some (cl_rf A 1 x0), some (.int x1), some (.int x2), none, none, none] [] A S := by
  refine cl_iload_n (dd D69_ok 0 rfl) rfl ?_
  refine cl_istore_n (dd D69_ok 1 rfl) (Nat.le_of_ble_eq_true rfl) ?_
  refine cl_iconst (v := 0) (dd D69_ok 2 rfl) (by decide) ?_
  refine cl_istore (dd D69_ok 3 rfl) (Nat.le_of_ble_eq_true rfl) ?_
  exact k
set_option maxHeartbeats 1000000 in
theorem vc69_5 {xs : List Int32} {K : Nat → Prop} {h0 : am_H} {d : Nat} {Q : Option Value → cl_A → cl_S → Prop} {A : cl_A} {S : cl_S} {x0 : Int32} {x1 : Int32} {x2 : Int32} {x3 : Int32} {x4 : Int32} {o5 : Option Value}
    (k : ((60 ≤ x4) → Q (some (.int x3)) A S) ∧ (¬ (60 ≤ x4) → (cl_f S x0) ∧ (cl_C xs K (d + 3) 70 [cl_rf A 1 x0, .int x3] A S (fun v A' N1 => A' = A ∧ N1.1 = S.1 ∧ ∃ y1, v = some (.int y1) ∧ (((y1 = x3) → Q (some (.int x3)) A N1) ∧ (¬ (y1 = x3) → cl_C xs K (d + 3) 74 [cl_rf A 1 x0, .int x3] A N1 (fun v A' N2 => A' = A ∧ N2.1 = N1.1 ∧ ∃ y2, v = some (.int y2) ∧ (cl_C xs K (d + 3) 75 [cl_rf A 1 x0, .int x3] A N2 (fun v A' N3 => A' = A ∧ N3.1 = N2.1 ∧ ∃ y3, v = some (.int y3) ∧ ((((y2 - y3) < x1) → cl_wp xs K h0 (d + 3) Q I69 5 [some (cl_rf A 1 x0), some (.int x1), some (.int x2), some (.int y1), some (.int (x4 + 1)), some (.int y1)] [] A N3) ∧ (¬ ((y2 - y3) < x1) → Q (some (.int x3)) A N3))))))))))) :
    cl_wp xs K h0 (d + 3) Q I69 5 [some (cl_rf A 1 x0), some (.int x1), some (.int x2), some (.int x3), some (.int x4), o5] [] A S := by
  refine cl_iload (dd D69_ok 4 rfl) rfl ?_
  refine cl_bipush (v := 60) (dd D69_ok 5 rfl) (by decide) ?_
  refine cl_icmp_ge (tgt := 51) (dd D69_ok 6 rfl) (by decide) (fun c1 => ?_) (fun c1 => ?_)
  · refine cl_iload_n (dd D69_ok 29 rfl) rfl ?_
    exact cl_iret (dd D69_ok 30 rfl) rfl (k.1 c1)
  · refine cl_aload_n (dd D69_ok 7 rfl) rfl ?_
    refine cl_iload_n (dd D69_ok 8 rfl) rfl ?_
    refine cl_call (as := [.int x3]) (rest := []) (v := x0) (dd D69_ok 9 rfl) pl1_72 rfl (Nat.le_of_ble_eq_true rfl) (ms70 xs) rfl (by decide) (k.2 c1).1.l1 (((k.2 c1).2).mono ?_) rfl
    rintro v A N1 ⟨rfl, e1, y1, rfl, w1⟩
    refine cl_istore (dd D69_ok 10 rfl) (Nat.le_of_ble_eq_true rfl) ?_
    refine cl_iload (dd D69_ok 11 rfl) rfl ?_
    refine cl_iload_n (dd D69_ok 12 rfl) rfl ?_
    refine cl_icmp_eq (tgt := 40) (dd D69_ok 13 rfl) (by decide) (fun c2 => ?_) (fun c2 => ?_)
    · refine cl_iload_n (dd D69_ok 23 rfl) rfl ?_
      exact cl_iret (dd D69_ok 24 rfl) rfl (w1.1 c2)
    · refine cl_iload_n (dd D69_ok 14 rfl) rfl ?_
      refine cl_aload_n (dd D69_ok 15 rfl) rfl ?_
      refine cl_iload_n (dd D69_ok 16 rfl) rfl ?_
      refine cl_call (as := [.int x3]) (rest := [.int x1]) (v := x0) (dd D69_ok 17 rfl) pl1_76 rfl (Nat.le_of_ble_eq_true rfl) (ms74 xs) rfl (by decide) ((k.2 c1).1.mv e1).l1 (((w1.2 c2)).mono ?_) rfl
      rintro v A N2 ⟨rfl, e2, y2, rfl, w2⟩
      refine cl_aload_n (dd D69_ok 18 rfl) rfl ?_
      refine cl_iload_n (dd D69_ok 19 rfl) rfl ?_
      refine cl_call (as := [.int x3]) (rest := [.int y2, .int x1]) (v := x0) (dd D69_ok 20 rfl) pl1_79 rfl (Nat.le_of_ble_eq_true rfl) (ms75 xs) rfl (by decide) (((k.2 c1).1.mv e1).mv e2).l1 ((w2).mono ?_) rfl
      rintro v A N3 ⟨rfl, e3, y3, rfl, w3⟩
      refine cl_isub (dd D69_ok 21 rfl) ?_
      refine cl_icmp_gt (tgt := 42) (dd D69_ok 22 rfl) (by decide) (fun c3 => ?_) (fun c3 => ?_)
      · refine cl_iload (dd D69_ok 25 rfl) rfl ?_
        refine cl_istore_n (dd D69_ok 26 rfl) (Nat.le_of_ble_eq_true rfl) ?_
        refine cl_iinc (v := x4 + 1) (dd D69_ok 27 rfl) rfl rfl ?_
        refine cl_goto (tgt := 5) (dd D69_ok 28 rfl) (by decide) ?_
        exact (w3.1 c3)
      · refine cl_iload_n (dd D69_ok 23 rfl) rfl ?_
        exact cl_iret (dd D69_ok 24 rfl) rfl (w3.2 c3)
theorem kk_room1 {xs : List Int32} {K : Nat → Prop} {h0 : am_H} {d : Nat} {Q : Option Value → cl_A → cl_S → Prop} {A : cl_A} {S : cl_S} {M : md_S} {nn : Nat} {ox oy bw w x2 : Int32} {f : Nat} {l : List Nat} {fs : List sp_fl} (hT : cl_T S M nn) (hf : f < 13) (hw : bd w) (hbw : bd bw) (hox : bd ox) (hoy : bd oy) (hc : chn (S.2.1 515) l (S.2.1 102 f)) (hl : fl_L S M ox oy l fs) (hn : ∀ n ∈ l, n < nn) (he0 : S.2.1 100 f = ox) (he1 : S.2.1 101 f = bw + ox) : ∀ (r j : Nat) (y : Int32) (o5 : Option Value), j + r = 60 → bd y → 0 ≤ y → Q (some (.int (sp_rm bw w fs r y + oy))) A S → cl_wp xs K h0 (d + 3) Q I69 5 [some (cl_rf A 1 (nI f)), some (.int w), some (.int x2), some (.int (y + oy)), some (.int (nI j)), o5] [] A S := by
  intro r
  induction r with
  | zero =>
    intro j y o5 hj hy hy0 hQ
    have e60 : (60 : Int32) ≤ nI j := nI_le (a := 60) (by omega) (by omega)
    exact vc69_5 ⟨fun _ => hQ, fun c => absurd e60 c⟩
  | succ r ih =>
    intro j y o5 hj hy hy0 hQ
    have e60 : ¬ (60 : Int32) ≤ nI j := nI_ge (b := 60) (by omega) (by omega)
    refine vc69_5 ⟨fun c => absurd c e60, fun _ => ⟨hT.2.2.1 f hf, ?_⟩⟩
    unfold sp_rm at hQ
    refine kk_least hT hf hy hy0 hoy hc hl hn _ ⟨rfl, rfl, _, rfl, fun c => ?_, fun c => ?_⟩
    · rw [off_eq] at c
      have hl1 : sp_least y fs = -1 := by
        by_cases q : sp_least y fs = -1
        · exact q
        · rw [if_neg q] at c
          have := (sp_least_bd hl q).2
          rw [c] at this
          exact absurd this Int32.lt_irrefl
      rw [if_pos hl1, ite_self] at hQ
      exact hQ
    · rw [off_eq] at c
      have hl1 : ¬ sp_least y fs = -1 := fun q => c (by rw [if_pos q])
      rw [if_neg hl1] at hQ ⊢
      refine kk_right hT hf hy hbw hox hoy hc hl hn he1 _ ⟨rfl, rfl, _, rfl, ?_⟩
      refine kk_left hT hf hy hbw hox hoy hc hl hn he0 _ ⟨rfl, rfl, _, rfl, ?_⟩
      have hb : bd (sp_edges bw y fs).1 ∧ bd (sp_edges bw y fs).2 := bd_edges (y := y) l fs (0, bw) hl bd_0 hbw
      have e : (sp_edges bw y fs).2 + ox - ((sp_edges bw y fs).1 + ox) < w ↔ ¬ (sp_edges bw y fs).1 + w ≤ (sp_edges bw y fs).2 := by
        rw [off_diff, Int32.lt_iff_toInt_lt, Int32.le_iff_toInt_le, off_sub hb.2 hb.1, off_toInt hb.1 hw]
        omega
      refine ⟨fun c1 => ?_, fun c1 => ?_⟩
      · rw [if_neg (e.mp c1)] at hQ
        rw [nI_1]
        have hlb := sp_least_bd hl hl1
        refine ih (j + 1) _ _ (by omega) hlb.1 ?_ hQ
        rw [Int32.le_iff_toInt_le] at hy0 ⊢
        rw [Int32.lt_iff_toInt_lt] at hlb
        omega
      · rw [if_pos (Classical.not_not.mp (fun q => c1 (e.mpr q)))] at hQ
        exact hQ
theorem kk_room {xs : List Int32} {K : Nat → Prop} {d : Nat} {A : cl_A} {S : cl_S} {M : md_S} {nn : Nat} {ox oy bw w y : Int32} {f : Nat} {l : List Nat} {fs : List sp_fl} (hT : cl_T S M nn) (hf : f < 13) (hw : bd w) (hbw : bd bw) (hox : bd ox) (hoy : bd oy) (hc : chn (S.2.1 515) l (S.2.1 102 f)) (hl : fl_L S M ox oy l fs) (hn : ∀ n ∈ l, n < nn) (he0 : S.2.1 100 f = ox) (he1 : S.2.1 101 f = bw + ox) (hy : bd y) (hy0 : 0 ≤ y) (h60 : l.length < 60) : ∀ Q', Q' (some (.int (sp_room bw w fs y + oy))) A S → cl_C xs K (d + 4) 69 [cl_rf A 1 (nI f), .int w, .int (y + oy)] A S Q' := by
  intro Q' hQ
  refine cl_intro (ms69 xs) (Nat.le_of_ble_eq_true rfl) (fun h0 => vc69_0 ?_)
  have hcn := sp_cnt_le y fs
  have hle := fl_L_len hl
  have e : sp_room bw w fs y = sp_rm bw w fs 60 y := by
    unfold sp_room
    rw [sp_rm_enough bw w fs (sp_cnt y fs + 1) 61 y (by omega) (by omega), sp_rm_enough bw w fs (sp_cnt y fs + 1) 60 y (by omega) (by omega)]
  rw [e] at hQ
  exact kk_room1 hT hf hw hbw hox hoy hc hl hn he0 he1 60 0 y none (by omega) hy hy0 hQ
theorem sp_rm_bd {S : cl_S} {M : md_S} {ox oy bw w : Int32} {l : List Nat} {fs : List sp_fl} (hl : fl_L S M ox oy l fs) : ∀ (r : Nat) (y : Int32), bd y → 0 ≤ y → bd (sp_rm bw w fs r y) ∧ 0 ≤ sp_rm bw w fs r y ∧ y ≤ sp_rm bw w fs r y := by
  intro r
  induction r with
  | zero => intro y h1 h2; exact ⟨h1, h2, Int32.le_refl _⟩
  | succ r ih =>
    intro y h1 h2
    unfold sp_rm
    split
    · exact ⟨h1, h2, Int32.le_refl _⟩
    · split
      · exact ⟨h1, h2, Int32.le_refl _⟩
      · next q =>
        have hlb := sp_least_bd hl q
        have h3 := ih _ hlb.1 (by
          rw [Int32.le_iff_toInt_le] at h2 ⊢
          rw [Int32.lt_iff_toInt_lt] at hlb
          omega)
        refine ⟨h3.1, h3.2.1, ?_⟩
        have h4 := h3.2.2
        rw [Int32.le_iff_toInt_le] at h4 ⊢
        rw [Int32.lt_iff_toInt_lt] at hlb
        omega
