/-! the class's layer: rules (by program: wip/whole/gen/c2.py) -/
section CLR
variable (xs : List Int32) (K : Nat → Prop)
def cl_wp (h0 : am_H) (d : Nat) (Q : Option Value → cl_A → cl_S → Prop) (I : am_I) (pc : Nat) (ls : List (Option Value)) (st : List Value) (A : cl_A) (S : cl_S) : Prop :=
  ∀ h, cl_R K A S h → cl_Fr K h0 h → am_wp (am_Bx xs) am_nm (am_T (am_Bx xs) am_nm d) (fun v h' => ∃ A' S', cl_R K A' S' h' ∧ cl_Fr K h0 h' ∧ Q v A' S') I (pc, ls, st, h)
/-- a call -/
def cl_C (d mi : Nat) (as : List Value) (A : cl_A) (S : cl_S) (Q : Option Value → cl_A → cl_S → Prop) : Prop :=
  ∀ h, cl_R K A S h → am_T (am_Bx xs) am_nm d mi as h (fun v h' => ∃ A' S', cl_R K A' S' h' ∧ cl_Fr K h h' ∧ Q v A' S')
variable {xs K}
variable {h0 : am_H} {d : Nat} {Q : Option Value → cl_A → cl_S → Prop} {I : am_I} {pc : Nat} {ls : List (Option Value)} {st rest : List Value} {A : cl_A} {S : cl_S}
theorem cl_isR (A : cl_A) (g : Nat) (v : Int32) : am_isR (cl_rf A g v) := by
  unfold cl_rf
  split
  · exact Or.inl rfl
  · exact Or.inr (Or.inl ⟨_, rfl⟩)
theorem cl_C.mono {mi : Nat} {as : List Value} {Q' : Option Value → cl_A → cl_S → Prop} (h : cl_C xs K d mi as A S Q) (hQ : ∀ v A S, Q v A S → Q' v A S) : cl_C xs K d mi as A S Q' := fun hh hR => am_T_mono (fun v h' ⟨A', S', a, b, c⟩ => ⟨A', S', a, b, hQ _ _ _ c⟩) (h hh hR)
theorem cl_intro {mi : Nat} {as : List Value} (hI : (am_Bx xs).2.1 mi = some I) (hl : as.length ≤ I.2.2.1) (hw : ∀ h0, cl_wp xs K h0 d Q I 0 (as.map some ++ List.replicate (I.2.2.1 - as.length) none) [] A S) : cl_C xs K (d + 1) mi as A S Q :=
  fun h hR => ⟨I, hI, hl, hw h h hR cl_Fr.rf⟩
theorem cl_nm (k : ∀ S1, S1 = S → cl_wp xs K h0 d Q I pc ls st A S1) : cl_wp xs K h0 d Q I pc ls st A S := k S rfl
theorem cl_iconst {n : Int} {v : Int32} (hd : decode I.2.1 pc = .ok (.iconst n, 1)) (hv : Int32.ofInt n = v) (k : cl_wp xs K h0 d Q I (pc + 1) ls (.int v :: st) A S) : cl_wp xs K h0 d Q I pc ls (st) A S :=
  fun h hR hF => ax_iconst hd hv (k h hR hF)
theorem cl_bipush {n : Int} {v : Int32} (hd : decode I.2.1 pc = .ok (.bipush n, 2)) (hv : (Int8.ofInt n).toInt32 = v) (k : cl_wp xs K h0 d Q I (pc + 2) ls (.int v :: st) A S) : cl_wp xs K h0 d Q I pc ls (st) A S :=
  fun h hR hF => ax_bipush hd hv (k h hR hF)
theorem cl_sipush {n : Int} {v : Int32} (hd : decode I.2.1 pc = .ok (.sipush n, 3)) (hv : (Int16.ofInt n).toInt32 = v) (k : cl_wp xs K h0 d Q I (pc + 3) ls (.int v :: st) A S) : cl_wp xs K h0 d Q I pc ls (st) A S :=
  fun h hR hF => ax_sipush hd hv (k h hR hF)
theorem cl_iload {i : Nat} {x : Int32} (hd : decode I.2.1 pc = .ok (.iload i, 2)) (hx : ls[i]? = some (some (.int x))) (k : cl_wp xs K h0 d Q I (pc + 2) ls (.int x :: st) A S) : cl_wp xs K h0 d Q I pc ls (st) A S :=
  fun h hR hF => ax_iload hd hx (k h hR hF)
theorem cl_iload_n {i : Fin 4} {x : Int32} (hd : decode I.2.1 pc = .ok (.iload_n i, 1)) (hx : ls[i.val]? = some (some (.int x))) (k : cl_wp xs K h0 d Q I (pc + 1) ls (.int x :: st) A S) : cl_wp xs K h0 d Q I pc ls (st) A S :=
  fun h hR hF => ax_iload_n hd hx (k h hR hF)
theorem cl_aload {i g : Nat} {v : Int32} (hd : decode I.2.1 pc = .ok (.aload i, 2)) (hx : ls[i]? = some (some (cl_rf A g v))) (k : cl_wp xs K h0 d Q I (pc + 2) ls (cl_rf A g v :: st) A S) : cl_wp xs K h0 d Q I pc ls (st) A S :=
  fun h hR hF => ax_aload hd hx (cl_isR _ _ _) (k h hR hF)
theorem cl_aload_n {i : Fin 4} {g : Nat} {v : Int32} (hd : decode I.2.1 pc = .ok (.aload_n i, 1)) (hx : ls[i.val]? = some (some (cl_rf A g v))) (k : cl_wp xs K h0 d Q I (pc + 1) ls (cl_rf A g v :: st) A S) : cl_wp xs K h0 d Q I pc ls (st) A S :=
  fun h hR hF => ax_aload_n hd hx (cl_isR _ _ _) (k h hR hF)
theorem cl_istore {i : Nat} {x : Int32} (hd : decode I.2.1 pc = .ok (.istore i, 2)) (hx : i < ls.length) (k : cl_wp xs K h0 d Q I (pc + 2) (ls.set i (some (.int x))) (st) A S) : cl_wp xs K h0 d Q I pc ls (.int x :: st) A S :=
  fun h hR hF => ax_istore hd hx (k h hR hF)
theorem cl_istore_n {i : Fin 4} {x : Int32} (hd : decode I.2.1 pc = .ok (.istore_n i, 1)) (hx : i.val < ls.length) (k : cl_wp xs K h0 d Q I (pc + 1) (ls.set i.val (some (.int x))) (st) A S) : cl_wp xs K h0 d Q I pc ls (.int x :: st) A S :=
  fun h hR hF => ax_istore_n hd hx (k h hR hF)
theorem cl_astore {i g : Nat} {v : Int32} (hd : decode I.2.1 pc = .ok (.astore i, 2)) (hx : i < ls.length) (k : cl_wp xs K h0 d Q I (pc + 2) (ls.set i (some (cl_rf A g v))) (st) A S) : cl_wp xs K h0 d Q I pc ls (cl_rf A g v :: st) A S :=
  fun h hR hF => ax_astore hd hx (cl_isR _ _ _) (k h hR hF)
theorem cl_astore_n {i : Fin 4} {g : Nat} {v : Int32} (hd : decode I.2.1 pc = .ok (.astore_n i, 1)) (hx : i.val < ls.length) (k : cl_wp xs K h0 d Q I (pc + 1) (ls.set i.val (some (cl_rf A g v))) (st) A S) : cl_wp xs K h0 d Q I pc ls (cl_rf A g v :: st) A S :=
  fun h hR hF => ax_astore_n hd hx (cl_isR _ _ _) (k h hR hF)
theorem cl_iinc {i : Nat} {n : Int} {x v : Int32} (hd : decode I.2.1 pc = .ok (.iinc i n, 3)) (hx : ls[i]? = some (some (.int x))) (hv : x + Int32.ofInt n = v) (k : cl_wp xs K h0 d Q I (pc + 3) (ls.set i (some (.int v))) (st) A S) : cl_wp xs K h0 d Q I pc ls (st) A S :=
  fun h hR hF => ax_iinc hd hx hv (k h hR hF)
theorem cl_iadd {x y : Int32} (hd : decode I.2.1 pc = .ok (.iadd, 1))  (k : cl_wp xs K h0 d Q I (pc + 1) ls (.int (x + y) :: st) A S) : cl_wp xs K h0 d Q I pc ls (.int y :: .int x :: st) A S :=
  fun h hR hF => ax_iadd hd  (k h hR hF)
theorem cl_isub {x y : Int32} (hd : decode I.2.1 pc = .ok (.isub, 1))  (k : cl_wp xs K h0 d Q I (pc + 1) ls (.int (x - y) :: st) A S) : cl_wp xs K h0 d Q I pc ls (.int y :: .int x :: st) A S :=
  fun h hR hF => ax_isub hd  (k h hR hF)
theorem cl_imul {x y : Int32} (hd : decode I.2.1 pc = .ok (.imul, 1))  (k : cl_wp xs K h0 d Q I (pc + 1) ls (.int (x * y) :: st) A S) : cl_wp xs K h0 d Q I pc ls (.int y :: .int x :: st) A S :=
  fun h hR hF => ax_imul hd  (k h hR hF)
theorem cl_iand {x y : Int32} (hd : decode I.2.1 pc = .ok (.iand, 1))  (k : cl_wp xs K h0 d Q I (pc + 1) ls (.int (x &&& y) :: st) A S) : cl_wp xs K h0 d Q I pc ls (.int y :: .int x :: st) A S :=
  fun h hR hF => ax_iand hd  (k h hR hF)
theorem cl_ishr {x y : Int32} (hd : decode I.2.1 pc = .ok (.ishr, 1))  (k : cl_wp xs K h0 d Q I (pc + 1) ls (.int (x >>> (y &&& 31)) :: st) A S) : cl_wp xs K h0 d Q I pc ls (.int y :: .int x :: st) A S :=
  fun h hR hF => ax_ishr hd  (k h hR hF)
theorem cl_iushr {x y : Int32} (hd : decode I.2.1 pc = .ok (.iushr, 1))  (k : cl_wp xs K h0 d Q I (pc + 1) ls (.int ((x.toUInt32 >>> (y.toUInt32 &&& Int32.toUInt32 31)).toInt32) :: st) A S) : cl_wp xs K h0 d Q I pc ls (.int y :: .int x :: st) A S :=
  fun h hR hF => ax_iushr hd  (k h hR hF)
theorem cl_idiv {x y : Int32} (hd : decode I.2.1 pc = .ok (.idiv, 1)) (hy : ¬ y = 0) (k : cl_wp xs K h0 d Q I (pc + 1) ls (.int (x / y) :: st) A S) : cl_wp xs K h0 d Q I pc ls (.int y :: .int x :: st) A S :=
  fun h hR hF => ax_idiv hd hy (k h hR hF)
theorem cl_i2b {x : Int32} (hd : decode I.2.1 pc = .ok (.i2b, 1))  (k : cl_wp xs K h0 d Q I (pc + 1) ls (.int x.toInt8.toInt32 :: st) A S) : cl_wp xs K h0 d Q I pc ls (.int x :: st) A S :=
  fun h hR hF => ax_i2b hd  (k h hR hF)
theorem cl_dup {v : Value} (hd : decode I.2.1 pc = .ok (.dup, 1))  (k : cl_wp xs K h0 d Q I (pc + 1) ls (v :: v :: st) A S) : cl_wp xs K h0 d Q I pc ls (v :: st) A S :=
  fun h hR hF => ax_dup hd  (k h hR hF)
theorem cl_dup_x1 {v w : Value} (hd : decode I.2.1 pc = .ok (.dup_x1, 1))  (k : cl_wp xs K h0 d Q I (pc + 1) ls (v :: w :: v :: st) A S) : cl_wp xs K h0 d Q I pc ls (v :: w :: st) A S :=
  fun h hR hF => ax_dup_x1 hd  (k h hR hF)
theorem cl_dup2 {v w : Value} (hd : decode I.2.1 pc = .ok (.dup2, 1))  (k : cl_wp xs K h0 d Q I (pc + 1) ls (v :: w :: v :: w :: st) A S) : cl_wp xs K h0 d Q I pc ls (v :: w :: st) A S :=
  fun h hR hF => ax_dup2 hd  (k h hR hF)
theorem cl_pop {v : Value} (hd : decode I.2.1 pc = .ok (.pop, 1))  (k : cl_wp xs K h0 d Q I (pc + 1) ls (st) A S) : cl_wp xs K h0 d Q I pc ls (v :: st) A S :=
  fun h hR hF => ax_pop hd  (k h hR hF)
theorem cl_goto {off : Int} {tgt : Nat} (hd : decode I.2.1 pc = .ok (.goto off, 3)) (ht : (pc : Int) + off = (tgt : Int)) (k : cl_wp xs K h0 d Q I (tgt) ls (st) A S) : cl_wp xs K h0 d Q I pc ls (st) A S :=
  fun h hR hF => ax_goto hd ht (k h hR hF)
theorem cl_null {g : Nat} (hd : decode I.2.1 pc = .ok (.aconst_null, 1)) (k : cl_wp xs K h0 d Q I (pc + 1) ls (cl_rf A g (-1) :: st) A S) : cl_wp xs K h0 d Q I pc ls st A S :=
  fun h hR hF => ax_null hd (k h hR hF)
theorem cl_if_eq {x : Int32} {off : Int} {tgt : Nat} (hd : decode I.2.1 pc = .ok (.ifCond .eq off, 3)) (ht : (pc : Int) + off = (tgt : Int)) (k1 : x = 0 → cl_wp xs K h0 d Q I tgt ls st A S) (k2 : ¬ (x = 0) → cl_wp xs K h0 d Q I (pc + 3) ls st A S) : cl_wp xs K h0 d Q I pc ls (.int x :: st) A S :=
  fun h hR hF => ax_if_eq hd ht (fun q => k1 q h hR hF) (fun q => k2 q h hR hF)
theorem cl_icmp_eq {x y : Int32} {off : Int} {tgt : Nat} (hd : decode I.2.1 pc = .ok (.if_icmp .eq off, 3)) (ht : (pc : Int) + off = (tgt : Int)) (k1 : x = y → cl_wp xs K h0 d Q I tgt ls st A S) (k2 : ¬ (x = y) → cl_wp xs K h0 d Q I (pc + 3) ls st A S) : cl_wp xs K h0 d Q I pc ls (.int y :: .int x :: st) A S :=
  fun h hR hF => ax_icmp_eq hd ht (fun q => k1 q h hR hF) (fun q => k2 q h hR hF)
theorem cl_if_ne {x : Int32} {off : Int} {tgt : Nat} (hd : decode I.2.1 pc = .ok (.ifCond .ne off, 3)) (ht : (pc : Int) + off = (tgt : Int)) (k1 : ¬ x = 0 → cl_wp xs K h0 d Q I tgt ls st A S) (k2 : ¬ (¬ x = 0) → cl_wp xs K h0 d Q I (pc + 3) ls st A S) : cl_wp xs K h0 d Q I pc ls (.int x :: st) A S :=
  fun h hR hF => ax_if_ne hd ht (fun q => k1 q h hR hF) (fun q => k2 q h hR hF)
theorem cl_icmp_ne {x y : Int32} {off : Int} {tgt : Nat} (hd : decode I.2.1 pc = .ok (.if_icmp .ne off, 3)) (ht : (pc : Int) + off = (tgt : Int)) (k1 : ¬ x = y → cl_wp xs K h0 d Q I tgt ls st A S) (k2 : ¬ (¬ x = y) → cl_wp xs K h0 d Q I (pc + 3) ls st A S) : cl_wp xs K h0 d Q I pc ls (.int y :: .int x :: st) A S :=
  fun h hR hF => ax_icmp_ne hd ht (fun q => k1 q h hR hF) (fun q => k2 q h hR hF)
theorem cl_if_lt {x : Int32} {off : Int} {tgt : Nat} (hd : decode I.2.1 pc = .ok (.ifCond .lt off, 3)) (ht : (pc : Int) + off = (tgt : Int)) (k1 : x < 0 → cl_wp xs K h0 d Q I tgt ls st A S) (k2 : ¬ (x < 0) → cl_wp xs K h0 d Q I (pc + 3) ls st A S) : cl_wp xs K h0 d Q I pc ls (.int x :: st) A S :=
  fun h hR hF => ax_if_lt hd ht (fun q => k1 q h hR hF) (fun q => k2 q h hR hF)
theorem cl_icmp_lt {x y : Int32} {off : Int} {tgt : Nat} (hd : decode I.2.1 pc = .ok (.if_icmp .lt off, 3)) (ht : (pc : Int) + off = (tgt : Int)) (k1 : x < y → cl_wp xs K h0 d Q I tgt ls st A S) (k2 : ¬ (x < y) → cl_wp xs K h0 d Q I (pc + 3) ls st A S) : cl_wp xs K h0 d Q I pc ls (.int y :: .int x :: st) A S :=
  fun h hR hF => ax_icmp_lt hd ht (fun q => k1 q h hR hF) (fun q => k2 q h hR hF)
theorem cl_if_ge {x : Int32} {off : Int} {tgt : Nat} (hd : decode I.2.1 pc = .ok (.ifCond .ge off, 3)) (ht : (pc : Int) + off = (tgt : Int)) (k1 : 0 ≤ x → cl_wp xs K h0 d Q I tgt ls st A S) (k2 : ¬ (0 ≤ x) → cl_wp xs K h0 d Q I (pc + 3) ls st A S) : cl_wp xs K h0 d Q I pc ls (.int x :: st) A S :=
  fun h hR hF => ax_if_ge hd ht (fun q => k1 q h hR hF) (fun q => k2 q h hR hF)
theorem cl_icmp_ge {x y : Int32} {off : Int} {tgt : Nat} (hd : decode I.2.1 pc = .ok (.if_icmp .ge off, 3)) (ht : (pc : Int) + off = (tgt : Int)) (k1 : y ≤ x → cl_wp xs K h0 d Q I tgt ls st A S) (k2 : ¬ (y ≤ x) → cl_wp xs K h0 d Q I (pc + 3) ls st A S) : cl_wp xs K h0 d Q I pc ls (.int y :: .int x :: st) A S :=
  fun h hR hF => ax_icmp_ge hd ht (fun q => k1 q h hR hF) (fun q => k2 q h hR hF)
theorem cl_if_gt {x : Int32} {off : Int} {tgt : Nat} (hd : decode I.2.1 pc = .ok (.ifCond .gt off, 3)) (ht : (pc : Int) + off = (tgt : Int)) (k1 : 0 < x → cl_wp xs K h0 d Q I tgt ls st A S) (k2 : ¬ (0 < x) → cl_wp xs K h0 d Q I (pc + 3) ls st A S) : cl_wp xs K h0 d Q I pc ls (.int x :: st) A S :=
  fun h hR hF => ax_if_gt hd ht (fun q => k1 q h hR hF) (fun q => k2 q h hR hF)
theorem cl_icmp_gt {x y : Int32} {off : Int} {tgt : Nat} (hd : decode I.2.1 pc = .ok (.if_icmp .gt off, 3)) (ht : (pc : Int) + off = (tgt : Int)) (k1 : y < x → cl_wp xs K h0 d Q I tgt ls st A S) (k2 : ¬ (y < x) → cl_wp xs K h0 d Q I (pc + 3) ls st A S) : cl_wp xs K h0 d Q I pc ls (.int y :: .int x :: st) A S :=
  fun h hR hF => ax_icmp_gt hd ht (fun q => k1 q h hR hF) (fun q => k2 q h hR hF)
theorem cl_if_le {x : Int32} {off : Int} {tgt : Nat} (hd : decode I.2.1 pc = .ok (.ifCond .le off, 3)) (ht : (pc : Int) + off = (tgt : Int)) (k1 : x ≤ 0 → cl_wp xs K h0 d Q I tgt ls st A S) (k2 : ¬ (x ≤ 0) → cl_wp xs K h0 d Q I (pc + 3) ls st A S) : cl_wp xs K h0 d Q I pc ls (.int x :: st) A S :=
  fun h hR hF => ax_if_le hd ht (fun q => k1 q h hR hF) (fun q => k2 q h hR hF)
theorem cl_icmp_le {x y : Int32} {off : Int} {tgt : Nat} (hd : decode I.2.1 pc = .ok (.if_icmp .le off, 3)) (ht : (pc : Int) + off = (tgt : Int)) (k1 : x ≤ y → cl_wp xs K h0 d Q I tgt ls st A S) (k2 : ¬ (x ≤ y) → cl_wp xs K h0 d Q I (pc + 3) ls st A S) : cl_wp xs K h0 d Q I pc ls (.int y :: .int x :: st) A S :=
  fun h hR hF => ax_icmp_le hd ht (fun q => k1 q h hR hF) (fun q => k2 q h hR hF)
theorem cl_rf_null {A : cl_A} {g : Nat} {v : Int32} : cl_rf A g v = .null ↔ v = -1 := by
  unfold cl_rf
  by_cases h : v = -1
  · simp [h]
  · simp [h]
theorem cl_ifnull {g : Nat} {v : Int32} {off : Int} {tgt : Nat} (hd : decode I.2.1 pc = .ok (.ifnull off, 3)) (ht : (pc : Int) + off = (tgt : Int)) (k1 : v = -1 → cl_wp xs K h0 d Q I tgt ls st A S) (k2 : ¬ v = -1 → cl_wp xs K h0 d Q I (pc + 3) ls st A S) : cl_wp xs K h0 d Q I pc ls (cl_rf A g v :: st) A S :=
  fun h hR hF => ax_ifnull hd (cl_isR _ _ _) ht (fun q => k1 (cl_rf_null.mp q) h hR hF) (fun q => k2 (fun e => q (cl_rf_null.mpr e)) h hR hF)
theorem cl_ifnonnull {g : Nat} {v : Int32} {off : Int} {tgt : Nat} (hd : decode I.2.1 pc = .ok (.ifnonnull off, 3)) (ht : (pc : Int) + off = (tgt : Int)) (k1 : ¬ v = -1 → cl_wp xs K h0 d Q I tgt ls st A S) (k2 : ¬ ¬ v = -1 → cl_wp xs K h0 d Q I (pc + 3) ls st A S) : cl_wp xs K h0 d Q I pc ls (cl_rf A g v :: st) A S :=
  fun h hR hF => ax_ifnonnull hd (cl_isR _ _ _) ht (fun q => k1 (fun e => q (cl_rf_null.mpr e)) h hR hF) (fun q => k2 (fun e => q (fun e2 => e (cl_rf_null.mp e2))) h hR hF)
/-- v is an object of family c that lives -/
def cl_lv (S : cl_S) (c : Nat) (v : Int32) : Prop := ¬ v = -1 ∧ S.1 c v.toNatClampNeg
theorem cl_rf_lv {A : cl_A} {S : cl_S} {c : Nat} {v : Int32} (h : cl_lv S c v) : cl_rf A c v = .ref (A c v.toNatClampNeg) := by
  unfold cl_rf
  rw [if_neg h.1]
/-- an int of an object -/
theorem cl_getI {idx t c k : Nat} {v : Int32} (hd : decode I.2.1 pc = .ok (.getfield idx, 3)) (hb : am_pool I.1 idx = (t, c, k)) (ht : t = 1 ∨ t = 2) (hc : c < 20) (hk : k < cl_nf c) (hf : cl_ft c k = (0, 0)) (hl : cl_lv S c v) (kk : cl_wp xs K h0 d Q I (pc + 3) ls (.int (S.2.1 (100 * c + k) v.toNatClampNeg) :: st) A S) : cl_wp xs K h0 d Q I pc ls (cl_rf A c v :: st) A S :=
  fun h hR hF => by
    rw [cl_rf_lv hl]
    have hg := cl_get hR hl.2 hc hk
    unfold cl_fv at hg
    rw [hf] at hg
    exact ax_getf hd hb ht hg (kk h hR hF)
/-- a reference of an object -/
theorem cl_getR {idx t c k g : Nat} {v : Int32} (hd : decode I.2.1 pc = .ok (.getfield idx, 3)) (hb : am_pool I.1 idx = (t, c, k)) (ht : t = 1 ∨ t = 2) (hc : c < 20) (hk : k < cl_nf c) (hf : cl_ft c k = (1, g)) (hl : cl_lv S c v) (kk : cl_wp xs K h0 d Q I (pc + 3) ls (cl_rf A g (S.2.1 (100 * c + k) v.toNatClampNeg) :: st) A S) : cl_wp xs K h0 d Q I pc ls (cl_rf A c v :: st) A S :=
  fun h hR hF => by
    rw [cl_rf_lv hl]
    have hg := cl_get hR hl.2 hc hk
    unfold cl_fv at hg
    rw [hf] at hg
    exact ax_getf hd hb ht hg (kk h hR hF)
/-- an object's own part -/
theorem cl_getO {idx t c k g : Nat} {v : Int32} (hd : decode I.2.1 pc = .ok (.getfield idx, 3)) (hb : am_pool I.1 idx = (t, c, k)) (ht : t = 1 ∨ t = 2) (hc : c < 20) (hk : k < cl_nf c) (hf : cl_ft c k = (2, g)) (hl : cl_lv S c v) (kk : cl_wp xs K h0 d Q I (pc + 3) ls (cl_rf A g v :: st) A S) : cl_wp xs K h0 d Q I pc ls (cl_rf A c v :: st) A S :=
  fun h hR hF => by
    rw [cl_rf_lv hl]
    have hg := cl_get hR hl.2 hc hk
    unfold cl_fv at hg
    rw [hf] at hg
    have hg : am_get h c (A c v.toNatClampNeg) k = some (cl_rf A g v) := by
      rw [hg]
      show some (Value.ref (A g v.toNatClampNeg)) = _
      unfold cl_rf
      rw [if_neg hl.1]
    exact ax_getf hd hb ht hg (kk h hR hF)
theorem cl_putI {idx c k : Nat} {v x : Int32} {ty : FieldType} (hd : decode I.2.1 pc = .ok (.putfield idx, 3)) (hb : am_pool I.1 idx = (1, c, k)) (hc : c < 20) (hk : k < cl_nf c) (hf : cl_ft c k = (0, 0)) (hts : (am_fl c).isSome = true) (hty : ((am_fl c).getD [])[k]? = some (ty, false)) (hfit : am_fit ty (.int x) = true) (hl : cl_lv S c v) (kk : cl_wp xs K h0 d Q I (pc + 3) ls st A (cl_up S (100 * c + k) v.toNatClampNeg x)) : cl_wp xs K h0 d Q I pc ls (.int x :: cl_rf A c v :: st) A S :=
  fun h hR hF => by
    rw [cl_rf_lv hl]
    obtain ⟨ts, hts⟩ := Option.isSome_iff_exists.mp hts
    rw [hts] at hty
    have hp := hR.put hl.2 hc hk x
    rw [hf] at hp
    exact ax_putf hd hb (cl_get hR hl.2 hc hk) hts hty hfit (fun q => Bool.noConfusion q) (kk _ hp.1 (hF.tr hp.2))
theorem cl_putR {idx c k g : Nat} {v x : Int32} {ty : FieldType} (hd : decode I.2.1 pc = .ok (.putfield idx, 3)) (hb : am_pool I.1 idx = (1, c, k)) (hc : c < 20) (hk : k < cl_nf c) (hf : cl_ft c k = (1, g)) (hts : (am_fl c).isSome = true) (hty : ((am_fl c).getD [])[k]? = some (ty, false)) (hob : ∃ C, ty = .object C) (hl : cl_lv S c v) (kk : cl_wp xs K h0 d Q I (pc + 3) ls st A (cl_up S (100 * c + k) v.toNatClampNeg x)) : cl_wp xs K h0 d Q I pc ls (cl_rf A g x :: cl_rf A c v :: st) A S :=
  fun h hR hF => by
    rw [cl_rf_lv hl]
    obtain ⟨ts, hts⟩ := Option.isSome_iff_exists.mp hts
    rw [hts] at hty
    obtain ⟨C, rfl⟩ := hob
    have hp := hR.put hl.2 hc hk x
    rw [hf] at hp
    have hfit : am_fit (.object C) (cl_rf A g x) = true := by
      unfold cl_rf
      split <;> rfl
    exact ax_putf hd hb (cl_get hR hl.2 hc hk) hts hty hfit (fun q => Bool.noConfusion q) (kk _ hp.1 (hF.tr hp.2))
theorem cl_iret {x : Int32} (hd : decode I.2.1 pc = .ok (.ireturn, 1)) (ha : am_ans I.2.2.2.1 (some (.int x)) = true) (hQ : Q (some (.int x)) A S) : cl_wp xs K h0 d Q I pc ls [.int x] A S :=
  fun h hR hF => ax_iret hd ha ⟨A, S, hR, hF, hQ⟩
theorem cl_vret (hd : decode I.2.1 pc = .ok (.return_, 1)) (ha : am_ans I.2.2.2.1 none = true) (hQ : Q none A S) : cl_wp xs K h0 d Q I pc ls [] A S :=
  fun h hR hF => ax_vret hd ha ⟨A, S, hR, hF, hQ⟩
end CLR
