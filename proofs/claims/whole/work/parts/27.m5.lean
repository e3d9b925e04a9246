/-! the reference: what floats leave of a line (by program and hand: wip/whole/gen/m5.py) -/
set_option maxHeartbeats 1000000 in
theorem vc138_0 {xs : List Int32} {mo : Nat} {ad : Nat → Nat} (hD : md_D mo ad) {h0 : am_H} {d : Nat} {Q : Option Value → md_S → Prop} {M : md_S} {x1 : Int32}
    (k1 : md_wp xs mo ad h0 (d + 1) Q I138 15 [some (.ref mo), some (.int x1), some (.int 0)] [] (md_up1 (md_up1 M 38 0) 39 ((md_up1 M 38 0).1 55))) :
    md_wp xs mo ad h0 (d + 1) Q I138 0 [some (.ref mo), some (.int x1), none] [] M := by
  refine md_aload0 (dd D138_ok 0 rfl) rfl ?_
  refine md_iconst (v := 0) (dd D138_ok 1 rfl) (by decide) ?_
  refine md_putI hD (dd D138_ok 2 rfl) pl9_235 (by decide) rfl rfl rfl ?_
  refine md_aload0 (dd D138_ok 3 rfl) rfl ?_
  refine md_aload0 (dd D138_ok 4 rfl) rfl ?_
  refine md_getI (dd D138_ok 5 rfl) pl9_238 (by decide) rfl ?_
  refine md_putI hD (dd D138_ok 6 rfl) pl9_241 (by decide) rfl rfl rfl ?_
  refine md_iconst (v := 0) (dd D138_ok 7 rfl) (by decide) ?_
  refine md_istore_n (dd D138_ok 8 rfl) (Nat.le_of_ble_eq_true rfl) ?_
  exact k1
set_option maxHeartbeats 1000000 in
theorem vc138_15 {xs : List Int32} {mo : Nat} {ad : Nat → Nat} (hD : md_D mo ad) {h0 : am_H} {d : Nat} {Q : Option Value → md_S → Prop} {M : md_S} {x1 : Int32} {x2 : Int32}
    (k1 : ((M.1 46) ≤ x2) → Q none M)
    (b2 : ¬ ((M.1 46) ≤ x2) → vp_in x2 60)
    (k3 : ¬ ((M.1 46) ≤ x2) → ¬ (f_isFloatAt M x2 x1) = 0 → ¬ (M.2 51 x2.toNatClampNeg) = 1 → md_wp xs mo ad h0 (d + 1) Q I138 15 [some (.ref mo), some (.int x1), some (.int (x2 + 1))] [] (md_up1 M 39 (f_less (M.1 39) (M.2 47 x2.toNatClampNeg))))
    (k4 : ¬ ((M.1 46) ≤ x2) → ¬ (f_isFloatAt M x2 x1) = 0 → ¬ (¬ (M.2 51 x2.toNatClampNeg) = 1) → md_wp xs mo ad h0 (d + 1) Q I138 15 [some (.ref mo), some (.int x1), some (.int (x2 + 1))] [] (md_up1 M 38 (f_more (M.1 38) (M.2 48 x2.toNatClampNeg))))
    (k5 : ¬ ((M.1 46) ≤ x2) → ¬ (¬ (f_isFloatAt M x2 x1) = 0) → md_wp xs mo ad h0 (d + 1) Q I138 15 [some (.ref mo), some (.int x1), some (.int (x2 + 1))] [] M) :
    md_wp xs mo ad h0 (d + 1) Q I138 15 [some (.ref mo), some (.int x1), some (.int x2)] [] M := by
  refine md_iload_n (dd D138_ok 9 rfl) rfl ?_
  refine md_aload0 (dd D138_ok 10 rfl) rfl ?_
  refine md_getI (dd D138_ok 11 rfl) pl9_244 (by decide) rfl ?_
  refine md_icmp_ge (tgt := 88) (dd D138_ok 12 rfl) (by decide) (fun c1 => ?_) (fun c1 => ?_)
  · exact md_vret (dd D138_ok 46 rfl) rfl (k1 c1)
  · refine md_aload0 (dd D138_ok 13 rfl) rfl ?_
    refine md_iload_n (dd D138_ok 14 rfl) rfl ?_
    refine md_iload_n (dd D138_ok 15 rfl) rfl ?_
    refine md_callI (as := [.int x2, .int x1]) (rest := []) (dd D138_ok 16 rfl) pl9_247 rfl (Nat.le_of_ble_eq_true rfl) (ms139 xs) rfl (c_f_isFloatAt hD (b2 c1)) rfl ?_
    refine md_if_ne (tgt := 35) (dd D138_ok 17 rfl) (by decide) (fun c2 => ?_) (fun c2 => ?_)
    · refine md_aload0 (dd D138_ok 19 rfl) rfl ?_
      refine md_getA (dd D138_ok 20 rfl) pl9_133 (by decide) rfl ?_
      refine md_iload_n (dd D138_ok 21 rfl) rfl ?_
      refine md_iald (f := 51) (dd D138_ok 22 rfl) rfl (b2 c1) ?_
      refine md_iconst (v := 1) (dd D138_ok 23 rfl) (by decide) ?_
      refine md_icmp_ne (tgt := 65) (dd D138_ok 24 rfl) (by decide) (fun c3 => ?_) (fun c3 => ?_)
      · refine md_aload0 (dd D138_ok 35 rfl) rfl ?_
        refine md_aload0 (dd D138_ok 36 rfl) rfl ?_
        refine md_getI (dd D138_ok 37 rfl) pl9_241 (by decide) rfl ?_
        refine md_aload0 (dd D138_ok 38 rfl) rfl ?_
        refine md_getA (dd D138_ok 39 rfl) pl9_121 (by decide) rfl ?_
        refine md_iload_n (dd D138_ok 40 rfl) rfl ?_
        refine md_iald (f := 47) (dd D138_ok 41 rfl) rfl (b2 c1) ?_
        refine md_callS (as := [.int (M.1 39), .int (M.2 47 x2.toNatClampNeg)]) (rest := [.ref mo]) (dd D138_ok 42 rfl) pl9_214 rfl (Nat.le_of_ble_eq_true rfl) (c_f_less ) rfl ?_
        refine md_putI hD (dd D138_ok 43 rfl) pl9_241 (by decide) rfl rfl rfl ?_
        refine md_iinc (v := x2 + 1) (dd D138_ok 44 rfl) rfl rfl ?_
        refine md_goto (tgt := 15) (dd D138_ok 45 rfl) (by decide) ?_
        exact (k3 c1 c2 c3)
      · refine md_aload0 (dd D138_ok 25 rfl) rfl ?_
        refine md_aload0 (dd D138_ok 26 rfl) rfl ?_
        refine md_getI (dd D138_ok 27 rfl) pl9_235 (by decide) rfl ?_
        refine md_aload0 (dd D138_ok 28 rfl) rfl ?_
        refine md_getA (dd D138_ok 29 rfl) pl9_124 (by decide) rfl ?_
        refine md_iload_n (dd D138_ok 30 rfl) rfl ?_
        refine md_iald (f := 48) (dd D138_ok 31 rfl) rfl (b2 c1) ?_
        refine md_callS (as := [.int (M.1 38), .int (M.2 48 x2.toNatClampNeg)]) (rest := [.ref mo]) (dd D138_ok 32 rfl) pl9_175 rfl (Nat.le_of_ble_eq_true rfl) (c_f_more ) rfl ?_
        refine md_putI hD (dd D138_ok 33 rfl) pl9_235 (by decide) rfl rfl rfl ?_
        refine md_goto (tgt := 82) (dd D138_ok 34 rfl) (by decide) ?_
        refine md_iinc (v := x2 + 1) (dd D138_ok 44 rfl) rfl rfl ?_
        refine md_goto (tgt := 15) (dd D138_ok 45 rfl) (by decide) ?_
        exact (k4 c1 c2 c3)
    · refine md_goto (tgt := 82) (dd D138_ok 18 rfl) (by decide) ?_
      refine md_iinc (v := x2 + 1) (dd D138_ok 44 rfl) rfl rfl ?_
      refine md_goto (tgt := 15) (dd D138_ok 45 rfl) (by decide) ?_
      exact (k5 c1 c2)
set_option maxHeartbeats 1000000 in
theorem vc140_0 {xs : List Int32} {mo : Nat} {ad : Nat → Nat} (hD : md_D mo ad) {h0 : am_H} {d : Nat} {Q : Option Value → md_S → Prop} {M : md_S} {x1 : Int32}
    (k1 : md_wp xs mo ad h0 (d + 1) Q I140 4 [some (.ref mo), some (.int x1), some (.int (-1)), some (.int 0)] [] M) :
    md_wp xs mo ad h0 (d + 1) Q I140 0 [some (.ref mo), some (.int x1), none, none] [] M := by
  refine md_iconst (v := (-1)) (dd D140_ok 0 rfl) (by decide) ?_
  refine md_istore_n (dd D140_ok 1 rfl) (Nat.le_of_ble_eq_true rfl) ?_
  refine md_iconst (v := 0) (dd D140_ok 2 rfl) (by decide) ?_
  refine md_istore_n (dd D140_ok 3 rfl) (Nat.le_of_ble_eq_true rfl) ?_
  exact k1
set_option maxHeartbeats 1000000 in
theorem vc140_4 {xs : List Int32} {mo : Nat} {ad : Nat → Nat} (hD : md_D mo ad) {h0 : am_H} {d : Nat} {Q : Option Value → md_S → Prop} {M : md_S} {x1 : Int32} {x2 : Int32} {x3 : Int32}
    (k1 : ((M.1 46) ≤ x3) → Q (some (.int x2)) M)
    (b2 : ¬ ((M.1 46) ≤ x3) → vp_in x3 60)
    (k3 : ¬ ((M.1 46) ≤ x3) → ((f_isFloatAt M x3 x1) = 0) → md_wp xs mo ad h0 (d + 1) Q I140 4 [some (.ref mo), some (.int x1), some (.int x2), some (.int (x3 + 1))] [] M)
    (k4 : ¬ ((M.1 46) ≤ x3) → ¬ ((f_isFloatAt M x3 x1) = 0) → (x2 = (-1)) → md_wp xs mo ad h0 (d + 1) Q I140 4 [some (.ref mo), some (.int x1), some (.int (M.2 50 x3.toNatClampNeg)), some (.int (x3 + 1))] [] M)
    (k5 : ¬ ((M.1 46) ≤ x3) → ¬ ((f_isFloatAt M x3 x1) = 0) → ¬ (x2 = (-1)) → (x2 ≤ (M.2 50 x3.toNatClampNeg)) → md_wp xs mo ad h0 (d + 1) Q I140 4 [some (.ref mo), some (.int x1), some (.int x2), some (.int (x3 + 1))] [] M)
    (k6 : ¬ ((M.1 46) ≤ x3) → ¬ ((f_isFloatAt M x3 x1) = 0) → ¬ (x2 = (-1)) → ¬ (x2 ≤ (M.2 50 x3.toNatClampNeg)) → md_wp xs mo ad h0 (d + 1) Q I140 4 [some (.ref mo), some (.int x1), some (.int (M.2 50 x3.toNatClampNeg)), some (.int (x3 + 1))] [] M) :
    md_wp xs mo ad h0 (d + 1) Q I140 4 [some (.ref mo), some (.int x1), some (.int x2), some (.int x3)] [] M := by
  refine md_iload_n (dd D140_ok 4 rfl) rfl ?_
  refine md_aload0 (dd D140_ok 5 rfl) rfl ?_
  refine md_getI (dd D140_ok 6 rfl) pl9_244 (by decide) rfl ?_
  refine md_icmp_ge (tgt := 49) (dd D140_ok 7 rfl) (by decide) (fun c1 => ?_) (fun c1 => ?_)
  · refine md_iload_n (dd D140_ok 29 rfl) rfl ?_
    exact md_iret (dd D140_ok 30 rfl) rfl (k1 c1)
  · refine md_aload0 (dd D140_ok 8 rfl) rfl ?_
    refine md_iload_n (dd D140_ok 9 rfl) rfl ?_
    refine md_iload_n (dd D140_ok 10 rfl) rfl ?_
    refine md_callI (as := [.int x3, .int x1]) (rest := []) (dd D140_ok 11 rfl) pl9_247 rfl (Nat.le_of_ble_eq_true rfl) (ms139 xs) rfl (c_f_isFloatAt hD (b2 c1)) rfl ?_
    refine md_if_eq (tgt := 43) (dd D140_ok 12 rfl) (by decide) (fun c2 => ?_) (fun c2 => ?_)
    · refine md_iinc (v := x3 + 1) (dd D140_ok 27 rfl) rfl rfl ?_
      refine md_goto (tgt := 4) (dd D140_ok 28 rfl) (by decide) ?_
      exact (k3 c1 c2)
    · refine md_iload_n (dd D140_ok 13 rfl) rfl ?_
      refine md_iconst (v := (-1)) (dd D140_ok 14 rfl) (by decide) ?_
      refine md_icmp_eq (tgt := 36) (dd D140_ok 15 rfl) (by decide) (fun c3 => ?_) (fun c3 => ?_)
      · refine md_aload0 (dd D140_ok 22 rfl) rfl ?_
        refine md_getA (dd D140_ok 23 rfl) pl9_130 (by decide) rfl ?_
        refine md_iload_n (dd D140_ok 24 rfl) rfl ?_
        refine md_iald (f := 50) (dd D140_ok 25 rfl) rfl (b2 c1) ?_
        refine md_istore_n (dd D140_ok 26 rfl) (Nat.le_of_ble_eq_true rfl) ?_
        refine md_iinc (v := x3 + 1) (dd D140_ok 27 rfl) rfl rfl ?_
        refine md_goto (tgt := 4) (dd D140_ok 28 rfl) (by decide) ?_
        exact (k4 c1 c2 c3)
      · refine md_aload0 (dd D140_ok 16 rfl) rfl ?_
        refine md_getA (dd D140_ok 17 rfl) pl9_130 (by decide) rfl ?_
        refine md_iload_n (dd D140_ok 18 rfl) rfl ?_
        refine md_iald (f := 50) (dd D140_ok 19 rfl) rfl (b2 c1) ?_
        refine md_iload_n (dd D140_ok 20 rfl) rfl ?_
        refine md_icmp_ge (tgt := 43) (dd D140_ok 21 rfl) (by decide) (fun c4 => ?_) (fun c4 => ?_)
        · refine md_iinc (v := x3 + 1) (dd D140_ok 27 rfl) rfl rfl ?_
          refine md_goto (tgt := 4) (dd D140_ok 28 rfl) (by decide) ?_
          exact (k5 c1 c2 c3 c4)
        · refine md_aload0 (dd D140_ok 22 rfl) rfl ?_
          refine md_getA (dd D140_ok 23 rfl) pl9_130 (by decide) rfl ?_
          refine md_iload_n (dd D140_ok 24 rfl) rfl ?_
          refine md_iald (f := 50) (dd D140_ok 25 rfl) rfl (b2 c1) ?_
          refine md_istore_n (dd D140_ok 26 rfl) (Nat.le_of_ble_eq_true rfl) ?_
          refine md_iinc (v := x3 + 1) (dd D140_ok 27 rfl) rfl rfl ?_
          refine md_goto (tgt := 4) (dd D140_ok 28 rfl) (by decide) ?_
          exact (k6 c1 c2 c3 c4)

theorem md_up1_same (M : md_S) (f : Nat) (a b : Int32) : md_up1 (md_up1 M f a) f b = md_up1 M f b := by
  unfold md_up1
  congr 1
  funext g
  by_cases h : g = f <;> simp [h]
theorem md_up1_comm (M : md_S) {f g : Nat} (hfg : f ≠ g) (a b : Int32) : md_up1 (md_up1 M f a) g b = md_up1 (md_up1 M g b) f a := by
  unfold md_up1
  congr 1
  funext k
  by_cases h1 : k = f
  · subst h1
    simp [hfg]
  · by_cases h2 : k = g
    · subst h2
      simp [Ne.symm hfg]
    · simp [h1, h2]
theorem md_up1_at (M : md_S) (f : Nat) (a : Int32) : (md_up1 M f a).1 f = a := by simp [md_up1]
theorem md_up1_ne (M : md_S) {f g : Nat} (h : g ≠ f) (a : Int32) : (md_up1 M f a).1 g = M.1 g := by simp [md_up1, h]
theorem md_up1_2 (M : md_S) (f : Nat) (a : Int32) : (md_up1 M f a).2 = M.2 := rfl
/-- a float of the block: left, right, top, end, side -/
abbrev sp_fl : Type := Int32 × Int32 × Int32 × Int32 × Int32
def sp_at (f : sp_fl) (y : Int32) : Prop := ¬ y < f.2.2.1 ∧ ¬ f.2.2.2.1 ≤ y
def sp_edge1 (y : Int32) (e : Int32 × Int32) (f : sp_fl) : Int32 × Int32 := if y < f.2.2.1 then e else if f.2.2.2.1 ≤ y then e else if ¬ f.2.2.2.2 = 1 then (e.1, f_less e.2 f.1) else (f_more e.1 f.2.1, e.2)
/-- the edges that are left at y -/
def sp_edges (w y : Int32) (fs : List sp_fl) : Int32 × Int32 := fs.foldl (sp_edge1 y) (0, w)
def sp_least1 (y : Int32) (l : Int32) (f : sp_fl) : Int32 := if y < f.2.2.1 then l else if f.2.2.2.1 ≤ y then l else if l = (-1) then f.2.2.2.1 else if l ≤ f.2.2.2.1 then l else f.2.2.2.1
/-- the least end of those at y, -1 if there is none -/
def sp_least (y : Int32) (fs : List sp_fl) : Int32 := fs.foldl (sp_least1 y) (-1)
def md_flt (M : md_S) (i : Nat) : sp_fl := (M.2 47 i, M.2 48 i, M.2 49 i, M.2 50 i, M.2 51 i)
def md_flts (M : md_S) (n : Nat) : List sp_fl := (List.range n).map (md_flt M)
theorem md_flts_drop {M : md_S} {n i : Nat} (h : i < n) : (md_flts M n).drop i = md_flt M i :: (md_flts M n).drop (i + 1) := by
  rw [List.drop_eq_getElem_cons (by simpa [md_flts] using h)]
  simp [md_flts]
theorem md_flts_end {M : md_S} {n i : Nat} (h : n ≤ i) : (md_flts M n).drop i = [] := by
  apply List.drop_eq_nil_of_le
  simpa [md_flts] using h
/-- edgesAt's loop, from float i on -/
theorem md_edgesAt_loop {xs : List Int32} {mo : Nat} {ad : Nat → Nat} (hD : md_D mo ad) {h0 : am_H} {d : Nat} {Q : Option Value → md_S → Prop} {M : md_S} {y : Int32} {n : Nat} (hn : n ≤ 60) (hf : M.1 46 = nI n) :
    ∀ (k i : Nat) (e : Int32 × Int32), n ≤ i + k → i ≤ n → Q none (md_up1 (md_up1 M 38 (((md_flts M n).drop i).foldl (sp_edge1 y) e).1) 39 (((md_flts M n).drop i).foldl (sp_edge1 y) e).2) →
      md_wp xs mo ad h0 (d + 1) Q I138 15 [some (.ref mo), some (.int y), some (.int (nI i))] [] (md_up1 (md_up1 M 38 e.1) 39 e.2) := by
  intro k
  induction k with
  | zero =>
    intro i e h1 h2 hQ
    rw [md_flts_end (by omega)] at hQ
    have hi : ∀ x, (md_up1 (md_up1 M 38 e.1) 39 e.2).1 46 ≤ nI i ∨ x := fun x => Or.inl (by rw [md_up1_ne _ (by decide), md_up1_ne _ (by decide), hf]; exact nI_le (by omega) (by omega))
    have hc : (md_up1 (md_up1 M 38 e.1) 39 e.2).1 46 ≤ nI i := (hi False).resolve_right id
    exact vc138_15 hD (fun _ => hQ) (fun q => absurd hc q) (fun q => absurd hc q) (fun q => absurd hc q) (fun q => absurd hc q)
  | succ k ih =>
    intro i e h1 h2 hQ
    have h46 : (md_up1 (md_up1 M 38 e.1) 39 e.2).1 46 = nI n := by rw [md_up1_ne _ (by decide), md_up1_ne _ (by decide), hf]
    rcases Nat.lt_or_ge i n with hi | hi
    · have hcl : (nI i).toNatClampNeg = i := nI_clamp (by omega)
      have hnc : ¬ (md_up1 (md_up1 M 38 e.1) 39 e.2).1 46 ≤ nI i := by rw [h46]; exact nI_ge hi (by omega)
      have hstep := fun e' => ih (i + 1) e' (by omega) (by omega)
      rw [md_flts_drop hi, List.foldl_cons] at hQ
      have ef : f_isFloatAt (md_up1 (md_up1 M 38 e.1) 39 e.2) (nI i) y = if y < M.2 49 i then 0 else if M.2 50 i ≤ y then 0 else 1 := by
        unfold f_isFloatAt
        rw [hcl]
        rfl
      refine vc138_15 hD (fun q => absurd q hnc) (fun _ => vp_in_nI (by omega) (by decide)) (fun _ q1 q2 => ?_) (fun _ q1 q2 => ?_) (fun _ q1 => ?_)
      · rw [nI_1, md_up1_same]
        rw [ef] at q1
        rw [hcl] at q2
        have q2 : ¬ M.2 51 i = 1 := q2
        have := hstep (e.1, f_less e.2 (M.2 47 i)) (by
          have : sp_edge1 y e (md_flt M i) = (e.1, f_less e.2 (M.2 47 i)) := by
            unfold sp_edge1 md_flt
            split at q1
            · exact absurd rfl q1
            · next z1 =>
              split at q1
              · exact absurd rfl q1
              · next z2 => rw [if_neg z1, if_neg z2, if_pos q2]
          rw [this] at hQ
          exact hQ)
        rw [md_up1_at, hcl]
        exact this
      · rw [nI_1, md_up1_comm _ (by decide) , md_up1_same]
        rw [ef] at q1
        rw [hcl] at q2
        have q2 : ¬ ¬ M.2 51 i = 1 := q2
        have := hstep (f_more e.1 (M.2 48 i), e.2) (by
          have : sp_edge1 y e (md_flt M i) = (f_more e.1 (M.2 48 i), e.2) := by
            unfold sp_edge1 md_flt
            split at q1
            · exact absurd rfl q1
            · next z1 =>
              split at q1
              · exact absurd rfl q1
              · next z2 => rw [if_neg z1, if_neg z2, if_neg q2]
          rw [this] at hQ
          exact hQ)
        rw [md_up1_ne _ (by decide), md_up1_at, hcl]
        exact this
      · rw [nI_1]
        rw [ef] at q1
        refine hstep e ?_
        have : sp_edge1 y e (md_flt M i) = e := by
          unfold sp_edge1 md_flt
          by_cases z1 : y < M.2 49 i
          · rw [if_pos z1]
          · by_cases z2 : M.2 50 i ≤ y
            · rw [if_neg z1, if_pos z2]
            · rw [if_neg z1, if_neg z2] at q1
              exact absurd (by decide) q1
        rw [this] at hQ
        exact hQ
    · have hi' : i = n := by omega
      subst hi'
      rw [md_flts_end (Nat.le_refl _)] at hQ
      have hc : (md_up1 (md_up1 M 38 e.1) 39 e.2).1 46 ≤ nI i := by rw [h46]; exact nI_le (Nat.le_refl _) (by omega)
      exact vc138_15 hD (fun _ => hQ) (fun q => absurd hc q) (fun q => absurd hc q) (fun q => absurd hc q) (fun q => absurd hc q)
def f_edgesAt_M (M : md_S) (y : Int32) : md_S := md_up1 (md_up1 M 38 (sp_edges (M.1 55) y (md_flts M (M.1 46).toNatClampNeg)).1) 39 (sp_edges (M.1 55) y (md_flts M (M.1 46).toNatClampNeg)).2
theorem c_f_edgesAt {xs : List Int32} {mo : Nat} {ad : Nat → Nat} {d : Nat} {M : md_S} {a : Int32} (hD : md_D mo ad) (hn : vp_in (M.1 46) 61) : ∀ Q', Q' none (f_edgesAt_M M a) → md_C xs mo ad (d + 2) 138 [.int a] M Q' := by
  intro Q' hQ
  obtain ⟨n, h1, h2⟩ := vp_in_of hn (by decide)
  refine md_intro (ms138 xs) (Nat.le_of_ble_eq_true rfl) (fun h0 => vc138_0 hD ?_)
  rw [md_up1_ne _ (by decide)]
  refine md_edgesAt_loop hD (by omega) h2 n 0 (0, M.1 55) (by omega) (Nat.zero_le _) ?_
  unfold f_edgesAt_M sp_edges at hQ
  rw [h2, nI_clamp (by omega)] at hQ
  exact hQ
/-- leastEnd's loop, from float i on -/
theorem md_least_loop {xs : List Int32} {mo : Nat} {ad : Nat → Nat} (hD : md_D mo ad) {h0 : am_H} {d : Nat} {Q : Option Value → md_S → Prop} {M : md_S} {y : Int32} {n : Nat} (hn : n ≤ 60) (hf : M.1 46 = nI n) :
    ∀ (k i : Nat) (e : Int32), n ≤ i + k → i ≤ n → Q (some (.int (((md_flts M n).drop i).foldl (sp_least1 y) e))) M →
      md_wp xs mo ad h0 (d + 1) Q I140 4 [some (.ref mo), some (.int y), some (.int e), some (.int (nI i))] [] M := by
  intro k
  induction k with
  | zero =>
    intro i e h1 h2 hQ
    rw [md_flts_end (by omega)] at hQ
    have hc : M.1 46 ≤ nI i := by rw [hf]; exact nI_le (by omega) (by omega)
    exact vc140_4 hD (fun _ => hQ) (fun q => absurd hc q) (fun q => absurd hc q) (fun q => absurd hc q) (fun q => absurd hc q) (fun q => absurd hc q)
  | succ k ih =>
    intro i e h1 h2 hQ
    rcases Nat.lt_or_ge i n with hi | hi
    · have hcl : (nI i).toNatClampNeg = i := nI_clamp (by omega)
      have hnc : ¬ M.1 46 ≤ nI i := by rw [hf]; exact nI_ge hi (by omega)
      have hstep := fun e' => ih (i + 1) e' (by omega) (by omega)
      rw [md_flts_drop hi, List.foldl_cons] at hQ
      have ef : f_isFloatAt M (nI i) y = if y < M.2 49 i then 0 else if M.2 50 i ≤ y then 0 else 1 := by
        unfold f_isFloatAt
        rw [hcl]
      have key : ¬ f_isFloatAt M (nI i) y = 0 → ¬ y < M.2 49 i ∧ ¬ M.2 50 i ≤ y := by
        intro q
        rw [ef] at q
        by_cases z1 : y < M.2 49 i
        · rw [if_pos z1] at q; exact absurd rfl q
        · by_cases z2 : M.2 50 i ≤ y
          · rw [if_neg z1, if_pos z2] at q; exact absurd rfl q
          · exact ⟨z1, z2⟩
      refine vc140_4 hD (fun q => absurd q hnc) (fun _ => vp_in_nI (by omega) (by decide)) (fun _ q1 => ?_) (fun _ q1 q2 => ?_) (fun _ q1 q2 q3 => ?_) (fun _ q1 q2 q3 => ?_)
      · rw [nI_1]
        refine hstep e ?_
        have : sp_least1 y e (md_flt M i) = e := by
          unfold sp_least1 md_flt
          rw [ef] at q1
          by_cases z1 : y < M.2 49 i
          · rw [if_pos z1]
          · by_cases z2 : M.2 50 i ≤ y
            · rw [if_neg z1, if_pos z2]
            · rw [if_neg z1, if_neg z2] at q1
              exact absurd q1 (by decide)
        rw [this] at hQ
        exact hQ
      · rw [nI_1, hcl]
        refine hstep _ ?_
        have : sp_least1 y e (md_flt M i) = M.2 50 i := by
          obtain ⟨z1, z2⟩ := key q1
          unfold sp_least1 md_flt
          rw [if_neg z1, if_neg z2, if_pos q2]
        rw [this] at hQ
        exact hQ
      · rw [nI_1]
        refine hstep _ ?_
        rw [hcl] at q3
        have : sp_least1 y e (md_flt M i) = e := by
          obtain ⟨z1, z2⟩ := key q1
          unfold sp_least1 md_flt
          rw [if_neg z1, if_neg z2, if_neg q2, if_pos q3]
        rw [this] at hQ
        exact hQ
      · rw [nI_1, hcl]
        refine hstep _ ?_
        rw [hcl] at q3
        have : sp_least1 y e (md_flt M i) = M.2 50 i := by
          obtain ⟨z1, z2⟩ := key q1
          unfold sp_least1 md_flt
          rw [if_neg z1, if_neg z2, if_neg q2, if_neg q3]
        rw [this] at hQ
        exact hQ
    · have hi' : i = n := by omega
      subst hi'
      rw [md_flts_end (Nat.le_refl _)] at hQ
      have hc : M.1 46 ≤ nI i := by rw [hf]; exact nI_le (Nat.le_refl _) (by omega)
      exact vc140_4 hD (fun _ => hQ) (fun q => absurd hc q) (fun q => absurd hc q) (fun q => absurd hc q) (fun q => absurd hc q) (fun q => absurd hc q)
def f_leastEnd (M : md_S) (y : Int32) : Int32 := sp_least y (md_flts M (M.1 46).toNatClampNeg)
theorem c_f_leastEnd {xs : List Int32} {mo : Nat} {ad : Nat → Nat} {d : Nat} {M : md_S} {a : Int32} (hD : md_D mo ad) (hn : vp_in (M.1 46) 61) : ∀ Q', Q' (some (.int (f_leastEnd M a))) M → md_C xs mo ad (d + 2) 140 [.int a] M Q' := by
  intro Q' hQ
  obtain ⟨n, h1, h2⟩ := vp_in_of hn (by decide)
  refine md_intro (ms140 xs) (Nat.le_of_ble_eq_true rfl) (fun h0 => vc140_0 hD ?_)
  refine md_least_loop hD (by omega) h2 n 0 (-1) (by omega) (Nat.zero_le _) ?_
  unfold f_leastEnd sp_least at hQ
  rw [h2, nI_clamp (by omega)] at hQ
  exact hQ
