/-! the reference: the tree's links; behind, after (by program and hand: wip/whole/gen/m6.py) -/
theorem md_up2_ne (M : md_S) {f g : Nat} (h : g ≠ f) (i : Nat) (v : Int32) : (md_up2 M f i v).2 g = M.2 g := by
  funext j
  simp [md_up2, h]
theorem md_up2_1 (M : md_S) (f i : Nat) (v : Int32) : (md_up2 M f i v).1 = M.1 := rfl
theorem md_up2_at (M : md_S) (f i : Nat) (v : Int32) : (md_up2 M f i v).2 f i = v := by simp [md_up2]
theorem md_up2_off (M : md_S) (f : Nat) {i j : Nat} (h : j ≠ i) (v : Int32) : (md_up2 M f i v).2 f j = M.2 f j := by simp [md_up2, h]
theorem vp_nI {n N : Nat} (h : n < N) (hN : N ≤ 10000) : vp_in (nI n) N := vp_in_nI h (by omega)
theorem nI_ne_m1 {n : Nat} (h : n < 2 ^ 31) : ¬ nI n = -1 := by
  intro e
  have := congrArg Int32.toInt e
  rw [nI_toInt h] at this
  have e2 : (-1 : Int32).toInt = -1 := by decide
  rw [e2] at this
  omega
/-! a forest by first child and next sibling: .branch i kids siblings -/
abbrev bt : Type := Lean.RArray Unit
def bt_hd (b : Int32) : bt → Int32
  | .leaf _ => b
  | .branch i _ _ => nI i
def bt_pre : bt → List Nat
  | .leaf _ => []
  | .branch i k s => i :: (bt_pre k ++ bt_pre s)
/-- the links pa, fk, nx hold this forest below p -/
def bt_R (pa fk nx : Nat → Int32) (p : Int32) : bt → Prop
  | .leaf _ => True
  | .branch i k s => i < 60 ∧ pa i = p ∧ fk i = bt_hd (-1) k ∧ nx i = bt_hd (-1) s ∧ bt_R pa fk nx (nI i) k ∧ bt_R pa fk nx p s
theorem bt_R_mem {pa fk nx : Nat → Int32} : ∀ {t : bt} {p : Int32}, bt_R pa fk nx p t → ∀ i ∈ bt_pre t, i < 60 := by
  intro t
  induction t with
  | leaf u =>
    intro p _ i hi
    cases hi
  | branch j k s ihk ihs =>
    intro p h i hi
    obtain ⟨h1, _, _, _, h5, h6⟩ := h
    simp only [bt_pre, List.mem_cons, List.mem_append] at hi
    rcases hi with rfl | hi | hi
    · exact h1
    · exact ihk h5 i hi
    · exact ihs h6 i hi
theorem bt_hd_m1 {pa fk nx : Nat → Int32} {t : bt} {p : Int32} (h : bt_R pa fk nx p t) {b : Int32} : bt_hd b t = if bt_hd (-1) t = -1 then b else bt_hd (-1) t := by
  cases t with
  | leaf u => rw [if_pos (show bt_hd (-1) (.leaf u) = -1 from rfl)]; rfl
  | branch i k s =>
    have : i < 60 := h.1
    rw [if_neg (show ¬ bt_hd (-1) (.branch i k s) = -1 from nI_ne_m1 (by omega))]
    rfl
/-- climbing from k, the way behind it: r -/
def bh (pa nx : Nat → Int32) (tp : Int32) (k r : Int32) : Prop :=
  ∀ P : Int32 → Int32 → Prop, P tp (-1) → (∀ i, i < 60 → ¬ nI i = tp → ¬ nx i = -1 → P (nI i) (nx i)) → (∀ i r, i < 60 → ¬ nI i = tp → nx i = -1 → P (pa i) r → P (nI i) r) → P k r
theorem bh_top {pa nx : Nat → Int32} {tp : Int32} : bh pa nx tp tp (-1) := fun _ h _ _ => h
theorem bh_nx {pa nx : Nat → Int32} {tp : Int32} {i : Nat} (h1 : i < 60) (h2 : ¬ nI i = tp) (h3 : ¬ nx i = -1) : bh pa nx tp (nI i) (nx i) := fun _ _ h _ => h i h1 h2 h3
theorem bh_up {pa nx : Nat → Int32} {tp r : Int32} {i : Nat} (h1 : i < 60) (h2 : ¬ nI i = tp) (h3 : nx i = -1) (h4 : bh pa nx tp (pa i) r) : bh pa nx tp (nI i) r := fun P a b c => c i r h1 h2 h3 (h4 P a b c)
/-- in a forest with b behind it: what is behind its first -/
theorem bh_sib {pa fk nx : Nat → Int32} {tp b p : Int32} {i : Nat} {k s : bt} (hR : bt_R pa fk nx p (.branch i k s)) (hi : ¬ nI i = tp) (hb : bh pa nx tp p b) : bh pa nx tp (nI i) (bt_hd b s) := by
  obtain ⟨h1, h2, _, h4, _, h6⟩ := hR
  rw [bt_hd_m1 h6]
  by_cases hs : bt_hd (-1) s = -1
  · rw [if_pos hs]
    exact bh_up h1 hi (h4.trans hs) (by rw [h2]; exact hb)
  · rw [if_neg hs, ← h4]
    exact bh_nx h1 hi (by rw [h4]; exact hs)
set_option maxHeartbeats 1000000 in
theorem vc121_0 {xs : List Int32} {mo : Nat} {ad : Nat → Nat} (hD : md_D mo ad) {h0 : am_H} {d : Nat} {Q : Option Value → md_S → Prop} {M : md_S} {x1 : Int32} {x2 : Int32}
    (k : md_wp xs mo ad h0 d Q I121 2 [some (.ref mo), some (.int x1), some (.int x2), some (.int x1)] [] M) :
    md_wp xs mo ad h0 d Q I121 0 [some (.ref mo), some (.int x1), some (.int x2), none] [] M := by
  refine md_iload_n (dd D121_ok 0 rfl) rfl ?_
  refine md_istore_n (dd D121_ok 1 rfl) (Nat.le_of_ble_eq_true rfl) ?_
  exact k
set_option maxHeartbeats 1000000 in
theorem vc121_2 {xs : List Int32} {mo : Nat} {ad : Nat → Nat} (hD : md_D mo ad) {h0 : am_H} {d : Nat} {Q : Option Value → md_S → Prop} {M : md_S} {x1 : Int32} {x2 : Int32} {x3 : Int32}
    (k : ((x3 = x2) → ((¬ x3 = x2) → (vp_in x3 60) ∧ (Q (some (.int (M.2 7 x3.toNatClampNeg))) M)) ∧ (¬ (¬ x3 = x2) → Q (some (.int (-1))) M)) ∧ (¬ (x3 = x2) → (vp_in x3 60) ∧ (((¬ (M.2 7 x3.toNatClampNeg) = (-1)) → ((¬ x3 = x2) → Q (some (.int (M.2 7 x3.toNatClampNeg))) M) ∧ (¬ (¬ x3 = x2) → Q (some (.int (-1))) M)) ∧ (¬ (¬ (M.2 7 x3.toNatClampNeg) = (-1)) → md_wp xs mo ad h0 d Q I121 2 [some (.ref mo), some (.int x1), some (.int x2), some (.int (M.2 4 x3.toNatClampNeg))] [] M)))) :
    md_wp xs mo ad h0 d Q I121 2 [some (.ref mo), some (.int x1), some (.int x2), some (.int x3)] [] M := by
  refine md_iload_n (dd D121_ok 2 rfl) rfl ?_
  refine md_iload_n (dd D121_ok 3 rfl) rfl ?_
  refine md_icmp_eq (tgt := 27) (dd D121_ok 4 rfl) (by decide) (fun c1 => ?_) (fun c1 => ?_)
  · refine md_iload_n (dd D121_ok 17 rfl) rfl ?_
    refine md_iload_n (dd D121_ok 18 rfl) rfl ?_
    refine md_icmp_ne (tgt := 36) (dd D121_ok 19 rfl) (by decide) (fun c2 => ?_) (fun c2 => ?_)
    · refine md_aload0 (dd D121_ok 22 rfl) rfl ?_
      refine md_getA (dd D121_ok 23 rfl) pl9_30 (by decide) rfl ?_
      refine md_iload_n (dd D121_ok 24 rfl) rfl ?_
      refine md_iald (f := 7) (dd D121_ok 25 rfl) rfl ((k.1 c1).1 c2).1 ?_
      exact md_iret (dd D121_ok 26 rfl) rfl ((k.1 c1).1 c2).2
    · refine md_iconst (v := (-1)) (dd D121_ok 20 rfl) (by decide) ?_
      refine md_goto (tgt := 42) (dd D121_ok 21 rfl) (by decide) ?_
      exact md_iret (dd D121_ok 26 rfl) rfl ((k.1 c1).2 c2)
  · refine md_aload0 (dd D121_ok 5 rfl) rfl ?_
    refine md_getA (dd D121_ok 6 rfl) pl9_30 (by decide) rfl ?_
    refine md_iload_n (dd D121_ok 7 rfl) rfl ?_
    refine md_iald (f := 7) (dd D121_ok 8 rfl) rfl (k.2 c1).1 ?_
    refine md_iconst (v := (-1)) (dd D121_ok 9 rfl) (by decide) ?_
    refine md_icmp_ne (tgt := 27) (dd D121_ok 10 rfl) (by decide) (fun c3 => ?_) (fun c3 => ?_)
    · refine md_iload_n (dd D121_ok 17 rfl) rfl ?_
      refine md_iload_n (dd D121_ok 18 rfl) rfl ?_
      refine md_icmp_ne (tgt := 36) (dd D121_ok 19 rfl) (by decide) (fun c4 => ?_) (fun c4 => ?_)
      · refine md_aload0 (dd D121_ok 22 rfl) rfl ?_
        refine md_getA (dd D121_ok 23 rfl) pl9_30 (by decide) rfl ?_
        refine md_iload_n (dd D121_ok 24 rfl) rfl ?_
        refine md_iald (f := 7) (dd D121_ok 25 rfl) rfl (k.2 c1).1 ?_
        exact md_iret (dd D121_ok 26 rfl) rfl (((k.2 c1).2.1 c3).1 c4)
      · refine md_iconst (v := (-1)) (dd D121_ok 20 rfl) (by decide) ?_
        refine md_goto (tgt := 42) (dd D121_ok 21 rfl) (by decide) ?_
        exact md_iret (dd D121_ok 26 rfl) rfl (((k.2 c1).2.1 c3).2 c4)
    · refine md_aload0 (dd D121_ok 11 rfl) rfl ?_
      refine md_getA (dd D121_ok 12 rfl) pl9_21 (by decide) rfl ?_
      refine md_iload_n (dd D121_ok 13 rfl) rfl ?_
      refine md_iald (f := 4) (dd D121_ok 14 rfl) rfl (k.2 c1).1 ?_
      refine md_istore_n (dd D121_ok 15 rfl) (Nat.le_of_ble_eq_true rfl) ?_
      refine md_goto (tgt := 2) (dd D121_ok 16 rfl) (by decide) ?_
      exact ((k.2 c1).2.2 c3)
theorem c_behind {xs : List Int32} {mo : Nat} {ad : Nat → Nat} {d : Nat} {M : md_S} {k tp r : Int32} (hD : md_D mo ad) (hb : bh (M.2 4) (M.2 7) tp k r) : ∀ Q', Q' (some (.int r)) M → md_C xs mo ad (d + 1) 121 [.int k, .int tp] M Q' := by
  intro Q' hQ
  refine md_intro (ms121 xs) (Nat.le_of_ble_eq_true rfl) (fun h0 => vc121_0 hD ?_)
  refine hb (fun k r => ∀ x0 : Int32, Q' (some (.int r)) M → md_wp xs mo ad h0 d Q' I121 2 [some (.ref mo), some (.int x0), some (.int tp), some (.int k)] [] M) ?_ ?_ ?_ k hQ
  · intro x0 hQ
    exact vc121_2 hD ⟨fun _ => ⟨fun q => absurd rfl q, fun _ => hQ⟩, fun q => absurd rfl q⟩
  · intro i hi ht hn x0 hQ
    refine vc121_2 hD ⟨fun q => absurd q ht, fun _ => ⟨vp_nI hi (by decide), ?_⟩⟩
    rw [nI_clamp (by omega)]
    exact ⟨fun _ => ⟨fun _ => hQ, fun q => absurd ht q⟩, fun q => absurd hn q⟩
  · intro i r hi ht hn ih x0 hQ
    refine vc121_2 hD ⟨fun q => absurd q ht, fun _ => ⟨vp_nI hi (by decide), ?_⟩⟩
    rw [nI_clamp (by omega)]
    exact ⟨fun q => absurd hn q, fun _ => ih x0 hQ⟩
set_option maxHeartbeats 1000000 in
theorem vc120_0 {xs : List Int32} {mo : Nat} {ad : Nat → Nat} (hD : md_D mo ad) {h0 : am_H} {d : Nat} {Q : Option Value → md_S → Prop} {M : md_S} {x1 : Int32} {x2 : Int32}
    (k : (vp_in x1 60) ∧ ((((M.2 5 x1.toNatClampNeg) = (-1)) → md_C xs mo ad (d + 1) 121 [.int x1, .int x2] M (fun v N1 => ∃ y1, v = some (.int y1) ∧ (Q (some (.int y1)) N1))) ∧ (¬ ((M.2 5 x1.toNatClampNeg) = (-1)) → Q (some (.int (M.2 5 x1.toNatClampNeg))) M))) :
    md_wp xs mo ad h0 (d + 1) Q I120 0 [some (.ref mo), some (.int x1), some (.int x2)] [] M := by
  refine md_aload0 (dd D120_ok 0 rfl) rfl ?_
  refine md_getA (dd D120_ok 1 rfl) pl9_24 (by decide) rfl ?_
  refine md_iload_n (dd D120_ok 2 rfl) rfl ?_
  refine md_iald (f := 5) (dd D120_ok 3 rfl) rfl k.1 ?_
  refine md_iconst (v := (-1)) (dd D120_ok 4 rfl) (by decide) ?_
  refine md_icmp_eq (tgt := 19) (dd D120_ok 5 rfl) (by decide) (fun c1 => ?_) (fun c1 => ?_)
  · refine md_aload0 (dd D120_ok 11 rfl) rfl ?_
    refine md_iload_n (dd D120_ok 12 rfl) rfl ?_
    refine md_iload_n (dd D120_ok 13 rfl) rfl ?_
    refine md_call (as := [.int x1, .int x2]) (rest := []) (dd D120_ok 14 rfl) pl9_164 rfl (Nat.le_of_ble_eq_true rfl) (ms121 xs) rfl (((k.2.1 c1)).mono ?_) rfl
    rintro v N1 ⟨y1, rfl, w1⟩
    exact md_iret (dd D120_ok 15 rfl) rfl w1
  · refine md_aload0 (dd D120_ok 6 rfl) rfl ?_
    refine md_getA (dd D120_ok 7 rfl) pl9_24 (by decide) rfl ?_
    refine md_iload_n (dd D120_ok 8 rfl) rfl ?_
    refine md_iald (f := 5) (dd D120_ok 9 rfl) rfl k.1 ?_
    refine md_goto (tgt := 25) (dd D120_ok 10 rfl) (by decide) ?_
    exact md_iret (dd D120_ok 15 rfl) rfl (k.2.2 c1)
/-- after a node of the forest: into its children, or behind it -/
theorem c_after {xs : List Int32} {mo : Nat} {ad : Nat → Nat} {d : Nat} {M : md_S} {p b tp : Int32} {i : Nat} {k s : bt} (hD : md_D mo ad) (hR : bt_R (M.2 4) (M.2 5) (M.2 7) p (.branch i k s)) (hb : bh (M.2 4) (M.2 7) tp (nI i) b) : ∀ Q', Q' (some (.int (bt_hd b k))) M → md_C xs mo ad (d + 2) 120 [.int (nI i), .int tp] M Q' := by
  intro Q' hQ
  refine md_intro (ms120 xs) (Nat.le_of_ble_eq_true rfl) (fun h0 => vc120_0 hD ?_)
  obtain ⟨h1, _, h3, _, h5, _⟩ := hR
  refine ⟨vp_nI h1 (by decide), ?_⟩
  rw [nI_clamp (by omega), h3]
  rw [bt_hd_m1 h5] at hQ
  refine ⟨fun q => ?_, fun q => ?_⟩
  · rw [if_pos q] at hQ
    exact c_behind hD hb _ ⟨b, rfl, hQ⟩
  · rw [if_neg q] at hQ
    exact hQ
