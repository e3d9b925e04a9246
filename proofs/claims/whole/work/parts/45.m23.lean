/-! the reference: line, margin (by program and hand: wip/whole/gen/m23.py) -/
set_option maxHeartbeats 1000000 in
theorem vc150_0 {xs : List Int32} {mo : Nat} {ad : Nat → Nat} (hD : md_D mo ad) {h0 : am_H} {d : Nat} {Q : Option Value → md_S → Prop} {M : md_S} {x1 : Int32}
    (k : (((f_there M x1) = 0) → Q (some (.int (-1))) M) ∧ (¬ ((f_there M x1) = 0) → (vp_in x1 60) ∧ ((((M.2 3 x1.toNatClampNeg) = 0) → md_C xs mo ad (d + 6) 130 [.int x1] M (fun v N1 => ∃ y1, v = some (.int y1) ∧ (Q (some (.int y1)) N1))) ∧ (¬ ((M.2 3 x1.toNatClampNeg) = 0) → Q (some (.int (-1))) M)))) :
    md_wp xs mo ad h0 (d + 6) Q I150 0 [some (.ref mo), some (.int x1)] [] M := by
  refine md_aload0 (dd D150_ok 0 rfl) rfl ?_
  refine md_iload_n (dd D150_ok 1 rfl) rfl ?_
  refine md_callI (as := [.int x1]) (rest := []) (dd D150_ok 2 rfl) pl9_156 rfl (Nat.le_of_ble_eq_true rfl) (ms111 xs) rfl (c_f_there hD ) rfl ?_
  refine md_if_eq (tgt := 17) (dd D150_ok 3 rfl) (by decide) (fun c1 => ?_) (fun c1 => ?_)
  · refine md_iconst (v := (-1)) (dd D150_ok 9 rfl) (by decide) ?_
    refine md_goto (tgt := 26) (dd D150_ok 10 rfl) (by decide) ?_
    exact md_iret (dd D150_ok 14 rfl) rfl (k.1 c1)
  · refine md_aload0 (dd D150_ok 4 rfl) rfl ?_
    refine md_getA (dd D150_ok 5 rfl) pl9_17 (by decide) rfl ?_
    refine md_iload_n (dd D150_ok 6 rfl) rfl ?_
    refine md_iald (f := 3) (dd D150_ok 7 rfl) rfl (k.2 c1).1 ?_
    refine md_if_eq (tgt := 21) (dd D150_ok 8 rfl) (by decide) (fun c2 => ?_) (fun c2 => ?_)
    · refine md_aload0 (dd D150_ok 11 rfl) rfl ?_
      refine md_iload_n (dd D150_ok 12 rfl) rfl ?_
      refine md_call (as := [.int x1]) (rest := []) (dd D150_ok 13 rfl) pl9_211 rfl (Nat.le_of_ble_eq_true rfl) (ms130 xs) rfl ((((k.2 c1).2.1 c2)).mono ?_) rfl
      rintro v N1 ⟨y1, rfl, w1⟩
      exact md_iret (dd D150_ok 14 rfl) rfl w1
    · refine md_iconst (v := (-1)) (dd D150_ok 9 rfl) (by decide) ?_
      refine md_goto (tgt := 26) (dd D150_ok 10 rfl) (by decide) ?_
      exact md_iret (dd D150_ok 14 rfl) rfl ((k.2 c1).2.2 c2)
set_option maxHeartbeats 1000000 in
theorem vc151_0 {xs : List Int32} {mo : Nat} {ad : Nat → Nat} (hD : md_D mo ad) {h0 : am_H} {d : Nat} {Q : Option Value → md_S → Prop} {M : md_S} {x1 : Int32} {x2 : Int32}
    (k : (((f_there M x1) = 0) → Q (some (.int (-1))) M) ∧ (¬ ((f_there M x1) = 0) → ((x1 = 0) → Q (some (.int (-1))) M) ∧ (¬ (x1 = 0) → (vp_in x1 60) ∧ (((¬ (f_isBlock M x1) = 0) → md_C xs mo ad (d + 7) 116 [] M (fun v N1 => v = none ∧ ((((x2 = 0) → (vp_in x1 60) ∧ (True)) ∧ (¬ (x2 = 0) → (vp_in x1 60) ∧ (True))) ∧ (∀ s2 : Int32, s2 = (if x2 = 0 then (N1.2 19 x1.toNatClampNeg) else (N1.2 20 x1.toNatClampNeg)) → (Q (some (.int s2)) N1))))) ∧ (¬ (¬ (f_isBlock M x1) = 0) → Q (some (.int (-1))) M))))) :
    md_wp xs mo ad h0 (d + 7) Q I151 0 [some (.ref mo), some (.int x1), some (.int x2)] [] M := by
  refine md_aload0 (dd D151_ok 0 rfl) rfl ?_
  refine md_iload_n (dd D151_ok 1 rfl) rfl ?_
  refine md_callI (as := [.int x1]) (rest := []) (dd D151_ok 2 rfl) pl9_156 rfl (Nat.le_of_ble_eq_true rfl) (ms111 xs) rfl (c_f_there hD ) rfl ?_
  refine md_if_eq (tgt := 20) (dd D151_ok 3 rfl) (by decide) (fun c1 => ?_) (fun c1 => ?_)
  · refine md_iconst (v := (-1)) (dd D151_ok 10 rfl) (by decide) ?_
    exact md_iret (dd D151_ok 11 rfl) rfl (k.1 c1)
  · refine md_iload_n (dd D151_ok 4 rfl) rfl ?_
    refine md_if_eq (tgt := 20) (dd D151_ok 5 rfl) (by decide) (fun c2 => ?_) (fun c2 => ?_)
    · refine md_iconst (v := (-1)) (dd D151_ok 10 rfl) (by decide) ?_
      exact md_iret (dd D151_ok 11 rfl) rfl ((k.2 c1).1 c2)
    · refine md_aload0 (dd D151_ok 6 rfl) rfl ?_
      refine md_iload_n (dd D151_ok 7 rfl) rfl ?_
      refine md_callI (as := [.int x1]) (rest := []) (dd D151_ok 8 rfl) pl9_196 rfl (Nat.le_of_ble_eq_true rfl) (ms124 xs) rfl (c_f_isBlock hD ((k.2 c1).2 c2).1) rfl ?_
      refine md_if_ne (tgt := 22) (dd D151_ok 9 rfl) (by decide) (fun c3 => ?_) (fun c3 => ?_)
      · refine md_aload0 (dd D151_ok 12 rfl) rfl ?_
        refine md_call (as := []) (rest := []) (dd D151_ok 13 rfl) pl9_217 rfl (Nat.le_of_ble_eq_true rfl) (ms116 xs) rfl (((((k.2 c1).2 c2).2.1 c3)).mono ?_) rfl
        rintro v N1 ⟨rfl, w1⟩
        refine md_iload_n (dd D151_ok 14 rfl) rfl ?_
        have J1 : ∀ s2 : Int32, s2 = (if x2 = 0 then (N1.2 19 x1.toNatClampNeg) else (N1.2 20 x1.toNatClampNeg)) → md_wp xs mo ad h0 (d + 7) Q I151 45 [some (.ref mo), some (.int x1), some (.int x2)] [.int s2] N1 := by
          intro s2 e_s2
          exact md_iret (dd D151_ok 25 rfl) rfl (w1.2 s2 e_s2)
        refine md_if_eq (tgt := 39) (dd D151_ok 15 rfl) (by decide) (fun c5 => ?_) (fun c5 => ?_)
        · refine md_aload0 (dd D151_ok 21 rfl) rfl ?_
          refine md_getA (dd D151_ok 22 rfl) pl9_67 (by decide) rfl ?_
          refine md_iload_n (dd D151_ok 23 rfl) rfl ?_
          refine md_iald (f := 19) (dd D151_ok 24 rfl) rfl (w1.1.1 c5).1 ?_
          exact J1 _ (by first | rfl | rw [if_pos c5] | simp only [if_pos c5])
        · refine md_aload0 (dd D151_ok 16 rfl) rfl ?_
          refine md_getA (dd D151_ok 17 rfl) pl9_70 (by decide) rfl ?_
          refine md_iload_n (dd D151_ok 18 rfl) rfl ?_
          refine md_iald (f := 20) (dd D151_ok 19 rfl) rfl (w1.1.2 c5).1 ?_
          refine md_goto (tgt := 45) (dd D151_ok 20 rfl) (by decide) ?_
          exact J1 _ (by first | rfl | rw [if_neg c5] | simp only [if_neg c5])
      · refine md_iconst (v := (-1)) (dd D151_ok 10 rfl) (by decide) ?_
        exact md_iret (dd D151_ok 11 rfl) rfl (((k.2 c1).2 c2).2.2 c3)
/-- the children of node i -/
def bt_kids : bt → Nat → bt
  | .leaf u, _ => .leaf u
  | .branch j k s, i => if j = i then k else if i ∈ bt_pre k then bt_kids k i else bt_kids s i
theorem bt_kids_R {pa fk nx : Nat → Int32} {i : Nat} : ∀ {t : bt} {p : Int32}, bt_R pa fk nx p t → (bt_pre t).Nodup → i ∈ bt_pre t → ∃ p' s', bt_R pa fk nx p' (.branch i (bt_kids t i) s') ∧ i ∉ bt_pre (bt_kids t i) ∧ (∀ x ∈ bt_pre (bt_kids t i), x ∈ bt_pre t) ∧ (bt_pre (bt_kids t i)).Nodup := by
  intro t
  induction t with
  | leaf u => intro p _ _ hi; cases hi
  | branch j k s ihk ihs =>
    intro p hR hn hi
    have hn' := hn
    simp only [bt_pre, List.nodup_cons, List.mem_append, not_or] at hn'
    unfold bt_kids
    by_cases h1 : j = i
    · rw [if_pos h1]
      subst h1
      exact ⟨p, s, hR, hn'.1.1, fun x hx => by simp [bt_pre, hx], (List.nodup_append.mp hn'.2).1⟩
    · rw [if_neg h1]
      by_cases h2 : i ∈ bt_pre k
      · rw [if_pos h2]
        obtain ⟨p', s', r1, r2, r3, r4⟩ := ihk hR.2.2.2.2.1 (List.nodup_append.mp hn'.2).1 h2
        exact ⟨p', s', r1, r2, fun x hx => by simp [bt_pre, r3 x hx], r4⟩
      · rw [if_neg h2]
        have hs : i ∈ bt_pre s := by
          simp only [bt_pre, List.mem_cons, List.mem_append] at hi
          rcases hi with e | e | e
          · exact absurd e.symm h1
          · exact absurd e h2
          · exact e
        obtain ⟨p', s', r1, r2, r3, r4⟩ := ihs hR.2.2.2.2.2 (List.nodup_append.mp hn'.2).2.1 hs
        exact ⟨p', s', r1, r2, fun x hx => by simp [bt_pre, r3 x hx], r4⟩
theorem bt_all_kids {P : Nat → bt → Prop} {i : Nat} : ∀ {t : bt}, bt_all P t → i ∈ bt_pre t → P i (bt_kids t i) := by
  intro t
  induction t with
  | leaf u => intro _ hi; cases hi
  | branch j k s ihk ihs =>
    intro ha hi
    unfold bt_kids
    by_cases h1 : j = i
    · rw [if_pos h1]
      subst h1
      exact ha.1
    · rw [if_neg h1]
      by_cases h2 : i ∈ bt_pre k
      · rw [if_pos h2]
        exact ihk ha.2.1 h2
      · rw [if_neg h2]
        simp only [bt_pre, List.mem_cons, List.mem_append] at hi
        rcases hi with e | e | e
        · exact absurd e.symm h1
        · exact absurd e h2
        · exact ihs ha.2.2 e
abbrev bt_root (K : bt) : bt := .branch 0 K (.leaf ())
/-- the nodes are those of the tree -/
def md_N (M : md_S) (K : bt) (nn : Nat) : Prop := M.1 2 = nI nn ∧ md_T M K nn ∧ ∀ i, i < nn → i ∈ bt_pre (bt_root K)
def f_line_ok (M : md_S) (a : Int32) : Prop := ¬ f_there M a = 0 ∧ M.2 3 a.toNatClampNeg = 0
theorem c_line {xs : List Int32} {mo : Nat} {ad : Nat → Nat} {d : Nat} {M : md_S} {K : bt} {nn : Nat} {a : Int32} (hD : md_D mo ad) (hN : md_N M K nn) (hy : ∀ x ∈ bt_pre (bt_root K), by_ok M x) : ∀ Q', (f_line_ok M a → Q' (some (.int (f_ol M a.toNatClampNeg (bt_kids (bt_root K) a.toNatClampNeg)))) M) → (¬ f_line_ok M a → Q' (some (.int (-1))) M) → md_C xs mo ad (d + 7) 150 [.int a] M Q' := by
  intro Q' hY hQ
  obtain ⟨n1, n2, n3⟩ := hN
  refine md_intro (ms150 xs) (Nat.le_of_ble_eq_true rfl) (fun h0 => vc150_0 hD ?_)
  refine ⟨fun c => hQ (fun o => o.1 c), fun c1 => ?_⟩
  obtain ⟨i, hi, rfl⟩ := f_there_of n1 n2.2.2.2 c1
  have h60 := n2.2.2.2
  refine ⟨vp_nI (by omega) (by decide), fun c2 => ?_, fun c2 => hQ (fun o => c2 o.2)⟩
  have hY := hY ⟨c1, c2⟩
  rw [nI_clamp (by omega)] at hY
  obtain ⟨p', s', r1, r2, r3, r4⟩ := bt_kids_R n2.1 n2.2.1 (n3 i hi)
  refine c_oneLine hD r1 (fun x hx => hy x ?_) r2 _ ⟨_, rfl, hY⟩
  rcases List.mem_cons.mp hx with e | e
  · rw [e]
    exact n3 i hi
  · exact r3 x e
def f_marg_ok (M : md_S) (a : Int32) : Prop := ¬ f_there M a = 0 ∧ ¬ a = 0 ∧ ¬ f_isBlock M a = 0
theorem c_margin {xs : List Int32} {mo : Nat} {ad : Nat → Nat} {d : Nat} {M : md_S} {K : bt} {nn : Nat} {a b : Int32} (hD : md_D mo ad) (hN : md_N M K nn) : ∀ Q', (f_marg_ok M a → ∀ M', mo_F M M' K nn → Q' (some (.int (if b = 0 then M'.2 19 a.toNatClampNeg else M'.2 20 a.toNatClampNeg))) M') → (¬ f_marg_ok M a → Q' (some (.int (-1))) M) → md_C xs mo ad (d + 8) 151 [.int a, .int b] M Q' := by
  intro Q' hY hQ
  obtain ⟨n1, n2, n3⟩ := hN
  refine md_intro (ms151 xs) (Nat.le_of_ble_eq_true rfl) (fun h0 => vc151_0 hD ?_)
  refine ⟨fun c => hQ (fun o => o.1 c), fun c1 => ⟨fun c => hQ (fun o => o.2.1 c), fun c2 => ?_⟩⟩
  obtain ⟨i, hi, rfl⟩ := f_there_of n1 n2.2.2.2 c1
  have h60 := n2.2.2.2
  have hvi : vp_in (nI i) 60 := vp_nI (by omega) (by decide)
  refine ⟨hvi, fun c3 => ?_, fun c3 => hQ (fun o => c3 o.2.2)⟩
  refine c_modes hD n2 _ (fun M' hF => ⟨rfl, ⟨fun _ => ⟨hvi, trivial⟩, fun _ => ⟨hvi, trivial⟩⟩, ?_⟩)
  rintro _ rfl
  exact hY ⟨c1, c2, c3⟩ M' hF
