/-! the class: waiting floats, the end of a line (by hand: wip/whole/gen/c15.py) -/
/-- a box and all in it is placed -/
def plB (P : md_S) (W : Nat) (S : cl_S) (M : md_S) (ox oy : Int32) (q : Nat × bt) : Prop := S.2.1 0 q.1 = M.2 15 q.1 + ox ∧ S.2.1 1 q.1 = M.2 16 q.1 + oy ∧ S.2.1 2 q.1 = P.2 17 q.1 ∧ S.2.1 3 q.1 = P.2 18 q.1 ∧ S.2.1 511 q.1 = 1 ∧ lo_F P W S q.2 (M.2 15 q.1 + ox + f_edges P (nI q.1)) (M.2 16 q.1 + oy + f_edges P (nI q.1))
theorem plB.mv {P M M' : md_S} {W e : Nat} {S S' : cl_S} {ox oy : Int32} {q : Nat × bt} {T T5 : List Nat} (h : plB P W S M ox oy q) (hF : FR P W T T5 e S S') (hd : ∀ x ∈ q.1 :: bt_pre q.2, x ∉ T) (h60 : ∀ x ∈ q.1 :: bt_pre q.2, x < 60) (hT60 : ∀ x ∈ T, x < 60) (h15 : M'.2 15 q.1 = M.2 15 q.1) (h16 : M'.2 16 q.1 = M.2 16 q.1) : plB P W S' M' ox oy q := by
  obtain ⟨a0, a1, a2, a3, a4, a5⟩ := h
  have hn : ¬ inT P W T q.1 := by
    rintro (r | ⟨w, m, r1, _⟩)
    · exact hd q.1 (by simp) r
    · have := h60 q.1 (by simp); omega
  unfold plB
  rw [h15, h16, hF.2.1 _ hn 0 (by decide), hF.2.1 _ hn 1 (by decide), hF.2.1 _ hn 2 (by decide), hF.2.1 _ hn 3 (by decide), hF.2.2.2.1 q.1 (fun r => hd q.1 (by simp) r.1)]
  exact ⟨a0, a1, a2, a3, a4, lo_F.fr hF (fun x hx => hd x (by simp [hx])) (fun x hx => h60 x (by simp [hx])) hT60 a5⟩
abbrev sub (q : Nat × bt) : List Nat := q.1 :: bt_pre q.2
def csq (P : md_S) (l : List (Nat × bt)) : Nat := (l.map (fun q => cs P q.1 q.2)).sum
/-- a float that may be put -/
def flt_ok (xs : List Int32) (K : Nat → Prop) (A : cl_A) (P : md_S) (nn W i f D : Nat) (T : List Nat) (q : Nat × bt) : Prop := chd P nn i f q.1 q.2 ∧ ¬ P.2 13 q.1 = 0 ∧ (f_of P (nI q.1) 1 = 1 ∨ f_of P (nI q.1) 1 = 2) ∧ LE xs K A P nn W q.1 q.2 ∧ 31 + 12 * bt_ht q.2 ≤ D ∧ q.1 ∈ T
/-- floats put one after the other -/
def gw (M : md_S) (ns : List Nat) : md_S := ns.foldl (fun N n => f_putFloat_M N (N.1 46).toNatClampNeg n) M
theorem gw_cons (M : md_S) (n : Nat) (ns : List Nat) : gw M (n :: ns) = gw (f_putFloat_M M (M.1 46).toNatClampNeg n) ns := by
  unfold gw
  rw [List.foldl_cons]
theorem fold_rng {α : Type} (F : α → Nat → α) (g : α → Nat → Nat) (hg : ∀ N n k, g (F N n) k = g N k) : ∀ (ns : List Nat) (M : α) (j : Nat), (∀ k n, ns[k]? = some n → g M (j + k) = n) → (List.range' j ns.length).foldl (fun N k => F N (g N k)) M = ns.foldl F M := by
  intro ns
  induction ns with
  | nil => intro M j _; rfl
  | cons n ns ih =>
    intro M j h
    have h1 : g M j = n := h 0 n rfl
    rw [List.length_cons, List.range'_succ, List.foldl_cons, List.foldl_cons, h1]
    refine ih (F M n) (j + 1) (fun k m hk => ?_)
    rw [hg, show j + 1 + k = j + (k + 1) by omega]
    exact h (k + 1) m hk
theorem pf_52 (M : md_S) (c n k : Nat) : ((f_putFloat_M M c n).2 52 k).toNatClampNeg = (M.2 52 k).toNatClampNeg := by rw [pf_2 M c n (a := 52) (by decide)]
theorem elW_gw (ns : List Nat) (M : md_S) (h60 : ∀ n ∈ ns, n < 60) (h : ∀ k n, ns[k]? = some n → M.2 52 k = nI n) : f_elW M ns.length = gw M ns := by
  unfold f_elW gw
  rw [List.range_eq_range']
  exact fold_rng (fun N n => f_putFloat_M N (N.1 46).toNatClampNeg n) (fun N k => (N.2 52 k).toNatClampNeg) (fun N n k => pf_52 N _ n k) ns M 0 (fun k n hk => by
    have hn := h60 n (List.mem_of_getElem? hk)
    rw [Nat.zero_add, h k n hk, nI_clamp (by omega)])
theorem gw_1 {g : Nat} (hg : g ∉ [38, 39, 46]) : ∀ (ns : List Nat) (M : md_S), (gw M ns).1 g = M.1 g := by
  intro ns
  induction ns with
  | nil => intro M; rfl
  | cons n ns ih =>
    intro M
    rw [gw_cons, ih, pf_1 _ _ _ hg]
theorem gw_2 {a : Nat} (ha : a ∉ [15, 16, 47, 48, 49, 50, 51]) : ∀ (ns : List Nat) (M : md_S), (gw M ns).2 a = M.2 a := by
  intro ns
  induction ns with
  | nil => intro M; rfl
  | cons n ns ih =>
    intro M
    rw [gw_cons, ih, pf_2 _ _ _ ha]
theorem gw_15 {j : Nat} : ∀ (ns : List Nat) (M : md_S), j ∉ ns → (gw M ns).2 15 j = M.2 15 j ∧ (gw M ns).2 16 j = M.2 16 j := by
  intro ns
  induction ns with
  | nil => intro M _; exact ⟨rfl, rfl⟩
  | cons n ns ih =>
    intro M hj
    rw [List.mem_cons, not_or] at hj
    have := ih (f_putFloat_M M (M.1 46).toNatClampNeg n) hj.2
    rw [← gw_cons] at this
    rw [(pf_15o M _ n hj.1).1, (pf_15o M _ n hj.1).2] at this
    exact this
theorem si_st.x {P M M' : md_S} {T : List Nat} (h : si_st P M T) (hx : ∀ a, a ∉ X_C → M'.2 a = M.2 a) (h18 : M'.2 18 = M.2 18) : si_st P M' T := ⟨fun a ha => (hx a ha).trans (h.1 a ha), fun n hn => by rw [h18]; exact h.2 n hn⟩
theorem si_fw.mv {S S' : cl_S} {P M M' : md_S} {i f : Nat} {ox oy : Int32} (h : si_fw S P M i f ox oy) (hs : ∀ g, g ∈ [200, 201, 202, 203, 100, 101] → S'.2.1 g f = S.2.1 g f) (h55 : M'.1 55 = M.1 55) (h43 : M'.1 43 = M.1 43) : si_fw S' P M' i f ox oy := by
  unfold si_fw
  rw [hs 200 (by decide), hs 201 (by decide), hs 202 (by decide), hs 203 (by decide), hs 100 (by decide), hs 101 (by decide), h55, h43]
  exact h
set_option maxHeartbeats 1000000 in
theorem vc86_0 {xs : List Int32} {K : Nat → Prop} {h0 : am_H} {d : Nat} {Q : Option Value → cl_A → cl_S → Prop} {A : cl_A} {S : cl_S} {x0 : Int32}
    (k : (cl_f S x0) ∧ (Q (some (cl_rf A 5 (S.2.1 207 x0.toNatClampNeg))) A (cl_up (cl_up S 207 x0.toNatClampNeg (-1)) 208 x0.toNatClampNeg (-1)))) :
    cl_wp xs K h0 d Q I86 0 [some (cl_rf A 2 x0), none] [] A S := by
  refine cl_aload_n (dd D86_ok 0 rfl) rfl ?_
  refine cl_gR (g := 207) (f := 5) (e := S.2.1 207 x0.toNatClampNeg) (dd D86_ok 1 rfl) pl2_72 (by decide) (by decide) (by decide) rfl rfl k.1.l2 rfl ?_
  refine cl_astore_n (dd D86_ok 2 rfl) (Nat.le_of_ble_eq_true rfl) ?_
  refine cl_aload_n (dd D86_ok 3 rfl) rfl ?_
  refine cl_null (g := 5) (dd D86_ok 4 rfl) ?_
  refine cl_pR (g := 207) (f := 5) (dd D86_ok 5 rfl) pl2_72 (by decide) (by decide) rfl rfl rfl ⟨_, rfl⟩ rfl k.1.l2 ?_
  refine cl_aload_n (dd D86_ok 6 rfl) rfl ?_
  refine cl_null (g := 5) (dd D86_ok 7 rfl) ?_
  refine cl_pR (g := 208) (f := 5) (dd D86_ok 8 rfl) pl2_75 (by decide) (by decide) rfl rfl rfl ⟨_, rfl⟩ rfl k.1.l2 ?_
  refine cl_aload_n (dd D86_ok 9 rfl) rfl ?_
  exact cl_aret (dd D86_ok 10 rfl) ⟨_, rfl⟩ k.2
set_option maxHeartbeats 1000000 in
theorem vc83_0 {xs : List Int32} {K : Nat → Prop} {h0 : am_H} {d : Nat} {Q : Option Value → cl_A → cl_S → Prop} {A : cl_A} {S : cl_S} {x1 : Int32}
    (k : (cl_f S x1) ∧ ((((g_empty S x1) = 0) → (cl_n S (S.2.1 200 x1.toNatClampNeg)) ∧ (cl_C xs K (d + 2) 84 [cl_rf A 4 x1, .int (S.2.1 204 x1.toNatClampNeg), .int (S.2.1 2200 (9 * (S.2.1 200 x1.toNatClampNeg).toNatClampNeg + 7))] A S (fun v A' N1 => A' = A ∧ N1.1 = S.1 ∧ ∃ y1, v = some (.int y1) ∧ (cl_C xs K (d + 2) 86 [cl_rf A 2 x1] A (cl_up (cl_up (cl_up (cl_up N1 204 x1.toNatClampNeg ((S.2.1 204 x1.toNatClampNeg) + y1)) 400 x1.toNatClampNeg (-1)) 401 x1.toNatClampNeg (-1)) 404 x1.toNatClampNeg 0) (fun v A' N2 => A' = A ∧ N2.1 = N1.1 ∧ ∃ y2, v = some (cl_rf A 5 y2) ∧ (cl_wp xs K h0 (d + 2) Q I83 53 [some (cl_rf A 3 0), some (cl_rf A 2 x1), some (cl_rf A 5 y2), none] [] A N2)))))) ∧ (¬ ((g_empty S x1) = 0) → Q none A S))) :
    cl_wp xs K h0 (d + 2) Q I83 0 [some (cl_rf A 3 0), some (cl_rf A 2 x1), none, none] [] A S := by
  refine cl_aload_n (dd D83_ok 0 rfl) rfl ?_
  refine cl_getO (g := 4) (dd D83_ok 1 rfl) pl3_242 (by decide) (by decide) (by decide) rfl k.1.l2 ?_
  refine cl_callP (r := .int (g_empty S x1)) (as := []) (rest := []) (v := x1) (dd D83_ok 2 rfl) pl3_246 rfl (Nat.le_of_ble_eq_true rfl) (ms67 xs) rfl (by decide) k.1.l4 (cc_g_empty (S := S) k.1) rfl ?_
  refine cl_if_eq (tgt := 11) (dd D83_ok 3 rfl) (by decide) (fun c1 => ?_) (fun c1 => ?_)
  · refine cl_aload_n (dd D83_ok 5 rfl) rfl ?_
    refine cl_dup (dd D83_ok 6 rfl) ?_
    refine cl_gI (g := 204) (e := S.2.1 204 x1.toNatClampNeg) (dd D83_ok 7 rfl) pl3_229 (by decide) (by decide) (by decide) rfl rfl k.1.l2 rfl ?_
    refine cl_aload_n (dd D83_ok 8 rfl) rfl ?_
    refine cl_getO (g := 4) (dd D83_ok 9 rfl) pl3_242 (by decide) (by decide) (by decide) rfl k.1.l2 ?_
    refine cl_aload_n (dd D83_ok 10 rfl) rfl ?_
    refine cl_gI (g := 204) (e := S.2.1 204 x1.toNatClampNeg) (dd D83_ok 11 rfl) pl3_229 (by decide) (by decide) (by decide) rfl rfl k.1.l2 rfl ?_
    refine cl_aload_n (dd D83_ok 12 rfl) rfl ?_
    refine cl_gR (g := 200) (f := 5) (e := S.2.1 200 x1.toNatClampNeg) (dd D83_ok 13 rfl) pl3_167 (by decide) (by decide) (by decide) rfl rfl k.1.l2 rfl ?_
    refine cl_getO (g := 22) (dd D83_ok 14 rfl) pl3_46 (by decide) (by decide) (by decide) rfl (k.2.1 c1).1.l5 ?_
    refine cl_bipush (v := 7) (dd D83_ok 15 rfl) (by decide) ?_
    refine cl_hs (q := 7) (e := S.2.1 2200 (9 * (S.2.1 200 x1.toNatClampNeg).toNatClampNeg + 7)) (dd D83_ok 16 rfl) (k.2.1 c1).1.l22 (md_vl (by decide)) (by decide) rfl ?_
    refine cl_call (as := [.int (S.2.1 204 x1.toNatClampNeg), .int (S.2.1 2200 (9 * (S.2.1 200 x1.toNatClampNeg).toNatClampNeg + 7))]) (rest := [.int (S.2.1 204 x1.toNatClampNeg), cl_rf A 2 x1]) (v := x1) (dd D83_ok 17 rfl) pl3_308 rfl (Nat.le_of_ble_eq_true rfl) (ms84 xs) rfl (by decide) k.1.l4 (((k.2.1 c1).2).mono ?_) rfl
    rintro v A N1 ⟨rfl, e1, y1, rfl, w1⟩
    refine cl_iadd (dd D83_ok 18 rfl) ?_
    refine cl_pI (g := 204) (dd D83_ok 19 rfl) pl3_229 (by decide) (by decide) rfl rfl rfl rfl rfl (k.1.mv e1).l2 ?_
    refine cl_aload_n (dd D83_ok 20 rfl) rfl ?_
    refine cl_getO (g := 4) (dd D83_ok 21 rfl) pl3_242 (by decide) (by decide) (by decide) rfl (k.1.mv e1).l2 ?_
    refine cl_callU (as := []) (rest := []) (v := x1) (dd D83_ok 22 rfl) pl3_311 rfl (Nat.le_of_ble_eq_true rfl) (ms55 xs) rfl (by decide) (k.1.mv e1).l4 (cc_drop (S := cl_up N1 204 x1.toNatClampNeg ((S.2.1 204 x1.toNatClampNeg) + y1)) (k.1.mv e1)) rfl ?_
    refine cl_aload_n (dd D83_ok 23 rfl) rfl ?_
    refine cl_call (as := []) (rest := []) (v := x1) (dd D83_ok 24 rfl) pl3_314 rfl (Nat.le_of_ble_eq_true rfl) (ms86 xs) rfl (by decide) (k.1.mv e1).l2 ((w1).mono ?_) rfl
    rintro v A N2 ⟨rfl, e2, y2, rfl, w2⟩
    refine cl_astore_n (dd D83_ok 25 rfl) (Nat.le_of_ble_eq_true rfl) ?_
    exact w2
  · exact cl_vret (dd D83_ok 4 rfl) rfl (k.2.2 c1)
set_option maxHeartbeats 1000000 in
theorem vc83_53 {xs : List Int32} {K : Nat → Prop} {h0 : am_H} {d : Nat} {Q : Option Value → cl_A → cl_S → Prop} {A : cl_A} {S : cl_S} {x1 : Int32} {x2 : Int32} {o3 : Option Value}
    (k : ((x2 = -1) → Q none A S) ∧ (¬ (x2 = -1) → (cl_n S x2) ∧ ((cl_z S) ∧ (cl_C xs K (d + 2) 68 [cl_rf A 3 0, cl_rf A 2 x1, cl_rf A 5 x2] A S (fun v A' N1 => A' = A ∧ N1.1 = S.1 ∧ v = none ∧ (cl_wp xs K h0 (d + 2) Q I83 53 [some (cl_rf A 3 0), some (cl_rf A 2 x1), some (cl_rf A 5 (S.2.1 515 x2.toNatClampNeg)), some (cl_rf A 5 (S.2.1 515 x2.toNatClampNeg))] [] A N1)))))) :
    cl_wp xs K h0 (d + 2) Q I83 53 [some (cl_rf A 3 0), some (cl_rf A 2 x1), some (cl_rf A 5 x2), o3] [] A S := by
  refine cl_aload_n (dd D83_ok 26 rfl) rfl ?_
  refine cl_ifnull (tgt := 73) (dd D83_ok 27 rfl) (by decide) (fun c1 => ?_) (fun c1 => ?_)
  · exact cl_vret (dd D83_ok 38 rfl) rfl (k.1 c1)
  · refine cl_aload_n (dd D83_ok 28 rfl) rfl ?_
    refine cl_gR (g := 515) (f := 5) (e := S.2.1 515 x2.toNatClampNeg) (dd D83_ok 29 rfl) pl3_318 (by decide) (by decide) (by decide) rfl rfl (k.2 c1).1.l5 rfl ?_
    refine cl_astore_n (dd D83_ok 30 rfl) (Nat.le_of_ble_eq_true rfl) ?_
    refine cl_aload_n (dd D83_ok 31 rfl) rfl ?_
    refine cl_aload_n (dd D83_ok 32 rfl) rfl ?_
    refine cl_aload_n (dd D83_ok 33 rfl) rfl ?_
    refine cl_call (as := [cl_rf A 2 x1, cl_rf A 5 x2]) (rest := []) (v := 0) (dd D83_ok 34 rfl) pl3_252 rfl (Nat.le_of_ble_eq_true rfl) (ms68 xs) rfl (by decide) (k.2 c1).2.1.l3 (((k.2 c1).2.2).mono ?_) rfl
    rintro v A N1 ⟨rfl, e1, rfl, w1⟩
    refine cl_aload_n (dd D83_ok 35 rfl) rfl ?_
    refine cl_astore_n (dd D83_ok 36 rfl) (Nat.le_of_ble_eq_true rfl) ?_
    refine cl_goto (tgt := 53) (dd D83_ok 37 rfl) (by decide) ?_
    exact w1
theorem kk_release {xs : List Int32} {K : Nat → Prop} {d : Nat} {A : cl_A} {S : cl_S} {f : Nat} (hf : cl_f S (nI f)) (hf13 : f < 13) : ∀ Q', Q' (some (cl_rf A 5 (S.2.1 207 f))) A (cl_up (cl_up S 207 f (-1)) 208 f (-1)) → cl_C xs K (d + 1) 86 [cl_rf A 2 (nI f)] A S Q' := by
  intro Q' hQ
  refine cl_intro (ms86 xs) (Nat.le_of_ble_eq_true rfl) (fun h0 => vc86_0 ⟨hf, ?_⟩)
  rw [nI_clamp (by omega)]
  exact hQ
/-- the floats that waited are put -/
theorem kk_waits {xs : List Int32} {K : Nat → Prop} {h0 : am_H} {Q : Option Value → cl_A → cl_S → Prop} {A : cl_A} {P : md_S} {nn W i f d : Nat} {ox oy : Int32} {T : List Nat} (hSP : SP P nn W) (hib : f_boxy P i) (hi : i < nn) (hf13 : f < 13) (hox : nb ((f + 1) * 67108864 + 59) ox) (hoy : nb ((f + 1) * 67108864 + 59) oy) : ∀ (wl : List (Nat × bt)) (l : List Nat) (S : cl_S) (M : md_S) (B : Nat) (x2 : Int32) (o3 : Option Value), la_T S P nn W → si_st P M T → si_fw S P M i f ox oy → si_fl S P M f ox oy l B → l.length + wl.length < 60 → (∀ m ∈ l, m < nn) → l.Nodup → chn (S.2.1 515) (wl.map (·.1)) x2 → (∀ q ∈ wl, flt_ok xs K A P nn W i f (d + 2) T q) → wl.Pairwise (fun q q' => ∀ x ∈ sub q, x ∉ sub q') → (∀ q ∈ wl, ∀ m ∈ l, m ∉ sub q) → S.2.1 204 f = M.1 37 + oy → nz B (M.1 37) → nb B (M.1 55) → B + csq P wl ≤ 67108000 →
    (∀ S', FR P W (wl.flatMap sub) (l ++ wl.flatMap sub) f S S' → (∀ g, 100 ≤ g → g < 500 → g ∉ [102, 103, 104, 105] → S'.2.1 g f = S.2.1 g f) → si_fl S' P (gw M (wl.map (·.1))) f ox oy (l ++ wl.map (·.1)) (B + csq P wl) → (∀ q ∈ wl, plB P W S' (gw M (wl.map (·.1))) ox oy q) → Q none A S') → cl_wp xs K h0 (d + 2) Q I83 53 [some (cl_rf A 3 0), some (cl_rf A 2 (nI f)), some (cl_rf A 5 x2), o3] [] A S := by
  intro wl
  induction wl with
  | nil =>
    intro l S M B x2 o3 hLa hst hfw hfl _ _ _ hch _ _ _ _ _ _ _ hQ
    refine vc83_53 ⟨fun _ => hQ S FR.rf (fun _ _ _ _ => rfl) ?_ (fun q hq => by cases hq), fun c => absurd hch c⟩
    simp only [List.map_nil, List.append_nil]
    exact hfl
  | cons q wl ih =>
    intro l S M B x2 o3 hLa hst hfw hfl hlen hlm hld hch hok hpw hdl hy hyB hbw hB hQ
    obtain ⟨hx2, hch⟩ := hch
    have hx2 : x2 = nI q.1 := hx2
    subst hx2
    have hT := hLa.1
    have h60 := hT.1
    obtain ⟨k1, k2, k3, k4, k5, k6⟩ := hok q (by simp)
    have hqn := k1.1
    rw [List.length_cons] at hlen
    have hcsq : csq P (q :: wl) = cs P q.1 q.2 + csq P wl := by simp [csq]
    rw [hcsq] at hB
    obtain ⟨hp1, hp2⟩ := List.pairwise_cons.mp hpw
    refine vc83_53 ⟨fun c => absurd c (nI_ne_m1 (by omega)), fun _ => ⟨hT.n hqn, hT.2.1, ?_⟩⟩
    rw [hT.cl hqn]
    refine kk_putFloat hLa hSP hst k6 hfw hib hi hfl (by omega) hlm hld (fun m hm => hdl q (by simp) m hm) hy hyB hbw k1 k2 k3 hf13 hox hoy (by omega) k4 k5 _ (fun S1 a1 a2 a3 a4 => ⟨rfl, a1.1.1, rfl, ?_⟩)
    have e46 : (M.1 46).toNatClampNeg = l.length := by rw [hfl.1, nI_clamp (by omega)]
    have hgw : gw M ((q :: wl).map (·.1)) = gw (f_putFloat_M M l.length q.1) (wl.map (·.1)) := by
      rw [List.map_cons, gw_cons, e46]
    have hLa1 := hLa.fr a1
    have sub60 : ∀ q' ∈ q :: wl, ∀ x ∈ sub q', x < nn := by
      intro q' hq' x hx
      have := (hok q' hq').1
      rcases List.mem_cons.mp hx with rfl | hx
      · exact this.1
      · exact this.2.2.2.2.1 x hx
    refine ih (l ++ [q.1]) S1 (f_putFloat_M M l.length q.1) (B + cs P q.1 q.2) _ _ hLa1 (hst.x (fun a ha => pf_2 _ _ _ (fun r => ha ((show ∀ a ∈ [15, 16, 47, 48, 49, 50, 51], a ∈ X_C by decide) a r))) (pf_2 _ _ _ (by decide))) (hfw.mv (fun g hg => by
      have := (show ∀ g ∈ [200, 201, 202, 203, 100, 101], 100 ≤ g ∧ g < 500 ∧ g ∉ [102, 103, 104, 105] by decide) g hg
      exact a2 g this.1 this.2.1 this.2.2) (pf_1 _ _ _ (by decide)) (pf_1 _ _ _ (by decide))) a3 (by simp; omega) ?_ ?_ ?_ (fun q' hq' => hok q' (by simp [hq'])) hp2 ?_ ?_ ?_ ?_ (by omega) ?_
    · intro m hm
      rcases List.mem_append.mp hm with hm | hm
      · exact hlm m hm
      · rw [List.mem_singleton.mp hm]; exact hqn
    · rw [List.nodup_append]
      refine ⟨hld, by simp, fun a ha b hb e => ?_⟩
      rw [List.mem_singleton.mp hb] at e
      exact hdl q (by simp) a ha (by rw [e]; simp)
    · refine chn_mv (fun m hm => ?_) hch
      obtain ⟨q', hq', rfl⟩ := List.mem_map.mp hm
      refine a1.2.2.2.2.1 _ (fun r => ?_)
      simp only [List.mem_cons, List.mem_append] at r
      rcases r with r | r | r
      · exact hp1 q' hq' q.1 (by simp) (by rw [← r]; simp)
      · exact hdl q' (by simp [hq']) q'.1 r (by simp)
      · exact hp1 q' hq' q'.1 (by simp [r]) (by simp)
    · intro q' hq' m hm
      rcases List.mem_append.mp hm with hm | hm
      · exact hdl q' (by simp [hq']) m hm
      · rw [List.mem_singleton.mp hm]
        exact hp1 q' hq' q.1 (by simp)
    · rw [a2 204 (by decide) (by decide) (by decide), pf_1 _ _ _ (by decide)]
      exact hy
    · rw [pf_1 _ _ _ (by decide)]
      exact nz_mono hyB (by omega)
    · rw [pf_1 _ _ _ (by decide)]
      exact nb_mono hbw (by omega)
    · intro S2 b1 b2 b3 b4
      refine hQ S2 ?_ ?_ ?_ ?_
      · refine (a1.sub ?_ ?_ (Nat.le_refl _)).tr (b1.sub ?_ ?_ (Nat.le_refl _))
        · intro x hx
          simp only [List.flatMap_cons, List.mem_append]
          exact Or.inl hx
        · intro x hx
          simp only [List.flatMap_cons, List.mem_append, List.mem_cons] at hx ⊢
          rcases hx with hx | hx | hx
          · exact Or.inr (Or.inl (Or.inl hx))
          · exact Or.inl hx
          · exact Or.inr (Or.inl (Or.inr hx))
        · intro x hx
          simp only [List.flatMap_cons, List.mem_append]
          exact Or.inr hx
        · intro x hx
          simp only [List.flatMap_cons, List.mem_append, List.mem_cons, List.not_mem_nil, or_false] at hx ⊢
          rcases hx with (hx | hx) | hx
          · exact Or.inl hx
          · exact Or.inr (Or.inl (Or.inl hx))
          · exact Or.inr (Or.inr hx)
      · intro g g1 g2 g3
        rw [b2 g g1 g2 g3, a2 g g1 g2 g3]
      · rw [hgw, hcsq, ← Nat.add_assoc]
        simp only [List.map_cons]
        rw [List.append_cons]
        exact b3
      · intro q' hq'
        rw [hgw]
        rcases List.mem_cons.mp hq' with rfl | hq'
        · have hnq : q'.1 ∉ wl.map (·.1) := by
            intro r
            obtain ⟨q2, hq2, e⟩ := List.mem_map.mp r
            exact hp1 q2 hq2 q'.1 (by simp) (by rw [← e]; simp)
          have h15 := gw_15 (wl.map (·.1)) (f_putFloat_M M l.length q'.1) hnq
          refine plB.mv a4 b1 (fun x hx r => ?_) (fun x hx => by have := sub60 q' (by simp) x hx; omega) (fun x hx => ?_) h15.1 h15.2
          · obtain ⟨q2, hq2, hx2⟩ := List.mem_flatMap.mp r
            exact hp1 q2 hq2 x hx hx2
          · obtain ⟨q2, hq2, hx2⟩ := List.mem_flatMap.mp hx
            have := sub60 q2 (by simp [hq2]) x hx2
            omega
        · exact b4 q' hq'
