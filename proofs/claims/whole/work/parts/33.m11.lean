/-! the reference: margins and modes (by hand: wip/whole/gen/m11.py) -/
def bt_all (P : Nat → bt → Prop) : bt → Prop
  | .leaf _ => True
  | .branch i k s => P i k ∧ bt_all P k ∧ bt_all P s
theorem bt_all_mono {P P' : Nat → bt → Prop} : ∀ {t : bt}, (∀ i k, (∀ x ∈ i :: bt_pre k, x ∈ bt_pre t) → P i k → P' i k) → bt_all P t → bt_all P' t := by
  intro t
  induction t with
  | leaf u => intro _ _; trivial
  | branch i k s ihk ihs =>
    intro h ha
    refine ⟨h i k ?_ ha.1, ihk (fun j q hq => h j q (fun x hx => ?_)) ha.2.1, ihs (fun j q hq => h j q (fun x hx => ?_)) ha.2.2⟩
    · intro x hx
      simp only [bt_pre, List.mem_cons, List.mem_append] at hx ⊢
      rcases hx with e | e
      · exact Or.inl e
      · exact Or.inr (Or.inl e)
    · simp only [bt_pre, List.mem_cons, List.mem_append]
      exact Or.inr (Or.inl (hq x hx))
    · simp only [bt_pre, List.mem_cons, List.mem_append]
      exact Or.inr (Or.inr (hq x hx))
/-- the first and the last of a chain that are not gone; -1 for none -/
def mg_st (M : md_S) (j : Nat) (e : Int32 × Int32) : Int32 × Int32 := (if ¬ f_of M (nI j) 0 = 3 then (if ¬ e.1 = -1 then e.1 else nI j) else e.1, if ¬ f_of M (nI j) 0 = 3 then nI j else e.2)
def mg_ch (M : md_S) : bt → Int32 × Int32 → Int32 × Int32
  | .leaf _, e => e
  | .branch j _ s, e => mg_ch M s (mg_st M j e)
def mg_top (M : md_S) (i : Nat) (k : bt) : Int32 :=
  if f_joins M (nI i) = 0 then f_of M (nI i) 4 else if (mg_ch M k (-1, -1)).1 = -1 then f_of M (nI i) 4 else if f_isBlock M (mg_ch M k (-1, -1)).1 = 0 then f_of M (nI i) 4 else f_more (f_of M (nI i) 4) (M.2 19 (mg_ch M k (-1, -1)).1.toNatClampNeg)
def mg_bot (M : md_S) (i : Nat) (k : bt) : Int32 :=
  if f_joins M (nI i) = 0 then f_of M (nI i) 4 else if (mg_ch M k (-1, -1)).1 = -1 then f_of M (nI i) 4 else if f_isBlock M (mg_ch M k (-1, -1)).2 = 0 then f_of M (nI i) 4 else if ¬ f_of M (nI i) 3 = -1 then f_of M (nI i) 4 else f_more (f_of M (nI i) 4) (M.2 20 (mg_ch M k (-1, -1)).2.toNatClampNeg)
def mg_eq (M : md_S) (i : Nat) (k : bt) : Prop := M.2 19 i = mg_top M i k ∧ M.2 20 i = mg_bot M i k
def mg_at (M M' : md_S) (i : Nat) : Prop := M'.2 19 i = M.2 19 i ∧ M'.2 20 i = M.2 20 i
theorem mg_at.tr {M M1 M2 : md_S} {i : Nat} (a : mg_at M M1 i) (b : mg_at M1 M2 i) : mg_at M M2 i := ⟨b.1.trans a.1, b.2.trans a.2⟩
def mg_same (M M' : md_S) : Prop := M'.2 3 = M.2 3 ∧ M'.2 4 = M.2 4 ∧ M'.2 9 = M.2 9
theorem mg_same_of {M M' : md_S} (h : md_X [] [19, 20] M M') : mg_same M M' := ⟨h.2 3 (by decide), h.2 4 (by decide), h.2 9 (by decide)⟩
theorem mg_of {M M' : md_S} (h : mg_same M M') (a b : Int32) : f_of M' a b = f_of M a b := by
  unfold f_of
  rw [h.2.2]
theorem mg_isBlock {M M' : md_S} (h : mg_same M M') (a : Int32) : f_isBlock M' a = f_isBlock M a := by
  simp only [f_isBlock, h.1, mg_of h]
theorem mg_joins {M M' : md_S} (h : mg_same M M') (a : Int32) : f_joins M' a = f_joins M a := by
  unfold f_joins f_edges
  rw [mg_isBlock h a, mg_of h a 0, mg_of h a 5, mg_of h a 6, h.2.1, mg_of h]
theorem mg_st_same {M M' : md_S} (h : mg_same M M') (j : Nat) (e : Int32 × Int32) : mg_st M' j e = mg_st M j e := by
  simp only [mg_st, mg_of h]
theorem mg_ch_same {M M' : md_S} (h : mg_same M M') : ∀ (k : bt) (e : Int32 × Int32), mg_ch M' k e = mg_ch M k e := by
  intro k
  induction k with
  | leaf u => intro e; rfl
  | branch j k s _ ihs =>
    intro e
    show mg_ch M' s (mg_st M' j e) = mg_ch M s (mg_st M j e)
    rw [mg_st_same h, ihs]
theorem mg_ch_ok {M : md_S} : ∀ (k : bt) (e : Int32 × Int32) (S : Nat → Prop), (∀ x ∈ bt_pre k, S x) → (e.1 = -1 ∧ e.2 = -1 ∨ ∃ a b, S a ∧ S b ∧ e = (nI a, nI b)) → (mg_ch M k e).1 = -1 ∧ (mg_ch M k e).2 = -1 ∨ ∃ a b, S a ∧ S b ∧ mg_ch M k e = (nI a, nI b) := by
  intro k
  induction k with
  | leaf u => intro e S _ h; exact h
  | branch j k s _ ihs =>
    intro e S hS h
    refine ihs _ S (fun x hx => hS x (by simp [bt_pre, hx])) ?_
    have hj : S j := hS j (by simp [bt_pre])
    unfold mg_st
    by_cases hg : ¬ f_of M (nI j) 0 = 3
    · rw [if_pos hg, if_pos hg]
      rcases h with ⟨h1, h2⟩ | ⟨a, b, ha, hb, rfl⟩
      · rw [if_neg (fun q => q h1)]
        exact Or.inr ⟨j, j, hj, hj, rfl⟩
      · by_cases h1 : ¬ nI a = -1
        · rw [if_pos h1]
          exact Or.inr ⟨a, j, ha, hj, rfl⟩
        · rw [if_neg h1]
          exact Or.inr ⟨j, j, hj, hj, rfl⟩
    · rw [if_neg hg, if_neg hg]
      exact h
theorem mg_eq_congr {M M' : md_S} {i : Nat} {k : bt} (h : mg_same M M') (h1 : ∀ x ∈ i :: bt_pre k, x < 60 ∧ mg_at M M' x) (he : mg_eq M i k) : mg_eq M' i k := by
  have hi := (h1 i (by simp)).2
  have hc := mg_ch_ok (M := M) k (-1, -1) (fun x => x < 60 ∧ mg_at M M' x) (fun x hx => h1 x (by simp [hx])) (Or.inl ⟨rfl, rfl⟩)
  unfold mg_eq mg_top mg_bot at he ⊢
  rw [mg_ch_same h, mg_joins h, mg_isBlock h, mg_isBlock h, mg_of h, mg_of h, hi.1, hi.2]
  rcases hc with ⟨c1, _⟩ | ⟨a, b, ha, hb, e⟩
  · rw [if_pos c1, if_pos c1] at he ⊢
    exact he
  · rw [e] at he ⊢
    have ca : (nI a).toNatClampNeg = a := nI_clamp (by omega)
    have cb : (nI b).toNatClampNeg = b := nI_clamp (by omega)
    simp only [ca, cb, ha.2.1, hb.2.2] at he ⊢
    exact he
theorem c_margins_loop {xs : List Int32} {mo : Nat} {ad : Nat → Nat} (hD : md_D mo ad) {h0 : am_H} {d : Nat} {Q : Option Value → md_S → Prop} {M : md_S} {x p : Int32} : ∀ (k : bt) (e : Int32 × Int32), bt_R (M.2 4) (M.2 5) (M.2 7) p k → md_wp xs mo ad h0 (d + 4) Q I122 45 [some (.ref mo), some (.int x), some (.int (mg_ch M k e).1), some (.int (mg_ch M k e).2), some (.int (-1))] [] M → md_wp xs mo ad h0 (d + 4) Q I122 45 [some (.ref mo), some (.int x), some (.int e.1), some (.int e.2), some (.int (bt_hd (-1) k))] [] M := by
  intro k
  induction k with
  | leaf u => intro e _ h; exact h
  | branch j k s _ ihs =>
    intro e hR h
    obtain ⟨r1, _, _, r4, _, r6⟩ := hR
    have hc : (nI j).toNatClampNeg = j := nI_clamp (by omega)
    refine vc122_45 hD ⟨fun q => absurd q (nI_ne_m1 (n := j) (by omega)), fun _ => ⟨vp_nI r1 (by decide), ?_⟩⟩
    show ∀ s3 : Int32, _ → ∀ s4 : Int32, _ → _
    intro s3 e3 s4 e4
    have e3 : s3 = (mg_st M j e).1 := e3
    have e4 : s4 = (mg_st M j e).2 := by
      rw [e4]
      unfold mg_st
      simp only [ite_self]
      rfl
    rw [e3, e4]
    show md_wp xs mo ad h0 (d + 4) Q I122 45 [_, _, _, _, some (.int (M.2 7 (nI j).toNatClampNeg))] [] M
    rw [hc, r4]
    exact ihs (mg_st M j e) r6 h
def mg_Q (M M' : md_S) (i : Nat) (k : bt) : Prop := md_X [] [19, 20] M M' ∧ (∀ j, ¬ j = i → mg_at M M' j) ∧ mg_eq M' i k
theorem c_margins {xs : List Int32} {mo : Nat} {ad : Nat → Nat} {d : Nat} {M : md_S} {i : Nat} {k : bt} (hD : md_D mo ad) (hi : i < 60) (hk : bt_R (M.2 4) (M.2 5) (M.2 7) (nI i) k) (hf : M.2 5 i = bt_hd (-1) k) (hni : i ∉ bt_pre k) (hp : ¬ i = 0 → vp_in (M.2 4 i) 60) : ∀ Q', (∀ M', mg_Q M M' i k → Q' none M') → md_C xs mo ad (d + 5) 122 [.int (nI i)] M Q' := by
  intro Q' hQ
  refine md_intro (ms122 xs) (Nat.le_of_ble_eq_true rfl) (fun h0 => vc122_0 hD ?_)
  have hc : (nI i).toNatClampNeg = i := nI_clamp (by omega)
  have hvi : vp_in (nI i) 60 := vp_nI hi (by decide)
  rw [hc]
  refine ⟨hvi, ?_⟩
  intro M1 e1 M2 e2
  have hX2 : md_X [] [19, 20] M M2 := by
    rw [e2, e1]
    exact (md_X.rf.up2 (by decide) _ _).up2 (by decide) _ _
  have hs2 := mg_same_of hX2
  have h25 : M2.2 5 = M.2 5 := hX2.2 5 (by decide)
  have h27 : M2.2 7 = M.2 7 := hX2.2 7 (by decide)
  have hat2 : ∀ j, ¬ j = i → mg_at M M2 j := by
    intro j hj
    rw [e2, e1]
    exact ⟨by simp [md_up2, hj], by simp [md_up2, hj]⟩
  have t2 : M2.2 19 i = f_of M (nI i) 4 := by rw [e2, e1]; simp [md_up2]
  have b2 : M2.2 20 i = f_of M (nI i) 4 := by
    rw [e2, md_up2_at, e1]
    unfold f_of
    rw [md_up2_ne _ (by decide)]
  have hz : nI i ≤ 0 ↔ i = 0 := by
    rw [← nI_0, nI_leI (by omega) (by decide)]
    omega
  refine ⟨fun q => by rw [hs2.2.1]; exact hp (fun e => q (hz.mpr e)), fun hj => ?_, fun hj => ?_⟩
  · rw [h25, hf]
    refine c_margins_loop (e := (-1, -1)) (p := nI i) hD k (by rw [hs2.2.1, h25, h27]; exact hk) ?_
    have hok := mg_ch_ok (M := M2) k (-1, -1) (fun x => x < 60 ∧ ¬ x = i) (fun x hx => ⟨bt_R_mem hk x hx, fun e => hni (e ▸ hx)⟩) (Or.inl ⟨rfl, rfl⟩)
    refine vc122_45 hD ⟨fun _ => ?_, fun q => absurd rfl q⟩
    rcases hok with ⟨o1, o2⟩ | ⟨a, b, ⟨ha, hai⟩, ⟨hb, hbi⟩, eab⟩
    · refine ⟨fun q => absurd o1 q, fun _ => ?_⟩
      refine hQ M2 ⟨hX2, hat2, ?_⟩
      have h1 : (mg_ch M2 k (-1, -1)).1 = -1 := o1
      unfold mg_eq mg_top mg_bot
      rw [if_pos h1, if_pos h1, t2, b2, mg_of hs2, ite_self]
      exact ⟨rfl, rfl⟩
    · have ca : (nI a).toNatClampNeg = a := nI_clamp (by omega)
      have cb : (nI b).toNatClampNeg = b := nI_clamp (by omega)
      have hna : ¬ nI a = -1 := nI_ne_m1 (by omega)
      rw [eab]
      refine ⟨fun _ => ?_, fun q => absurd hna q⟩
      show vp_in (nI a) 60 ∧ _
      rw [ca, hc]
      refine ⟨vp_nI ha (by decide), ⟨fun _ => trivial, fun _ => ⟨hvi, trivial⟩⟩, ?_⟩
      intro N1 f1
      show vp_in (nI b) 60 ∧ _
      rw [cb]
      refine ⟨vp_nI hb (by decide), ⟨fun _ => trivial, fun _ => ⟨hvi, fun _ => trivial, fun _ => trivial⟩⟩, ?_⟩
      intro N2 f2
      have hX1 : md_X [] [19, 20] M N1 := by
        rw [f1]
        split
        · exact hX2
        · exact hX2.up2 (by decide) _ _
      have hXN : md_X [] [19, 20] M N2 := by
        rw [f2]
        split
        · exact hX1
        · split
          · exact hX1
          · exact hX1.up2 (by decide) _ _
      have hs1 := mg_same_of hX1
      have hsN := mg_same_of hXN
      have at1 : ∀ j, ¬ j = i → mg_at M N1 j := by
        intro j hj
        rw [f1]
        split
        · exact hat2 j hj
        · exact ⟨by rw [md_up2_off _ _ hj]; exact (hat2 j hj).1, by rw [md_up2_ne _ (by decide)]; exact (hat2 j hj).2⟩
      have atN : ∀ j, ¬ j = i → mg_at M N2 j := by
        intro j hj
        rw [f2]
        split
        · exact at1 j hj
        · split
          · exact at1 j hj
          · exact ⟨by rw [md_up2_ne _ (by decide)]; exact (at1 j hj).1, by rw [md_up2_off _ _ hj]; exact (at1 j hj).2⟩
      refine hQ N2 ⟨hXN, atN, ?_⟩
      have ech : mg_ch N2 k (-1, -1) = (nI a, nI b) := by rw [mg_ch_same hsN, ← mg_ch_same hs2]; exact eab
      have hj' : ¬ f_joins N2 (nI i) = 0 := by rw [mg_joins hsN, ← mg_joins hs2]; exact hj
      have t1 : N1.2 19 i = if f_isBlock M (nI a) = 0 then f_of M (nI i) 4 else f_more (f_of M (nI i) 4) (M.2 19 a) := by
        rw [f1, mg_isBlock hs2]
        split
        · exact t2
        · rw [md_up2_at, t2, (hat2 a hai).1]
      have b1 : N1.2 20 i = f_of M (nI i) 4 := by
        rw [f1]
        split
        · exact b2
        · rw [md_up2_ne _ (by decide)]
          exact b2
      have tN : N2.2 19 i = N1.2 19 i := by
        rw [f2]
        split
        · rfl
        · split
          · rfl
          · rw [md_up2_ne _ (by decide)]
      have bN : N2.2 20 i = if f_isBlock M (nI b) = 0 then f_of M (nI i) 4 else if ¬ f_of M (nI i) 3 = -1 then f_of M (nI i) 4 else f_more (f_of M (nI i) 4) (M.2 20 b) := by
        rw [f2, mg_isBlock hs1, mg_of hs1]
        split
        · exact b1
        · split
          · exact b1
          · rw [md_up2_at, b1, (at1 b hbi).2]
      unfold mg_eq mg_top mg_bot
      rw [ech, if_neg hj', if_neg hj', if_neg hna, if_neg hna, mg_isBlock hsN, mg_isBlock hsN, mg_of hsN, mg_of hsN, tN, t1, bN]
      simp only [ca, cb, (atN a hai).1, (atN b hbi).2]
      exact ⟨trivial, trivial⟩
  · refine hQ M2 ⟨hX2, hat2, ?_⟩
    have h1 : f_joins M2 (nI i) = 0 := Classical.not_not.mp hj
    unfold mg_eq mg_top mg_bot
    rw [if_pos h1, if_pos h1, t2, b2, mg_of hs2]
    exact ⟨rfl, rfl⟩
/-- the places of a forest in the order -/
def mo_ord (M : md_S) (t : bt) (ord : Nat) : Prop := ∀ j x, (bt_pre t)[j]? = some x → M.2 21 (ord + j) = nI x
theorem mo_ord_sub {M : md_S} {i ord : Nat} {k s : bt} (h : mo_ord M (.branch i k s) ord) : M.2 21 ord = nI i ∧ mo_ord M k (ord + 1) ∧ mo_ord M s (ord + 1 + (bt_pre k).length) := by
  refine ⟨?_, fun j x hx => ?_, fun j x hx => ?_⟩
  · exact h 0 i (by simp [bt_pre])
  · have := h (1 + j) x (by
      rw [Nat.add_comm, bt_pre, List.getElem?_cons_succ, List.getElem?_append_left (List.getElem?_eq_some_iff.mp hx).1]
      exact hx)
    rw [← Nat.add_assoc] at this
    exact this
  · have := h (1 + ((bt_pre k).length + j)) x (by
      rw [Nat.add_comm, bt_pre, List.getElem?_cons_succ, List.getElem?_append_right (by omega), Nat.add_sub_cancel_left]
      exact hx)
    rw [show ord + 1 + (bt_pre k).length + j = ord + (1 + ((bt_pre k).length + j)) by omega]
    exact this
theorem mo_ord_same {M M' : md_S} {t : bt} {ord : Nat} (h : M'.2 21 = M.2 21) (ho : mo_ord M t ord) : mo_ord M' t ord := fun j x hx => by rw [h]; exact ho j x hx
def mg_P (M M' : md_S) (t : bt) : Prop := md_X [] [19, 20] M M' ∧ (∀ j, j ∉ bt_pre t → mg_at M M' j) ∧ bt_all (fun i k => M'.2 3 i = 0 → mg_eq M' i k) t
/-- parents lie in the range -/
def bt_pq (M : md_S) (t : bt) : Prop := ∀ i ∈ bt_pre t, ¬ i = 0 → vp_in (M.2 4 i) 60
theorem c_modes2 {xs : List Int32} {mo : Nat} {ad : Nat → Nat} (hD : md_D mo ad) {h0 : am_H} {d : Nat} {Q : Option Value → md_S → Prop} : ∀ (t : bt) (M : md_S) (p : Int32) (ord : Nat), bt_R (M.2 4) (M.2 5) (M.2 7) p t → (bt_pre t).Nodup → bt_pq M t → mo_ord M t ord → ord + (bt_pre t).length ≤ 60 →
    (∀ M', mg_P M M' t → md_wp xs mo ad h0 (d + 5) Q I116 176 [some (.ref mo), some (.int (nI ord - 1))] [] M') → md_wp xs mo ad h0 (d + 5) Q I116 176 [some (.ref mo), some (.int (nI (ord + (bt_pre t).length) - 1))] [] M := by
  intro t
  induction t with
  | leaf u =>
    intro M p ord _ _ _ _ _ hk
    exact hk M ⟨md_X.rf, fun _ _ => ⟨rfl, rfl⟩, trivial⟩
  | branch i k s ihk ihs =>
    intro M p ord hR hn hq ho hl hk
    have hR' := hR
    have hn' := hn
    obtain ⟨r1, r2, r3, r4, r5, r6⟩ := hR'
    obtain ⟨o1, o2, o3⟩ := mo_ord_sub ho
    have hm := bt_R_mem hR
    simp only [bt_pre, List.nodup_cons, List.mem_cons, List.mem_append, List.length_cons, List.length_append, not_or] at hn' hl hm
    have n4 : ∀ x, x ∈ bt_pre k → x ∉ bt_pre s := fun x hk hs => (List.nodup_append.mp hn'.2).2.2 x hk x hs rfl
    have el : ord + (bt_pre (.branch i k s)).length = ord + 1 + (bt_pre k).length + (bt_pre s).length := by
      simp only [bt_pre, List.length_cons, List.length_append]
      omega
    rw [el]
    refine ihs M p (ord + 1 + (bt_pre k).length) r6 (List.nodup_append.mp hn'.2).2.1 (fun x hx => hq x (by simp [bt_pre, hx])) o3 (by omega) (fun M1 h1 => ?_)
    have l1 : M1.2 4 = M.2 4 ∧ M1.2 5 = M.2 5 ∧ M1.2 7 = M.2 7 ∧ M1.2 21 = M.2 21 := ⟨h1.1.2 4 (by decide), h1.1.2 5 (by decide), h1.1.2 7 (by decide), h1.1.2 21 (by decide)⟩
    refine ihk M1 (nI i) (ord + 1) (by rw [l1.1, l1.2.1, l1.2.2.1]; exact r5) (List.nodup_append.mp hn'.2).1 (fun x hx h => by rw [l1.1]; exact hq x (by simp [bt_pre, hx]) h) (mo_ord_same l1.2.2.2 o2) (by omega) (fun M2 h2 => ?_)
    have x2 := h1.1.tr h2.1
    have l2 : M2.2 4 = M.2 4 ∧ M2.2 5 = M.2 5 ∧ M2.2 7 = M.2 7 ∧ M2.2 21 = M.2 21 ∧ M2.2 3 = M.2 3 := ⟨x2.2 4 (by decide), x2.2 5 (by decide), x2.2 7 (by decide), x2.2 21 (by decide), x2.2 3 (by decide)⟩
    rw [nI_pred]
    have hcl : (nI ord).toNatClampNeg = ord := nI_clamp (by omega)
    have hci : (nI i).toNatClampNeg = i := nI_clamp (by omega)
    refine vc116_176 hD ⟨fun q => absurd q (nI_pos (by omega)), fun _ => ?_⟩
    rw [hcl, l2.2.2.2.1, o1, hci]
    have fin : ∀ M3, md_X [] [19, 20] M2 M3 → (∀ j, ¬ j = i → mg_at M2 M3 j) → (M3.2 3 i = 0 → mg_eq M3 i k) → mg_P M M3 (.branch i k s) := by
      intro M3 x3 a3 e3
      refine ⟨x2.tr x3, fun j hj => ?_, e3, ?_, ?_⟩
      · simp only [bt_pre, List.mem_cons, List.mem_append, not_or] at hj
        exact ((h1.2.1 j hj.2.2).tr (h2.2.1 j hj.2.1)).tr (a3 j hj.1)
      · refine bt_all_mono (fun j q hjq h hz => mg_eq_congr (mg_same_of x3) (fun x hx => ⟨hm x (Or.inr (Or.inl (hjq x hx))), a3 x (fun e => hn'.1.1 (e ▸ hjq x hx))⟩) (h ?_)) h2.2.2
        rw [← (mg_same_of x3).1]
        exact hz
      · refine bt_all_mono (fun j q hjq h hz => mg_eq_congr (mg_same_of (h2.1.tr x3)) (fun x hx => ⟨hm x (Or.inr (Or.inr (hjq x hx))), (h2.2.1 x (fun e => n4 x e (hjq x hx))).tr (a3 x (fun e => hn'.1.2 (e ▸ hjq x hx)))⟩) (h ?_)) h1.2.2
        rw [← (mg_same_of (h2.1.tr x3)).1]
        exact hz
    have next : ∀ M3, mg_P M M3 (.branch i k s) → md_wp xs mo ad h0 (d + 5) Q I116 176 [some (.ref mo), some (.int (nI ord + (-1)))] [] M3 := by
      intro M3 h3
      have := hk M3 h3
      rw [Int32.sub_eq_add_neg] at this
      exact this
    refine ⟨vp_nI (by omega) (by decide), vp_nI r1 (by decide), fun hz => ?_, fun hz => ?_⟩
    · exact next M2 (fin M2 md_X.rf (fun _ _ => ⟨rfl, rfl⟩) (fun q => absurd q hz))
    · refine c_margins hD r1 (by rw [l2.1, l2.2.1, l2.2.2.1]; exact r5) (by rw [l2.2.1]; exact r3) hn'.1.1 (fun h => by rw [l2.1]; exact hq i (by simp [bt_pre]) h) _ (fun M3 h3 => ⟨rfl, ?_⟩)
      exact next M3 (fin M3 h3.1 h3.2.1 (fun _ => h3.2.2))
