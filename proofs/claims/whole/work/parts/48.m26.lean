/-! the reference: lay, the blocks from the last to the first (by hand: wip/whole/gen/m26.py) -/
noncomputable def f_v2 (M : md_S) (i : Nat) (k : bt) : md_S := if M.2 12 i = 1 then f_layBlock_M M i k else if M.2 12 i = 2 then f_layFlex_M M i k else M
noncomputable def f_p2 : bt → md_S → md_S
  | .leaf _, M => M
  | .branch i k s, M => f_v2 (f_p2 k (f_p2 s M)) i k
theorem nd_okC {M M' : md_S} (h : md_X X_L X_C M M') {i : Nat} (ho : nd_ok M i) : nd_ok M' i := by
  refine ⟨ho.1, fun h6 => ?_⟩
  rw [h.2 12 (by decide)] at h6
  obtain ⟨⟨cc, c1, c2⟩, w, h1, h2, h3⟩ := ho.2 h6
  rw [ws_same (h.2 9 (by decide)) (h.2 10 (by decide)) (h.2 11 (by decide))]
  refine ⟨⟨cc, c1, by rw [h.2 11 (by decide)]; exact c2⟩, w, by rw [h.2 28 (by decide)]; exact h1, fun q r hq => ?_, h3⟩
  rw [h.2 30 (by decide), h.2 31 (by decide), h.2 32 (by decide)]
  exact h2 q r hq
theorem nd_itsC {M M' : md_S} (h : md_X X_L X_C M M') (t : bt) : nd_its M' t = nd_its M t := by
  unfold nd_its
  congr 1
  apply List.map_congr_left
  intro x _
  unfold nd_it
  rw [ws_same (h.2 9 (by decide)) (h.2 10 (by decide)) (h.2 11 (by decide))]
theorem f_lf_X : ∀ (k : bt) (a r : Int32) (M : md_S), md_X [] [15, 16] M (f_lf k a r M).2 := by
  intro k
  induction k with
  | leaf u => intro a r M; exact md_X.rf
  | branch j k s _ ihs =>
    intro a r M
    unfold f_lf
    by_cases h : f_boxy M j
    · rw [if_pos h]
      exact ((md_X.rf.up2 (by decide) _ _).up2 (by decide) _ _).tr (ihs _ _ _)
    · rw [if_neg h]
      exact ihs _ _ _
theorem f_layFlex_X (M : md_S) (i : Nat) (k : bt) : md_X X_L X_C M (f_layFlex_M M i k) := by
  unfold f_layFlex_M
  exact ((f_lf_X k 0 0 M).sub (by decide) (by decide)).up2 (by decide) _ _
theorem c_lay120 {xs : List Int32} {mo : Nat} {ad : Nat → Nat} (hD : md_D mo ad) {h0 : am_H} {d : Nat} {Q : Option Value → md_S → Prop} {x : Int32} {o3 : Option Value} : ∀ (t : bt) (M : md_S) (p : Int32) (ord : Nat), bt_R (M.2 4) (M.2 5) (M.2 7) p t → (bt_pre t).Nodup → (∀ y ∈ bt_pre t, nd_ok M y) → bt_pq M t → nd_its M t ≤ 3700 → mo_ord M t ord → ord + (bt_pre t).length ≤ 60 →
    (md_X X_L X_C M (f_p2 t M) → md_wp xs mo ad h0 (d + 11) Q I115 120 [some (.ref mo), some (.int x), some (.int (nI ord - 1)), o3] [] (f_p2 t M)) → md_wp xs mo ad h0 (d + 11) Q I115 120 [some (.ref mo), some (.int x), some (.int (nI (ord + (bt_pre t).length) - 1)), o3] [] M := by
  intro t
  induction t with
  | leaf u =>
    intro M p ord _ _ _ _ _ _ _ hk
    exact hk md_X.rf
  | branch i k s ihk ihs =>
    intro M p ord hR hn ho hq hz hord hl hk
    have hn' := hn
    obtain ⟨r1, r2, r3, r4, r5, r6⟩ := hR
    obtain ⟨o1, o2, o3'⟩ := mo_ord_sub hord
    simp only [bt_pre, List.nodup_cons, List.mem_append, List.length_cons, List.length_append, not_or] at hn' hl
    rw [nd_its_br] at hz
    have el : ord + (bt_pre (.branch i k s)).length = ord + 1 + (bt_pre k).length + (bt_pre s).length := by
      simp only [bt_pre, List.length_cons, List.length_append]
      omega
    rw [el]
    refine ihs M p (ord + 1 + (bt_pre k).length) r6 (List.nodup_append.mp hn'.2).2.1 (fun y hy => ho y (by simp [bt_pre, hy])) (fun y hy => hq y (by simp [bt_pre, hy])) (by omega) o3' (by omega) (fun x1 => ?_)
    refine ihk (f_p2 s M) (nI i) (ord + 1) (by rw [x1.2 4 (by decide), x1.2 5 (by decide), x1.2 7 (by decide)]; exact r5) (List.nodup_append.mp hn'.2).1 (fun y hy => nd_okC x1 (ho y (by simp [bt_pre, hy]))) (fun y hy h => by rw [x1.2 4 (by decide)]; exact hq y (by simp [bt_pre, hy]) h) (by rw [nd_itsC x1]; omega) (mo_ord_same (x1.2 21 (by decide)) o2) (by omega) (fun x2' => ?_)
    have x2 := x1.tr x2'
    have hk : ∀ M3, M3 = f_v2 (f_p2 k (f_p2 s M)) i k → md_X X_L X_C (f_p2 k (f_p2 s M)) M3 → md_wp xs mo ad h0 (d + 11) Q I115 120 [some (.ref mo), some (.int x), some (.int (nI ord + (-1))), o3] [] M3 := by
      intro M3 e hx
      have e : M3 = f_p2 (.branch i k s) M := e
      subst e
      have := hk (x2.tr hx)
      rw [Int32.sub_eq_add_neg] at this
      exact this
    generalize f_p2 k (f_p2 s M) = N at hk x2
    rw [nI_pred]
    have hci : (nI i).toNatClampNeg = i := nI_clamp (by omega)
    refine vc115_120 hD ⟨fun q => absurd q (nI_pos (by omega)), fun _ => ?_⟩
    rw [nI_clamp (show ord < 2 ^ 31 by omega), x2.2 21 (by decide), o1, hci]
    have hNk : bt_R (N.2 4) (N.2 5) (N.2 7) (nI i) k := by rw [x2.2 4 (by decide), x2.2 5 (by decide), x2.2 7 (by decide)]; exact r5
    have hNf : N.2 5 i = bt_hd (-1) k := by rw [x2.2 5 (by decide)]; exact r3
    refine ⟨vp_nI (by omega) (by decide), vp_nI r1 (by decide), fun h1 => ⟨fun h2 => ?_, fun h2 => ?_⟩, fun h1 => ?_⟩
    · exact hk N (by rw [f_v2, if_neg h1, if_neg h2]) md_X.rf
    · exact c_layFlex hD r1 hNk hNf _ ⟨rfl, hk _ (by rw [f_v2, if_neg h1, if_pos (Classical.not_not.mp h2)]) (f_layFlex_X _ _ _)⟩
    · refine c_layBlock hD r1 hNk hNf (List.nodup_append.mp hn'.2).1 (fun y hy => nd_okC x2 (ho y (by simp [bt_pre, hy]))) (fun h => by rw [x2.2 4 (by decide)]; exact hq i (by simp [bt_pre]) h) (by rw [nd_itsC x2]; omega) (by omega) _ (fun hx => ⟨rfl, hk _ (by rw [f_v2, if_pos (Classical.not_not.mp h1)]) hx⟩)
