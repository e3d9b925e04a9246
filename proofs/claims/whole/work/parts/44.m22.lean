/-! the reference: layBlock, its contract (by hand: wip/whole/gen/m22.py) -/
/-- the last thing of a chain that is not gone -/
def lb_th (M : md_S) : bt → Int32 → Int32
  | .leaf _, x => x
  | .branch j _ s, x => lb_th M s (if M.2 12 j = 0 then x else nI j)
def lb_M0 (M : md_S) (i : Nat) : md_S := md_up1 (md_up1 (md_up1 M 55 (f_inner M (nI i))) 43 (f_of M (nI i) 7)) 46 0
noncomputable def lb_r (M : md_S) (i : Nat) (k : bt) : lb_S × md_S := f_lb i (lb_th M k (-1)) k false (0, -1, 0, 1, 0) (lb_M0 M i)
noncomputable def f_layBlock_M (M : md_S) (i : Nat) (k : bt) : md_S := md_up2 (lb_r M i k).2 18 i (f_heightOf (lb_r M i k).2 (nI i) (lb_end (md_flts (lb_r M i k).2 ((lb_r M i k).2.1 46).toNatClampNeg) (f_more (lb_r M i k).1.2.2.2.2 (lb_r M i k).1.1)))
def X_L : List Nat := [37, 38, 39, 40, 41, 42, 43, 46, 53, 54, 55]
def X_C : List Nat := [15, 16, 18, 33, 34, 44, 45, 47, 48, 49, 50, 51, 52]
theorem c_lb_thing {xs : List Int32} {mo : Nat} {ad : Nat → Nat} (hD : md_D mo ad) {h0 : am_H} {d : Nat} {Q : Option Value → md_S → Prop} {M : md_S} {i : Nat} {p x2 x3 x4 x6 x7 : Int32} {o9 o10 o11 o12 : Option Value} (hi : i < 60) : ∀ (t : bt) (x : Int32), bt_R (M.2 4) (M.2 5) (M.2 7) p t → md_wp xs mo ad h0 (d + 10) Q I135 89 [some (.ref mo), some (.int (nI i)), some (.int x2), some (.int x3), some (.int x4), some (.int (lb_th M t x)), some (.int x6), some (.int x7), some (.int (M.2 5 i)), o9, o10, o11, o12] [] M → md_wp xs mo ad h0 (d + 10) Q I135 49 [some (.ref mo), some (.int (nI i)), some (.int x2), some (.int x3), some (.int x4), some (.int x), some (.int x6), some (.int x7), some (.int (bt_hd (-1) t)), o9, o10, o11, o12] [] M := by
  intro t
  induction t with
  | leaf u =>
    intro x _ hk
    refine vc135_49 hD ⟨fun _ => ⟨vp_nI hi (by decide), ?_⟩, fun q => absurd rfl q⟩
    rw [nI_clamp (by omega)]
    exact hk
  | branch j k s _ ihs =>
    intro x hR hk
    have hj : j < 60 := hR.1
    refine vc135_49 hD ⟨fun q => absurd q (nI_ne_m1 (n := j) (by omega)), fun _ => ⟨vp_nI hj (by decide), ?_⟩⟩
    rw [show bt_hd (-1) (.branch j k s) = nI j from rfl, nI_clamp (by omega), hR.2.2.2.1]
    rintro _ rfl
    exact ihs _ hR.2.2.2.2.2 hk
theorem c_lb_last {xs : List Int32} {mo : Nat} {ad : Nat → Nat} (hD : md_D mo ad) {h0 : am_H} {d : Nat} {Q : Option Value → md_S → Prop} {M : md_S} {i c : Nat} {x2 x3 x4 x5 x6 x8 : Int32} {o10 o11 o12 : Option Value} (hi : i < 60) (hc : c ≤ 60) (h46 : M.1 46 = nI c) {T : Int32} (hQ : Q none (md_up2 M 18 i (f_heightOf M (nI i) T))) :
    ∀ (r q : Nat) (y : Int32), q + r = c → lb_end ((md_flts M c).drop q) y = T → md_wp xs mo ad h0 (d + 10) Q I135 461 [some (.ref mo), some (.int (nI i)), some (.int x2), some (.int x3), some (.int x4), some (.int x5), some (.int x6), some (.int y), some (.int x8), some (.int (nI q)), o10, o11, o12] [] M := by
  intro r
  induction r with
  | zero =>
    intro q y hq hT
    obtain rfl : q = c := by omega
    rw [md_flts_end (Nat.le_refl _)] at hT
    have hT : y = T := hT
    subst hT
    refine vc135_461 hD ⟨fun _ => ⟨vp_nI hi (by decide), ?_⟩, fun q => absurd (by rw [h46]; exact nI_le (Nat.le_refl _) (by omega)) q⟩
    rw [nI_clamp (by omega)]
    rintro _ rfl
    exact hQ
  | succ r ih =>
    intro q y hq hT
    unfold lb_end at hT
    rw [md_flts_drop (by omega), List.foldl_cons] at hT
    refine vc135_461 hD ⟨fun q => absurd q (by rw [h46]; exact nI_ge (by omega) (by omega)), fun _ => ⟨vp_nI (by omega) (by decide), ?_⟩⟩
    rw [nI_clamp (by omega), nI_1]
    exact ih (q + 1) _ (by omega) hT
theorem lb_th_same {M M' : md_S} (h : M'.2 12 = M.2 12) : ∀ (t : bt) (x : Int32), lb_th M' t x = lb_th M t x := by
  intro t
  induction t with
  | leaf u => intro x; rfl
  | branch j k s _ ihs =>
    intro x
    show lb_th M' s (if M'.2 12 j = 0 then x else nI j) = lb_th M s (if M.2 12 j = 0 then x else nI j)
    rw [h, ihs]
theorem c_layBlock {xs : List Int32} {mo : Nat} {ad : Nat → Nat} {d : Nat} {M : md_S} {i : Nat} {k : bt} (hD : md_D mo ad) (hi : i < 60) (hk : bt_R (M.2 4) (M.2 5) (M.2 7) (nI i) k) (hf : M.2 5 i = bt_hd (-1) k) (hn : (bt_pre k).Nodup) (ho : ∀ x ∈ bt_pre k, nd_ok M x) (hp : ¬ i = 0 → vp_in (M.2 4 i) 60) (hz : nd_its M k ≤ 3700) (hy : (bt_pre k).length ≤ 60) : ∀ Q', (md_X X_L X_C M (f_layBlock_M M i k) → Q' none (f_layBlock_M M i k)) → md_C xs mo ad (d + 11) 135 [.int (nI i)] M Q' := by
  intro Q' hQ
  have hvi : vp_in (nI i) 60 := vp_nI hi (by decide)
  have hci : (nI i).toNatClampNeg = i := nI_clamp (by omega)
  refine md_intro (ms135 xs) (Nat.le_of_ble_eq_true rfl) (fun h0 => vc135_0 hD ⟨hvi, ?_⟩)
  intro M1 e1 M2 e2 M3 e3
  have e3 : M3 = lb_M0 M i := by
    rw [e3, e2, e1]
    rfl
  have l3 : M3.2 = M.2 := by rw [e3]; rfl
  rw [hci, l3, hf]
  refine c_lb_thing (p := nI i) hD hi k (-1) (by rw [l3]; exact hk) ?_
  rw [lb_th_same (M := M) (M' := M3) (by rw [l3]), l3, hf]
  have hits : nd_its M3 k = nd_its M k := by
    unfold nd_its
    congr 1
    apply List.map_congr_left
    intro x _
    unfold nd_it
    rw [ws_same (M := M) (M' := M3) (by rw [l3]) (by rw [l3]) (by rw [l3])]
  have hok : ∀ x ∈ bt_pre k, nd_ok M3 x := by
    intro x hx
    have := ho x hx
    refine ⟨this.1, fun h6 => ?_⟩
    rw [l3] at h6
    obtain ⟨⟨cc, c1, c2⟩, w, h1, h2, h3⟩ := this.2 h6
    rw [ws_same (M := M) (M' := M3) (by rw [l3]) (by rw [l3]) (by rw [l3])]
    refine ⟨⟨cc, c1, by rw [l3]; exact c2⟩, w, by rw [l3]; exact h1, fun q r hq => ?_, h3⟩
    rw [l3]
    exact h2 q r hq
  have h46 : M3.1 46 = nI 0 := by rw [e3]; exact md_up1_at _ _ _
  have main := c_lb (xs := xs) (mo := mo) (ad := ad) (h0 := h0) (d := d) (Q := Q') (th := lb_th M k (-1)) (p := nI i) hD hi k false (0, -1, 0, 1, 0) M3 (by rw [l3]; exact hk) hn hok (fun h => by rw [l3]; exact hp h) (fun h => absurd rfl h) (by rw [hits]; exact hz) (by
    simp only [Bool.false_eq_true, if_false]
    exact ⟨0, h46, by omega⟩) (by
    intro hx hc
    have er : f_lb i (lb_th M k (-1)) k false (0, -1, 0, 1, 0) M3 = lb_r M i k := by rw [e3]; rfl
    rw [er] at hx hc ⊢
    obtain ⟨c, c1, c2⟩ := hc
    have hX : md_X X_L X_C M (f_layBlock_M M i k) := by
      have x0 : md_X X_L X_C M M3 := by
        rw [e3]
        exact ((md_X.rf.up1 (by decide) _).up1 (by decide) _).up1 (by decide) _
      exact (x0.tr (hx.sub (by decide) (by decide))).up2 (by decide) _ _
    have hQ := hQ hX
    unfold f_layBlock_M at hQ
    have hcc : ((lb_r M i k).2.1 46).toNatClampNeg = c := by rw [c1, nI_clamp (by omega)]
    rw [hcc] at hQ
    intro o9 o10 o11 o12
    refine vc135_89 hD ⟨fun _ => ?_, fun q => absurd rfl q⟩
    exact c_lb_last hD hi c2 c1 hQ c 0 _ (by omega) (by rw [List.drop_zero]))
  simp only [Bool.false_eq_true, if_false] at main
  exact main _ _ _ _
