/-! the reference: layBlock (by hand: wip/whole/gen/m20.py) -/
/-- how far a block has come: at, last, lastEnd, first, reach -/
abbrev lb_S : Type := Int32 × Int32 × Int32 × Int32 × Int32
def lb_A (xs : List Int32) (mo : Nat) (ad : Nat → Nat) (h0 : am_H) (d : Nat) (Q : Option Value → md_S → Prop) (i : Nat) (th : Int32) (st : lb_S) (x : Int32) (M : md_S) : Prop := ∀ o9 o10 o11 o12, md_wp xs mo ad h0 (d + 10) Q I135 89 [some (.ref mo), some (.int (nI i)), some (.int st.1), some (.int st.2.1), some (.int st.2.2.1), some (.int th), some (.int st.2.2.2.1), some (.int st.2.2.2.2), some (.int x), o9, o10, o11, o12] [] M
def lb_B (xs : List Int32) (mo : Nat) (ad : Nat → Nat) (h0 : am_H) (d : Nat) (Q : Option Value → md_S → Prop) (i : Nat) (th : Int32) (st : lb_S) (x : Int32) (M : md_S) : Prop := ∀ o9 o10 o11 o12, md_wp xs mo ad h0 (d + 10) Q I135 373 [some (.ref mo), some (.int (nI i)), some (.int st.1), some (.int st.2.1), some (.int st.2.2.1), some (.int th), some (.int st.2.2.2.1), some (.int st.2.2.2.2), some (.int x), o9, o10, o11, o12] [] M
def lb_end (fs : List sp_fl) (y : Int32) : Int32 := fs.foldl (fun a f => f_more a f.2.2.2.1) y
/-- a block in a block -/
def lb_own (M : md_S) (i : Nat) (st : lb_S) (j : Nat) : Int32 := if (if st.2.2.2.1 = 0 then 0 else (if f_joins M (nI i) = 0 then 0 else 1)) = (0 : Int32) then M.2 19 j else 0
def lb_to (M : md_S) (i : Nat) (st : lb_S) (j : Nat) : Int32 := lb_end (md_flts M (M.1 46).toNatClampNeg) (if ¬ st.2.1 = -1 then st.2.2.1 + f_more (M.2 20 st.2.1.toNatClampNeg) (lb_own M i st j) else st.1 + lb_own M i st j)
def lb_bM (M : md_S) (i : Nat) (st : lb_S) (j : Nat) : md_S := md_up2 (md_up2 M 15 j (f_of M (nI j) 4)) 16 j (lb_to M i st j)
def lb_low (M : md_S) (i : Nat) (th : Int32) (j : Nat) : Int32 := if ¬ nI j = th then M.2 20 j else (if f_joins M (nI i) = 0 then M.2 20 j else (if ¬ f_of M (nI i) 3 = -1 then M.2 20 j else 0))
def lb_bS (M : md_S) (i : Nat) (th : Int32) (st : lb_S) (j : Nat) : lb_S := (lb_to M i st j + M.2 18 j, nI j, lb_to M i st j + M.2 18 j, 0, f_more st.2.2.2.2 (lb_to M i st j + M.2 18 j + lb_low M i th j))
/-- lines begin -/
def lb_go (M : md_S) (st : lb_S) : md_S := md_up1 (md_up1 (md_up1 (md_up1 (md_up1 M 37 (if ¬ st.2.1 = -1 then st.2.2.1 + M.2 20 st.2.1.toNatClampNeg else st.1)) 41 0) 42 0) 53 0) 54 0
/-- lines end -/
def lb_fM (M : md_S) : md_S := if M.1 41 ≤ 0 then M else f_endLine_M M (M.1 41).toNatClampNeg (M.1 53).toNatClampNeg
def lb_fS (M : md_S) (st : lb_S) : lb_S := ((lb_fM M).1 37, -1, st.2.2.1, 0, st.2.2.2.2)
def lb_isB (M : md_S) (j : Nat) : Prop := ¬ f_isBox M (nI j) = 0 ∧ M.2 13 j = 0
noncomputable def f_lb (i : Nat) (th : Int32) : bt → Bool → lb_S → md_S → lb_S × md_S
  | .leaf _, q, st, M => if q = true then (lb_fS M st, lb_fM M) else (st, M)
  | .branch j k s, q, st, M =>
    if M.2 12 j = 0 then f_lb i th s q st M
    else @ite _ (lb_isB M j) (Classical.propDecidable _)
      (if q = true then f_lb i th s false (lb_bS (lb_fM M) i th (lb_fS M st) j) (lb_bM (lb_fM M) i (lb_fS M st) j) else f_lb i th s false (lb_bS M i th st j) (lb_bM M i st j))
      (f_lb i th s true st (f_thing (if q = true then M else lb_go M st) j k))
theorem md_flts_X {M M' : md_S} (h47 : M'.2 47 = M.2 47) (h48 : M'.2 48 = M.2 48) (h49 : M'.2 49 = M.2 49) (h50 : M'.2 50 = M.2 50) (h51 : M'.2 51 = M.2 51) (n : Nat) : md_flts M' n = md_flts M n := by
  unfold md_flts md_flt
  rw [h47, h48, h49, h50, h51]
theorem lb_isB_mode {M : md_S} {j : Nat} (hj : j < 60) (h : lb_isB M j) : ¬ M.2 12 j = 0 := by
  intro e
  have hc : (nI j).toNatClampNeg = j := nI_clamp (by omega)
  apply h.1
  unfold f_isBox
  rw [hc, e]
  rfl
theorem c_lb_floats {xs : List Int32} {mo : Nat} {ad : Nat → Nat} (hD : md_D mo ad) {h0 : am_H} {d : Nat} {Q : Option Value → md_S → Prop} {M : md_S} {i j c : Nat} {th x9 x10 : Int32} {st : lb_S} {p : Int32} {k s : bt} (hi : i < 60) (hp : ¬ i = 0 → vp_in (M.2 4 i) 60) (hR : bt_R (M.2 4) (M.2 5) (M.2 7) p (.branch j k s)) (hc : c ≤ 60) (h46 : M.1 46 = nI c) {T : Int32}
    (hk : lb_A xs mo ad h0 d Q i th (T + M.2 18 j, nI j, T + M.2 18 j, 0, f_more st.2.2.2.2 (T + M.2 18 j + lb_low M i th j)) (bt_hd (-1) s) (md_up2 (md_up2 M 15 j (f_of M (nI j) 4)) 16 j T)) :
    ∀ (r q : Nat) (y : Int32), q + r = c → lb_end ((md_flts M c).drop q) y = T → md_wp xs mo ad h0 (d + 10) Q I135 205 [some (.ref mo), some (.int (nI i)), some (.int st.1), some (.int st.2.1), some (.int st.2.2.1), some (.int th), some (.int st.2.2.2.1), some (.int st.2.2.2.2), some (.int (nI j)), some (.int x9), some (.int x10), some (.int y), some (.int (nI q))] [] M := by
  have hj : j < 60 := hR.1
  have hcj : (nI j).toNatClampNeg = j := nI_clamp (by omega)
  have hci : (nI i).toNatClampNeg = i := nI_clamp (by omega)
  have hvj : vp_in (nI j) 60 := vp_nI hj (by decide)
  have hvi : vp_in (nI i) 60 := vp_nI hi (by decide)
  have hz : nI i ≤ 0 ↔ i = 0 := by
    rw [← nI_0, nI_leI (by omega) (by decide)]
    omega
  intro r
  induction r with
  | zero =>
    intro q y hq hT
    obtain rfl : q = c := by omega
    rw [md_flts_end (Nat.le_refl _)] at hT
    have hT : y = T := hT
    subst hT
    refine vc135_205 hD ⟨fun _ => ⟨hvj, ?_⟩, fun q => absurd (by rw [h46]; exact nI_le (Nat.le_refl _) (by omega)) q⟩
    rw [hcj]
    intro M1 e1 M2 e2
    have hX : md_X [] [15, 16] M M2 := by
      rw [e2, e1]
      exact (md_X.rf.up2 (by decide) _ _).up2 (by decide) _ _
    have hs : mg_same M M2 := ⟨hX.2 3 (by decide), hX.2 4 (by decide), hX.2 9 (by decide)⟩
    rw [hci]
    refine ⟨⟨fun _ => trivial, fun _ => ⟨hvi, fun q => by rw [hX.2 4 (by decide)]; exact hp (fun e => q (hz.mpr e)), fun _ => trivial, fun _ => ⟨fun _ => trivial, fun _ => trivial⟩⟩⟩, ?_⟩
    intro s1 es1
    rw [mg_joins hs, mg_of hs, hX.2 20 (by decide)] at es1
    have es1 : s1 = lb_low M i th j := es1
    subst es1
    rw [hX.2 18 (by decide), hX.2 7 (by decide), hR.2.2.2.1, e2, e1]
    exact hk _ _ _ _
  | succ r ih =>
    intro q y hq hT
    unfold lb_end at hT
    rw [md_flts_drop (by omega), List.foldl_cons] at hT
    refine vc135_205 hD ⟨fun q => absurd q (by rw [h46]; exact nI_ge (by omega) (by omega)), fun _ => ⟨vp_nI (by omega) (by decide), ?_⟩⟩
    rw [nI_clamp (by omega), nI_1]
    exact ih (q + 1) _ (by omega) hT
/-- a block is put -/
theorem c_lb_blk {xs : List Int32} {mo : Nat} {ad : Nat → Nat} (hD : md_D mo ad) {h0 : am_H} {d : Nat} {Q : Option Value → md_S → Prop} {M : md_S} {i j c : Nat} {th : Int32} {st : lb_S} {p : Int32} {k s : bt} (hi : i < 60) (hp : ¬ i = 0 → vp_in (M.2 4 i) 60) (hR : bt_R (M.2 4) (M.2 5) (M.2 7) p (.branch j k s)) (hc : c ≤ 60) (h46 : M.1 46 = nI c) (hB : lb_isB M j) (hst : ¬ st.2.1 = -1 → vp_in st.2.1 60)
    (hk : lb_A xs mo ad h0 d Q i th (lb_bS M i th st j) (bt_hd (-1) s) (lb_bM M i st j)) : lb_A xs mo ad h0 d Q i th st (nI j) M := by
  have hj : j < 60 := hR.1
  have hcj : (nI j).toNatClampNeg = j := nI_clamp (by omega)
  have hci : (nI i).toNatClampNeg = i := nI_clamp (by omega)
  have hvj : vp_in (nI j) 60 := vp_nI hj (by decide)
  have hvi : vp_in (nI i) 60 := vp_nI hi (by decide)
  have hz : nI i ≤ 0 ↔ i = 0 := by
    rw [← nI_0, nI_leI (by omega) (by decide)]
    omega
  have hcl : (M.1 46).toNatClampNeg = c := by rw [h46, nI_clamp (by omega)]
  intro o9 o10 o11 o12
  refine vc135_89 hD ⟨fun q => absurd q (nI_ne_m1 (by omega)), fun _ => ⟨hvj, ?_⟩⟩
  rw [hcj, hci]
  refine ⟨fun _ => ⟨fun q => absurd q hB.1, fun _ => ⟨fun q => absurd hB.2 q, fun _ => ?_⟩⟩, fun q => absurd (lb_isB_mode hj hB) q⟩
  refine ⟨⟨fun _ => trivial, fun _ => ⟨hvi, fun q => hp (fun e => q (hz.mpr e)), fun _ => trivial, fun _ => trivial⟩⟩, ?_⟩
  intro s3 e3 s4 e4
  refine ⟨⟨fun q => ⟨hst q, trivial⟩, fun _ => trivial⟩, ?_⟩
  intro s5 e5
  have e4 : s4 = lb_own M i st j := by rw [e4, e3]; rfl
  rw [e4] at e5
  have eT : lb_end ((md_flts M c).drop 0) s5 = lb_to M i st j := by rw [List.drop_zero, e5, lb_to, hcl]
  exact c_lb_floats hD hi hp hR hc h46 (T := lb_to M i st j) hk c 0 s5 (by omega) eT
/-- lines begin -/
theorem c_lb_go {xs : List Int32} {mo : Nat} {ad : Nat → Nat} (hD : md_D mo ad) {h0 : am_H} {d : Nat} {Q : Option Value → md_S → Prop} {M : md_S} {i j : Nat} {th : Int32} {st : lb_S} (hj : j < 60) (hm : ¬ M.2 12 j = 0) (hB : ¬ lb_isB M j) (hst : ¬ st.2.1 = -1 → vp_in st.2.1 60)
    (hk : lb_B xs mo ad h0 d Q i th st (nI j) (lb_go M st)) : lb_A xs mo ad h0 d Q i th st (nI j) M := by
  have hcj : (nI j).toNatClampNeg = j := nI_clamp (by omega)
  have hvj : vp_in (nI j) 60 := vp_nI hj (by decide)
  intro o9 o10 o11 o12
  refine vc135_89 hD ⟨fun q => absurd q (nI_ne_m1 (by omega)), fun _ => ⟨hvj, ?_⟩⟩
  rw [hcj]
  refine ⟨fun _ => ⟨fun b0 => ⟨⟨fun q => ⟨hst q, trivial⟩, fun _ => trivial⟩, ?_⟩, fun b0 => ⟨fun b1 => ⟨⟨fun q => ⟨hst q, trivial⟩, fun _ => trivial⟩, ?_⟩, fun b1 => absurd ⟨b0, Classical.not_not.mp b1⟩ hB⟩⟩, fun q => absurd hm q⟩
  · rintro _ rfl _ rfl _ rfl _ rfl _ rfl _ rfl
    exact hk _ _ _ _
  · rintro _ rfl _ rfl _ rfl _ rfl _ rfl _ rfl
    exact hk _ _ _ _
