/-! the reference: lay once more (by hand: wip/whole/gen/c72.py, out of m29.py) -/
/-- lay, and what it leaves of the plain fields -/
theorem c_layX {xs : List Int32} {mo : Nat} {ad : Nat → Nat} {d : Nat} {M : md_S} {K : bt} {nn : Nat} {w : Int32} (hD : md_D mo ad) (hT : md_T M K nn) (hy : ∀ x ∈ bt_pre (bt_root K), by_ok M x) : ∀ Q', (lay_ok w → ∀ M1 M2 W, mo_F M M1 K nn → l1_P w (md_up1 M1 29 0) M2 (bt_root K) 0 → W = l1_ws M2 (bt_root K) → (∀ f, f ∉ X_L → (f_lay4 M2 K W).1 f = M2.1 f) → Q' (some (.int ((f_lay4 M2 K W).2 18 0))) (f_lay4 M2 K W)) → (¬ lay_ok w → Q' (some (.int (-1))) M) → md_C xs mo ad (d + 12) 115 [.int w] M Q' := by
  intro Q' hY hQ
  have hpq := md_T_pq hT
  have hT' := hT
  obtain ⟨hR, hn, hl, h60⟩ := hT'
  refine md_intro (ms115 xs) (Nat.le_of_ble_eq_true rfl) (fun h0 => vc115_0 hD ?_)
  refine ⟨fun c => hQ (fun o => o.1 c), fun c1 => ⟨fun c2 => ?_, fun c => hQ (fun o => c o.2)⟩⟩
  have hY := hY ⟨c1, c2⟩
  refine c_modes hD hT _ (fun M1 hF => ⟨rfl, ?_⟩)
  intro N e
  have hYN := hY M1
  have xN : md_X [22, 29] [12, 13, 14, 19, 20, 21] M N := by
    rw [e]
    exact (hF.1.sub (by decide) (by decide)).up1 (by decide) _
  have lN : N.2 = M1.2 := by rw [e]; rfl
  have hRN : bt_R (N.2 4) (N.2 5) (N.2 7) (-1) (bt_root K) := by rw [xN.2 4 (by decide), xN.2 5 (by decide), xN.2 7 (by decide)]; exact hR
  have h22 : N.1 22 = nI nn := by rw [e, md_up1_ne _ (by decide)]; exact hF.2.1
  have h29 : N.1 29 = nI 0 := by rw [e, md_up1_at]; rfl
  have hord : mo_ord N (bt_root K) 0 := mo_ord_same (by rw [lN]) hF.2.2.1
  have hm6 := bt_R_mem hR
  have hmo : ∀ x ∈ bt_pre (bt_root K), mo_eq N x := by
    intro x hx
    have hat : ∀ j, mo_at M1 N j := fun j => ⟨by rw [lN], by rw [lN], by rw [lN]⟩
    exact mo_eq_congr (by rw [lN]) (by rw [lN]) (by rw [lN]) (hm6 x hx) (hat x) (fun _ => hat _) (hF.2.2.2.1 x hx)
  have hyN : ∀ x ∈ bt_pre (bt_root K), by_ok N x := fun x hx => by
    obtain ⟨c, c1, c2⟩ := hy x hx
    exact ⟨c, c1, by rw [xN.2 11 (by decide)]; exact c2⟩
  have hn' := hn
  rw [md_T_pre] at hn'
  obtain ⟨n0, nK⟩ := List.nodup_cons.mp hn'
  have hlK : (bt_pre K).length + 1 = nn := by rw [md_T_pre] at hl; simpa using hl
  -- the root
  have hm0 := hmo 0 (by simp [bt_pre])
  have hmode0 : N.2 12 0 = 1 ∨ N.2 12 0 = 2 := by
    have := hm0.2.1
    rw [if_pos rfl] at this
    rw [this]
    split
    · exact Or.inl rfl
    · exact Or.inr rfl
  have hbx0 : f_bx N 0 = nI 0 := by
    have hc0 : (nI 0).toNatClampNeg = 0 := rfl
    unfold f_bx
    rw [if_neg]
    unfold f_isBox
    rw [hc0]
    rcases hmode0 with h | h
    · rw [h]; decide
    · rw [h]; decide
  have hw60 : ∀ x ∈ bt_pre (bt_root K), l1_w N x ≤ 60 := by
    intro x hx
    unfold l1_w
    split
    · exact ws_le (hyN x hx)
    · omega
  have hws : l1_ws N (bt_root K) ≤ 3600 := by
    have := ls_sum _ hw60
    rw [hl] at this
    unfold l1_ws
    omega
  have hwsb := l1_ws_br N 0 K (.leaf ())
  have hleaf : l1_ws N (.leaf ()) = 0 := rfl
  have hws' : l1_w N 0 + l1_ws N K ≤ 3600 := by
    have h1 : l1_ws N (bt_root K) = l1_w N 0 + l1_ws N K + 0 := hwsb
    omega
  obtain ⟨o1, o2, _⟩ := mo_ord_sub hord
  refine c_l1 (i := 0) (ord := 0) (nn := nn) (W := 0) hD hRN (fun x hx => hyN x (by rw [md_T_pre]; exact hx)) n0 (fun q => absurd rfl q) (fun _ h6 => by rcases hmode0 with h | h <;> rw [h] at h6 <;> exact absurd h6 (by decide)) h22 h60 (by omega) o1 h29 (by omega) (fun N1 o3 hV => ?_)
  have x1 := hV.1
  have hK6 : ∀ x ∈ bt_pre K, x < 60 := fun x hx => hm6 x (by rw [md_T_pre]; exact List.mem_cons_of_mem _ hx)
  have hK0 : ∀ x ∈ bt_pre K, ¬ x = 0 := fun x hx e => n0 (e ▸ hx)
  have hKm : ∀ x ∈ bt_pre K, x ∈ bt_pre (bt_root K) := fun x hx => by rw [md_T_pre]; exact List.mem_cons_of_mem _ hx
  refine c_l1t hD h60 K N1 0 0 1 (0 + l1_w N 0) o3 (by rw [x1.2 4 (by decide), x1.2 5 (by decide), x1.2 7 (by decide)]; exact hRN.2.2.2.2.1) (by decide) (by rw [f_bx_same x1]; exact hbx0) (by decide) n0 nK (fun x hx => ⟨mo_eq_E x1 (hK6 x hx) (hmo x (hKm x hx)), hK0 x hx⟩) (fun x hx => by
    obtain ⟨c, c1, c2⟩ := hyN x (hKm x hx)
    exact ⟨c, c1, by rw [x1.2 11 (by decide)]; exact c2⟩) (mo_ord_same (x1.2 21 (by decide)) o2) ((x1.1 22 (by decide)).trans h22) (by omega) hV.2.1 (by rw [l1_ws_same x1]; omega) (fun N2 o3 hP => ?_)
  have hPT : l1_P w N N2 (bt_root K) 0 := by
    refine l1_comp (b := 0) (fun q => absurd rfl q) (by decide) (fun q => absurd rfl q) (fun q => absurd rfl q) n0 (by simp [bt_pre]) (fun x _ => by simp [bt_pre]) (fun x hx _ => ?_) hV hP ⟨md_X.rf, ?_, fun _ _ => ⟨rfl, rfl, rfl, rfl, rfl⟩, fun _ _ => ⟨rfl, rfl, rfl⟩, trivial⟩
    · rcases bx_in K 0 hRN.2.2.2.2.1 (by decide) (fun y hy => ⟨hmo y (hKm y hy), hK0 y hy⟩) x hx with e | ⟨y, hy', e⟩
      · exact ⟨0, by decide, by simp [bt_pre], e.trans hbx0⟩
      · exact ⟨y, hK6 y hy', by simp [bt_pre], e⟩
    · have := hP.2.1
      rw [l1_ws_same x1] at this
      exact this
  have xP := hPT.1
  have hYN := hYN N2 (l1_ws N2 (bt_root K)) hF (by rw [← e]; exact hPT) rfl
  have e22 : N2.1 22 = nI nn := (xP.1 22 (by decide)).trans h22
  have hW6 : l1_ws N2 (bt_root K) ≤ 3600 := by rw [l1_ws_same xP]; exact hws
  have e29 : N2.1 29 = nI (l1_ws N2 (bt_root K)) := by rw [hPT.2.1, l1_ws_same xP, Nat.zero_add]
  have hR2 : bt_R (N2.2 4) (N2.2 5) (N2.2 7) (-1) (bt_root K) := by rw [xP.2 4 (by decide), xP.2 5 (by decide), xP.2 7 (by decide)]; exact hRN
  have hy2 : ∀ x ∈ bt_pre (bt_root K), by_ok N2 x := fun x hx => by
    obtain ⟨c, c1, c2⟩ := hyN x hx
    exact ⟨c, c1, by rw [xP.2 11 (by decide)]; exact c2⟩
  have hok2 : ∀ x ∈ bt_pre (bt_root K), nd_ok N2 x := by
    intro x hx
    refine ⟨hm6 x hx, fun h6 => ⟨hy2 x hx, ?_⟩⟩
    obtain ⟨k', W', f1, f2⟩ := l1_F_at _ _ hPT.2.2.2.2 x hx
    have elw : l1_w N2 x = (ws_of N2 x).length := by rw [l1_w, if_pos h6]
    refine ⟨W', f1.1, fun q r hq => ?_, by omega⟩
    have := f1.2.2.2 h6 q r hq
    exact ⟨this.1, this.2.1, this.2.2.1⟩
  have hits2 : nd_its N2 (bt_root K) ≤ 3700 := by
    have := ls_sum (f := nd_it N2) (B := 61) (bt_pre (bt_root K)) (fun x hx => by
      have := ws_le (hy2 x hx)
      unfold nd_it
      omega)
    rw [hl] at this
    unfold nd_its
    omega
  have hbox2 : ∀ x ∈ bt_pre (bt_root K), ¬ x = 0 → vp_in (N2.2 14 x) 60 := by
    intro x hx h0x
    have hxK : x ∈ bt_pre K := by
      rw [md_T_pre] at hx
      rcases List.mem_cons.mp hx with q | q
      · exact absurd q h0x
      · exact q
    rw [xP.2 14 (by decide)]
    rcases bx_in K 0 hRN.2.2.2.2.1 (by decide) (fun y hy => ⟨hmo y (hKm y hy), hK0 y hy⟩) x hxK with q | ⟨y, hy', q⟩
    · rw [q, hbx0]
      exact vp_nI (by decide) (by decide)
    · rw [q]
      exact vp_nI (hK6 y hy') (by decide)
  refine vc115_26 hD ⟨fun _ => ?_, fun q => absurd (by rw [e22]; exact nI_le (by omega) (by omega)) q⟩
  rw [e22]
  have c120 := c_lay120 (xs := xs) (mo := mo) (ad := ad) (h0 := h0) (d := d) (Q := Q') (x := w) (o3 := o3) hD (bt_root K) N2 (-1) 0 hR2 hn hok2 (fun x hx h => by rw [xP.2 4 (by decide), xN.2 4 (by decide)]; exact hpq x hx h) hits2 (mo_ord_same (xP.2 21 (by decide)) hord) (by rw [hl]; omega) (fun xp => ?_)
  · rw [hl, Nat.zero_add] at c120
    exact c120
  · refine vc115_120 hD ⟨fun _ => ?_, fun q => absurd (by decide) q⟩
    rintro _ rfl _ rfl
    have c199 := c_lay199 (xs := xs) (mo := mo) (ad := ad) (h0 := h0) (d := d) (Q := Q') (x := w) (o3 := o3) (M := md_up2 (md_up2 (f_p2 (bt_root K) N2) 15 0 0) 16 0 0) hD ?_ 60 0 rfl
    · rw [md_nohad_0] at c199
      exact c199
    · have x5 : md_X X_L [15, 16, 18, 23, 33, 34, 44, 45, 47, 48, 49, 50, 51, 52] N2 (md_nohad (md_up2 (md_up2 (f_p2 (bt_root K) N2) 15 0 0) 16 0 0) 60) :=
        (((xp.sub (by decide) (by decide)).up2 (by decide) _ _).up2 (by decide) _ _).tr ((nohad_X _ 60).sub (by decide) (by decide))
      refine c_lay220 (L := bt_pre (bt_root K)) hD (by rw [hl]; exact h60) hm6 _ 0 _ _ (Nat.zero_add _) (by rw [hl, x5.1 22 (by decide)]; exact e22) (fun q y hq => by
        rw [x5.2 21 (by decide), xP.2 21 (by decide)]
        have := hord q y hq
        rw [Nat.zero_add] at this
        exact this) (fun x hx h => by rw [x5.2 14 (by decide)]; exact hbox2 x hx h) (fun o3 => ?_)
      rw [List.drop_zero]
      have x6 := f_bas_X (bt_pre (bt_root K)) (md_nohad (md_up2 (md_up2 (f_p2 (bt_root K) N2) 15 0 0) 16 0 0) 60)
      refine c_lay385 (W := l1_ws N2 (bt_root K)) hD (by omega) _ 0 _ o3 (Nat.zero_add _) (by rw [x6.1 29 (by simp), x5.1 29 (by decide)]; exact e29) (fun q hq => ?_) ?_
      · rw [x6.2 30 (by decide), x6.2 14 (by decide), x5.2 30 (by decide), x5.2 14 (by decide)]
        obtain ⟨y, hy', ey, h6⟩ := l1_F_word _ _ hPT.2.2.2.2 q (by omega) (by omega)
        have hy6 := hm6 y hy'
        have hy0 : ¬ y = 0 := by
          intro ez
          rw [ez, xP.2 12 (by decide)] at h6
          rcases hmode0 with h | h <;> rw [h] at h6 <;> exact absurd h6 (by decide)
        rw [ey, nI_clamp (by omega)]
        exact ⟨vp_nI hy6 (by decide), hbox2 y hy' hy0⟩
      · rw [List.drop_zero]
        refine hYN (fun f hf => ?_)
        have x7 := (wa_fold (f_lay3 N2 K) (l1_ws N2 (bt_root K))).1
        have e7 : (f_lay4 N2 K (l1_ws N2 (bt_root K))).1 f = (f_lay3 N2 K).1 f := x7.1 f (by simp)
        rw [e7]
        exact (x6.1 f (by simp)).trans (x5.1 f hf)
