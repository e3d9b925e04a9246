/-! the class: what a laying keeps and leaves (by hand: wip/whole/gen/c13.py) -/
/-- the class's role of a reference's mode -/
def ro (m : Int32) : Int32 := if m = 0 then 3 else if m = 1 then 0 else if m = 2 then 2 else 1
/-- the class after prepare, the reference after its first loop -/
def la_T (S : cl_S) (P : md_S) (nn W : Nat) : Prop := cl_T S P nn ∧ (∀ i, i < nn → S.2.1 509 i = ro (P.2 12 i) ∧ S.2.1 510 i = P.2 13 i ∧ S.2.1 513 i = P.2 28 i ∧ S.2.1 514 i = nI (l1_w P i)) ∧ (∃ Wp, wp_R S Wp ∧ W ≤ Wp) ∧ S.2.1 301 0 = nI W ∧ ∀ w, w < W → S.2.1 701 w = P.2 31 w ∧ S.2.1 2 (60 + w) = P.2 35 w ∧ S.2.1 3 (60 + w) = P.2 36 w
def X_lay : List Nat := [0, 1, 2, 3, 4, 100, 101, 102, 103, 104, 105, 200, 201, 202, 203, 204, 205, 206, 207, 208, 400, 401, 402, 403, 404, 511, 515, 600, 601]
/-- the box of a node of T, or of a word of such a node -/
def inT (P : md_S) (W : Nat) (T : List Nat) (b : Nat) : Prop := b ∈ T ∨ ∃ w m, b = 60 + w ∧ w < W ∧ m ∈ T ∧ P.2 30 w = nI m
theorem inT.sub {P : md_S} {W : Nat} {T T' : List Nat} (h : ∀ x ∈ T, x ∈ T') {b : Nat} (hb : inT P W T b) : inT P W T' b := by
  rcases hb with hb | ⟨w, m, h1, h2, h3, h4⟩
  · exact Or.inl (h b hb)
  · exact Or.inr ⟨w, m, h1, h2, h m h3, h4⟩
/-- what laying within T keeps: all else; flows below e -/
def FR (P : md_S) (W : Nat) (T T5 : List Nat) (e : Nat) (S S' : cl_S) : Prop := cl_X X_lay S S' ∧ (∀ b, ¬ inT P W T b → ∀ g, g < 5 → S'.2.1 g b = S.2.1 g b) ∧ (∀ b, 60 ≤ b → S'.2.1 2 b = S.2.1 2 b ∧ S'.2.1 3 b = S.2.1 3 b) ∧ (∀ m, ¬ (m ∈ T ∧ f_boxy P m) → S'.2.1 511 m = S.2.1 511 m) ∧ (∀ m, m ∉ T5 → S'.2.1 515 m = S.2.1 515 m) ∧ ∀ g, 100 ≤ g → g < 500 → ∀ f, f < e → S'.2.1 g f = S.2.1 g f
theorem FR.rf {P : md_S} {W e : Nat} {T T5 : List Nat} {S : cl_S} : FR P W T T5 e S S := ⟨cl_X.rf, fun _ _ _ _ => rfl, fun _ _ => ⟨rfl, rfl⟩, fun _ _ => rfl, fun _ _ => rfl, fun _ _ _ _ _ => rfl⟩
theorem FR.tr {P : md_S} {W e : Nat} {T T5 : List Nat} {S S1 S2 : cl_S} (a : FR P W T T5 e S S1) (b : FR P W T T5 e S1 S2) : FR P W T T5 e S S2 :=
  ⟨a.1.tr b.1, fun x h g hg => (b.2.1 x h g hg).trans (a.2.1 x h g hg), fun x h => ⟨(b.2.2.1 x h).1.trans (a.2.2.1 x h).1, (b.2.2.1 x h).2.trans (a.2.2.1 x h).2⟩, fun m h => (b.2.2.2.1 m h).trans (a.2.2.2.1 m h), fun m h => (b.2.2.2.2.1 m h).trans (a.2.2.2.2.1 m h), fun g h1 h2 f hf => (b.2.2.2.2.2 g h1 h2 f hf).trans (a.2.2.2.2.2 g h1 h2 f hf)⟩
theorem FR.sub {P : md_S} {W e e' : Nat} {T T5 T' T5' : List Nat} {S S' : cl_S} (a : FR P W T T5 e S S') (h1 : ∀ x ∈ T, x ∈ T') (h2 : ∀ x ∈ T5, x ∈ T5') (h3 : e' ≤ e) : FR P W T' T5' e' S S' :=
  ⟨a.1, fun b h => a.2.1 b (fun q => h (q.sub h1)), a.2.2.1, fun m h => a.2.2.2.1 m (fun q => h ⟨h1 m q.1, q.2⟩), fun m h => a.2.2.2.2.1 m (fun q => h (h2 m q)), fun g g1 g2 f hf => a.2.2.2.2.2 g g1 g2 f (Nat.lt_of_lt_of_le hf h3)⟩
/-- flows and ruler alone -/
theorem FR.flow {P : md_S} {W e : Nat} {T T5 : List Nat} {S S' : cl_S} {cs : List Nat} (hX : cl_X cs S S') (hc : ∀ g ∈ cs, g ∈ X_lay ∧ (100 ≤ g ∧ g < 500 ∨ g = 600 ∨ g = 601)) (hf : ∀ g, 100 ≤ g → g < 500 → ∀ f, f < e → S'.2.1 g f = S.2.1 g f) : FR P W T T5 e S S' :=
  ⟨hX.sub (fun g hg => (hc g hg).1), fun b _ g hg => by rw [hX.2.2 g (fun q => by have := (hc g q).2; omega)], fun b _ => by rw [hX.2.2 2 (fun q => by have := (hc 2 q).2; omega), hX.2.2 3 (fun q => by have := (hc 3 q).2; omega)]; exact ⟨rfl, rfl⟩, fun m _ => by rw [hX.2.2 511 (fun q => by have := (hc 511 q).2; omega)], fun m _ => by rw [hX.2.2 515 (fun q => by have := (hc 515 q).2; omega)], hf⟩
theorem cl_ru_FR {P : md_S} {W e : Nat} {T T5 : List Nat} {S : cl_S} (x : Int32 × Int32) : FR P W T T5 e S (cl_ru S x) :=
  FR.flow (cl_ru_X S x) (by decide) (fun g h1 h2 f _ => by rw [(cl_ru_X S x).2.2 g (by simp; omega)])
theorem la_T.fr {S S' : cl_S} {P : md_S} {nn W e : Nat} {T T5 : List Nat} (h : la_T S P nn W) (hF : FR P W T T5 e S S') : la_T S' P nn W := by
  obtain ⟨h1, h2, ⟨Wp, ⟨p1, p2, p3, p4, p5⟩, hW⟩, h4, h5⟩ := h
  have hX := hF.1
  have eq : ∀ g, g ∉ X_lay → S'.2.1 g = S.2.1 g := hX.2.2
  refine ⟨h1.x hX (by decide), fun i hi => ?_, ⟨Wp, ⟨p1, ?_, ?_, ?_, ?_⟩, hW⟩, ?_, fun w hw => ?_⟩
  · rw [eq 509 (by decide), eq 510 (by decide), eq 513 (by decide), eq 514 (by decide)]
    exact h2 i hi
  · rw [eq 1002 (by decide)]; exact p2
  · rw [eq 2501 (by decide)]; exact p3
  · rw [eq 1001 (by decide), hX.1]; exact p4
  · intro w hw
    rw [eq 2500 (by decide)]
    exact ⟨(p5 w hw).1, (p5 w hw).2.mv hX.1⟩
  · rw [eq 301 (by decide)]; exact h4
  · rw [eq 701 (by decide), (hF.2.2.1 (60 + w) (by omega)).1, (hF.2.2.1 (60 + w) (by omega)).2]
    exact h5 w hw
/-- all in a forest is where the reference puts it, from an origin on -/
def lo_F (P : md_S) (W : Nat) (S : cl_S) : bt → Int32 → Int32 → Prop
  | .leaf _, _, _ => True
  | .branch n k s, ox, oy => (f_boxy P n → S.2.1 0 n = P.2 15 n + ox ∧ S.2.1 1 n = P.2 16 n + oy ∧ S.2.1 2 n = P.2 17 n ∧ S.2.1 3 n = P.2 18 n ∧ S.2.1 511 n = 1) ∧ (∀ w, w < W → P.2 30 w = nI n → S.2.1 0 (60 + w) = P.2 33 w + ox ∧ S.2.1 1 (60 + w) = P.2 34 w + oy) ∧ lo_F P W S k (if f_isBox P (nI n) = 0 then ox else P.2 15 n + ox + f_edges P (nI n)) (if f_isBox P (nI n) = 0 then oy else P.2 16 n + oy + f_edges P (nI n)) ∧ lo_F P W S s ox oy
theorem lo_F.mv {P : md_S} {W : Nat} {S S' : cl_S} : ∀ {t : bt} {ox oy : Int32}, (∀ b, inT P W (bt_pre t) b → S'.2.1 0 b = S.2.1 0 b ∧ S'.2.1 1 b = S.2.1 1 b ∧ S'.2.1 2 b = S.2.1 2 b ∧ S'.2.1 3 b = S.2.1 3 b) → (∀ m ∈ bt_pre t, S'.2.1 511 m = S.2.1 511 m) → lo_F P W S t ox oy → lo_F P W S' t ox oy := by
  intro t
  induction t with
  | leaf u => intro ox oy _ _ _; trivial
  | branch n k s ihk ihs =>
    intro ox oy h1 h2 h
    obtain ⟨a1, a2, a3, a4⟩ := h
    have hk : ∀ x ∈ bt_pre k, x ∈ bt_pre (.branch n k s) := fun x hx => by simp [bt_pre, hx]
    have hs : ∀ x ∈ bt_pre s, x ∈ bt_pre (.branch n k s) := fun x hx => by simp [bt_pre, hx]
    have hn : n ∈ bt_pre (.branch n k s) := by simp [bt_pre]
    refine ⟨fun hb => ?_, fun w hw h30 => ?_, ihk (fun b hb => h1 b (hb.sub hk)) (fun m hm => h2 m (hk m hm)) a3, ihs (fun b hb => h1 b (hb.sub hs)) (fun m hm => h2 m (hs m hm)) a4⟩
    · obtain ⟨e0, e1, e2, e3⟩ := h1 n (Or.inl hn)
      rw [e0, e1, e2, e3, h2 n hn]
      exact a1 hb
    · obtain ⟨e0, e1, _, _⟩ := h1 (60 + w) (Or.inr ⟨w, n, rfl, hw, hn, h30⟩)
      rw [e0, e1]
      exact a2 w hw h30
/-- kept where nothing was touched -/
theorem lo_F.fr {P : md_S} {W e : Nat} {S S' : cl_S} {t : bt} {ox oy : Int32} {T T5 : List Nat} (hF : FR P W T T5 e S S') (hd : ∀ x ∈ bt_pre t, x ∉ T) (h60 : ∀ x ∈ bt_pre t, x < 60) (hT60 : ∀ x ∈ T, x < 60) (h : lo_F P W S t ox oy) : lo_F P W S' t ox oy := by
  refine lo_F.mv (fun b hb => ?_) (fun m hm => hF.2.2.2.1 m (fun q => hd m hm q.1)) h
  have hnb : ¬ inT P W T b := by
    intro q
    rcases hb with hb | ⟨w, m, h1, h2, h3, h4⟩
    · rcases q with q | ⟨w, m, h1, _⟩
      · exact hd b hb q
      · have := h60 b hb; omega
    · rcases q with q | ⟨w', m', h1', h2', h3', h4'⟩
      · have := hT60 b q; omega
      · obtain rfl : w' = w := by omega
        have e : m = m' := by
          have := h4.symm.trans h4'
          exact (nI_eq (by have := h60 m h3; omega) (by have := hT60 m' h3'; omega)).mp this
        subst e
        exact hd m h3 h3'
  exact ⟨hF.2.1 b hnb 0 (by decide), hF.2.1 b hnb 1 (by decide), hF.2.1 b hnb 2 (by decide), hF.2.1 b hnb 3 (by decide)⟩
/-- within a bound -/
abbrev nb (B : Nat) (x : Int32) : Prop := -(B : Int) ≤ x.toInt ∧ x.toInt ≤ (B : Int)
abbrev nz (B : Nat) (x : Int32) : Prop := 0 ≤ x.toInt ∧ x.toInt ≤ (B : Int)
theorem nb_bd {B : Nat} {x : Int32} (h : nb B x) (hB : B ≤ 1073741823) : bd x := ⟨by omega, by omega⟩
theorem nz_nb {B : Nat} {x : Int32} (h : nz B x) : nb B x := ⟨by omega, h.2⟩
theorem nz_bd {B : Nat} {x : Int32} (h : nz B x) (hB : B ≤ 1073741823) : bd x := nb_bd (nz_nb h) hB
theorem more_toInt (a b : Int32) : (f_more a b).toInt = max a.toInt b.toInt := by
  unfold f_more
  split
  · next h => rw [Int32.le_iff_toInt_le] at h; omega
  · next h => rw [Int32.le_iff_toInt_le] at h; omega
theorem less_toInt (a b : Int32) : (f_less a b).toInt = min a.toInt b.toInt := by
  unfold f_less
  split
  · next h => rw [Int32.le_iff_toInt_le] at h; omega
  · next h => rw [Int32.le_iff_toInt_le] at h; omega
theorem more_assoc (a b c : Int32) : f_more (f_more a b) c = f_more a (f_more b c) := by
  apply Int32.toInt_inj.mp
  rw [more_toInt, more_toInt, more_toInt, more_toInt]
  omega
theorem more_fold (g : sp_fl → Int32) : ∀ (fs : List sp_fl) (y z : Int32), fs.foldl (fun a f => f_more a (g f)) (f_more y z) = f_more y (fs.foldl (fun a f => f_more a (g f)) z) := by
  intro fs
  induction fs with
  | nil => intro y z; rfl
  | cons f fs ih =>
    intro y z
    rw [List.foldl_cons, List.foldl_cons, more_assoc, ih]
theorem more_0 {y : Int32} (h : 0 ≤ y.toInt) : f_more y 0 = y := by
  apply Int32.toInt_inj.mp
  rw [more_toInt]
  have : (0 : Int32).toInt = 0 := by decide
  omega
theorem sp_tops_0 {y : Int32} {fs : List sp_fl} (h : 0 ≤ y.toInt) : sp_tops fs y = f_more y (sp_tops fs 0) := by
  unfold sp_tops
  rw [← more_fold, more_0 h]
theorem lb_end_0 {y : Int32} {fs : List sp_fl} (h : 0 ≤ y.toInt) : lb_end fs y = f_more y (lb_end fs 0) := by
  unfold lb_end
  rw [← more_fold, more_0 h]
theorem sp_tops_app (fs : List sp_fl) (f : sp_fl) (y : Int32) : sp_tops (fs ++ [f]) y = f_more (sp_tops fs y) f.2.2.1 := by
  unfold sp_tops
  rw [List.foldl_append]
  rfl
theorem lb_end_app (fs : List sp_fl) (f : sp_fl) (y : Int32) : lb_end (fs ++ [f]) y = f_more (lb_end fs y) f.2.2.2.1 := by
  unfold lb_end
  rw [List.foldl_append]
  rfl
/-- a float within a bound -/
def fl_b (B : Nat) (f : sp_fl) : Prop := nb B f.1 ∧ nb B f.2.1 ∧ nz B f.2.2.1 ∧ nz B f.2.2.2.1
theorem nb_mono {B B' : Nat} {x : Int32} (h : nb B x) (hB : B ≤ B') : nb B' x := ⟨by omega, by omega⟩
theorem nz_mono {B B' : Nat} {x : Int32} (h : nz B x) (hB : B ≤ B') : nz B' x := ⟨by omega, by omega⟩
theorem fl_b.mono {B B' : Nat} {f : sp_fl} (h : fl_b B f) (hB : B ≤ B') : fl_b B' f := ⟨nb_mono h.1 hB, nb_mono h.2.1 hB, nz_mono h.2.2.1 hB, nz_mono h.2.2.2 hB⟩
theorem fold_nz {B : Nat} {g : sp_fl → Int32} : ∀ (fs : List sp_fl) (y : Int32), (∀ f ∈ fs, nz B (g f)) → nz B y → nz B (fs.foldl (fun a f => f_more a (g f)) y) := by
  intro fs
  induction fs with
  | nil => intro y _ h; exact h
  | cons f fs ih =>
    intro y h hy
    refine ih _ (fun q hq => h q (by simp [hq])) ?_
    have := h f (by simp)
    unfold nz at *
    rw [more_toInt]
    omega
theorem edges_nb {B : Nat} {y : Int32} : ∀ (fs : List sp_fl) (e : Int32 × Int32), (∀ f ∈ fs, fl_b B f) → nb B e.1 → nb B e.2 → nb B (fs.foldl (sp_edge1 y) e).1 ∧ nb B (fs.foldl (sp_edge1 y) e).2 := by
  intro fs
  induction fs with
  | nil => intro e _ h1 h2; exact ⟨h1, h2⟩
  | cons f fs ih =>
    intro e h h1 h2
    have hf := h f (by simp)
    have : nb B (sp_edge1 y e f).1 ∧ nb B (sp_edge1 y e f).2 := by
      unfold sp_edge1
      split
      · exact ⟨h1, h2⟩
      · split
        · exact ⟨h1, h2⟩
        · split
          · refine ⟨h1, ?_⟩
            have := hf.1
            unfold nb at *
            show _ ≤ (f_less e.2 f.1).toInt ∧ (f_less e.2 f.1).toInt ≤ _
            rw [less_toInt]
            omega
          · refine ⟨?_, h2⟩
            have := hf.2.1
            unfold nb at *
            show _ ≤ (f_more e.1 f.2.1).toInt ∧ (f_more e.1 f.2.1).toInt ≤ _
            rw [more_toInt]
            omega
    exact ih _ (fun q hq => h q (by simp [hq])) this.1 this.2
theorem least_nz {B : Nat} {y : Int32} {fs : List sp_fl} (h : ∀ f ∈ fs, fl_b B f) (hl : ¬ sp_least y fs = -1) : nz B (sp_least y fs) := by
  rcases sp_least_of y fs (-1) with e | ⟨f, hf, h1, h2⟩
  · exact absurd e hl
  · have h2 : sp_least y fs = f.2.2.2.1 := h2
    rw [h2]
    exact (h f hf).2.2.2
theorem room_nz {B : Nat} {bw w : Int32} {fs : List sp_fl} (h : ∀ f ∈ fs, fl_b B f) : ∀ (r : Nat) (y : Int32), nz B y → nz B (sp_rm bw w fs r y) := by
  intro r
  induction r with
  | zero => intro y hy; exact hy
  | succ r ih =>
    intro y hy
    unfold sp_rm
    split
    · exact hy
    · split
      · exact hy
      · next q => exact ih _ (least_nz h q)
