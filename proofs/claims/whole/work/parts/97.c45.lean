/-! the class: new cells; references to what is no longer a node (by hand: wip/whole/gen/c45.py) -/
theorem cl_R.grow {K : Nat → Prop} {A A' : cl_A} {S S' : cl_S} {h h' : am_H} (hR : cl_R K A S h) (hK : ∀ a, K a → a < h.length) (hpre : ∀ a, a < h.length → h'[a]? = h[a]?) (hle : h.length ≤ h'.length) (hlen : h'.length = S'.2.2.1) (hsl : am_sl h' = S'.2.2.2) (hold : ∀ f i, S'.1 f i → (S.1 f i ∧ A' f i = A f i ∧ cl_cell A' S' f i = cl_cell A S f i) ∨ (h.length ≤ A' f i ∧ h'[A' f i]? = some (cl_cell A' S' f i))) (hinj : ∀ f i g j, S'.1 f i → S'.1 g j → h.length ≤ A' f i → A' f i = A' g j → f = g ∧ i = j) : cl_R K A' S' h' ∧ cl_Fr K h h' := by
  have hlt : ∀ f i, S.1 f i → A f i < h.length := fun f i hs => (List.getElem?_eq_some_iff.mp (hR.1 f i hs).1).1
  refine ⟨⟨fun f i hs => ?_, fun f i g j hf hg e => ?_, hlen, hsl⟩, hle, fun a ha => hpre a (hK a ha)⟩
  · rcases hold f i hs with ⟨o1, o2, o3⟩ | ⟨o1, o2⟩
    · rw [o2, o3, hpre _ (hlt f i o1)]
      exact hR.1 f i o1
    · exact ⟨o2, fun q => by have := hK _ q; omega⟩
  · rcases hold f i hf with ⟨o1, o2, o3⟩ | ⟨o1, o2⟩
    · rcases hold g j hg with ⟨p1, p2, p3⟩ | ⟨p1, p2⟩
      · rw [o2, p2] at e
        exact hR.2.1 f i g j o1 p1 e
      · have := hinj g j f i hg hf p1 e.symm
        exact ⟨this.1.symm, this.2.symm⟩
    · exact hinj f i g j hf hg o1 e
/-- codes for cells that are no longer nodes or boxes -/
def GA (A : cl_A) : Prop := (∀ i, A 5 i < 2000000 ∧ A 0 i < 2000000) ∧ ∀ a, a < 2000000 → A 5 (100 + a) = a ∧ A 0 (10000 + a) = a
def rcv (A : cl_A) (g off : Nat) (kp : Nat → Bool) (v : Int32) : Int32 := if v = -1 then -1 else if kp v.toNatClampNeg = true then v else nI (off + A g v.toNatClampNeg)
def XNf : List Nat := [102, 103, 200, 207, 208, 502, 505, 506, 507, 515, 2100]
def XBf : List Nat := [4, 400, 401]
def cl_rc (A : cl_A) (kN kB : Nat → Bool) (S : cl_S) : cl_S := (S.1, fun g i => if g ∈ XNf then rcv A 5 100 kN (S.2.1 g i) else if g ∈ XBf then rcv A 0 10000 kB (S.2.1 g i) else S.2.1 g i, S.2.2)
theorem rc_N {A : cl_A} {kN kB : Nat → Bool} {S : cl_S} {g : Nat} (h : g ∈ XNf) (i : Nat) : (cl_rc A kN kB S).2.1 g i = rcv A 5 100 kN (S.2.1 g i) := if_pos h
theorem rc_B {A : cl_A} {kN kB : Nat → Bool} {S : cl_S} {g : Nat} (h : g ∈ XBf) (h' : g ∉ XNf) (i : Nat) : (cl_rc A kN kB S).2.1 g i = rcv A 0 10000 kB (S.2.1 g i) := by
  show (if g ∈ XNf then _ else if g ∈ XBf then _ else _) = _
  rw [if_neg h', if_pos h]
theorem rc_O {A : cl_A} {kN kB : Nat → Bool} {S : cl_S} {g : Nat} (h : g ∉ XNf) (h' : g ∉ XBf) (i : Nat) : (cl_rc A kN kB S).2.1 g i = S.2.1 g i := by
  show (if g ∈ XNf then _ else if g ∈ XBf then _ else _) = _
  rw [if_neg h, if_neg h']
/-- a reference, coded anew, among changed addresses -/
theorem rcv_rf {A A' : cl_A} {g off : Nat} {kp : Nat → Bool} (hoff : off ≤ 10000) (hb : ∀ i, A g i < 2000000) (hg : ∀ a, a < 2000000 → A g (off + a) = a) (h1 : ∀ i, kp i = true → A' g i = A g i) (h2 : ∀ a, a < 2000000 → A' g (off + a) = A g (off + a)) (v : Int32) : cl_rf A' g (rcv A g off kp v) = cl_rf A g v := by
  unfold rcv
  by_cases c : v = -1
  · rw [if_pos c, c]
    unfold cl_rf
    rw [if_pos rfl, if_pos rfl]
  · rw [if_neg c]
    by_cases c2 : kp v.toNatClampNeg = true
    · rw [if_pos c2]
      unfold cl_rf
      rw [if_neg c, if_neg c, h1 _ c2]
    · rw [if_neg c2]
      have hx := hb v.toNatClampNeg
      unfold cl_rf
      rw [if_neg c, if_neg (nI_ne_m1 (by omega)), nI_clamp (by omega), h2 _ hx, hg _ hx]
/-- how addresses may change while all cells stay -/
def AC (A A' : cl_A) (kN kB : Nat → Bool) : Prop := (∀ i, kN i = true → A' 5 i = A 5 i) ∧ (∀ a, a < 2000000 → A' 5 (100 + a) = A 5 (100 + a)) ∧ (∀ i, kB i = true → A' 0 i = A 0 i) ∧ ∀ a, a < 2000000 → A' 0 (10000 + a) = A 0 (10000 + a)
theorem fv_rc {A A' : cl_A} {kN kB : Nat → Bool} {S : cl_S} (hG : GA A) (hc : AC A A' kN kB) {c k i : Nat} (hk : k < cl_nf c) (hown : ∀ v, 2 ≤ (cl_ft c k).1 → cl_dv A' (cl_ft c k) i v = cl_dv A (cl_ft c k) i v) : cl_fv A' (cl_rc A kN kB S) c k i = cl_fv A S c k i := by
  obtain ⟨a1, a2, a3, a4⟩ := hc
  have hN : ∀ v, cl_rf A' 5 (rcv A 5 100 kN v) = cl_rf A 5 v := rcv_rf (by omega) (fun i => (hG.1 i).1) (fun a ha => (hG.2 a ha).1) a1 a2
  have hB : ∀ v, cl_rf A' 0 (rcv A 0 10000 kB v) = cl_rf A 0 v := rcv_rf (by omega) (fun i => (hG.1 i).2) (fun a ha => (hG.2 a ha).2) a3 a4
  unfold cl_fv
  have hcc : c < 11 := by
    rcases Nat.lt_or_ge c 11 with q | q
    · exact q
    · have : cl_nf c = 0 := by
        unfold cl_nf
        split <;> first | omega | rfl
      omega
  have hk16 : k < 16 := Nat.lt_of_lt_of_le hk (cl_nf_le c)
  have hcase : (cl_ft c k = (1, 5) ∧ 100 * c + k ∈ XNf) ∨ (cl_ft c k = (1, 0) ∧ 100 * c + k ∈ XBf ∧ 100 * c + k ∉ XNf) ∨ ((cl_ft c k).1 = 0 ∨ 2 ≤ (cl_ft c k).1) ∧ 100 * c + k ∉ XNf ∧ 100 * c + k ∉ XBf := by
    have : ∀ c ∈ List.range 11, ∀ k ∈ List.range 16, (cl_ft c k = (1, 5) ∧ 100 * c + k ∈ XNf) ∨ (cl_ft c k = (1, 0) ∧ 100 * c + k ∈ XBf ∧ 100 * c + k ∉ XNf) ∨ ((cl_ft c k).1 = 0 ∨ 2 ≤ (cl_ft c k).1) ∧ 100 * c + k ∉ XNf ∧ 100 * c + k ∉ XBf := by decide
    exact this c (List.mem_range.mpr hcc) k (List.mem_range.mpr hk16)
  rcases hcase with ⟨e1, e2⟩ | ⟨e1, e2, e3⟩ | ⟨e1, e2, e3⟩
  · rw [e1, rc_N e2]
    exact hN _
  · rw [e1, rc_B e2 e3]
    exact hB _
  · rw [rc_O e2 e3]
    rcases e1 with e1 | e1
    · unfold cl_dv
      rw [e1]
      rfl
    · exact hown _ e1
theorem cell_rc {A A' : cl_A} {kN kB : Nat → Bool} {S : cl_S} (hG : GA A) (hc : AC A A' kN kB) {f i : Nat} (hown : f < 20 → ∀ k, k < cl_nf f → ∀ v, 2 ≤ (cl_ft f k).1 → cl_dv A' (cl_ft f k) i v = cl_dv A (cl_ft f k) i v) (h24 : f = 24 → ∀ p, p < 13 → A' 2 p = A 2 p) (h25 : 25 ≤ f → ∀ p, p < (S.2.1 2501 i).toNatClampNeg → cl_rf A' 7 (S.2.1 2500 p) = cl_rf A 7 (S.2.1 2500 p)) : cl_cell A' (cl_rc A kN kB S) f i = cl_cell A S f i := by
  unfold cl_cell
  by_cases hf : f < 20
  · rw [if_pos hf, if_pos hf]
    congr 2
    apply List.map_congr_left
    intro k hk
    exact fv_rc hG hc (List.mem_range.mp hk) (hown hf k (List.mem_range.mp hk))
  · rw [if_neg hf, if_neg hf]
    obtain ⟨a1, a2, a3, a4⟩ := hc
    have hN : ∀ v, cl_rf A' 5 (rcv A 5 100 kN v) = cl_rf A 5 v := rcv_rf (by omega) (fun i => (hG.1 i).1) (fun a ha => (hG.2 a ha).1) a1 a2
    congr 1
    have e2000 : ∀ p, (cl_rc A kN kB S).2.1 2000 p = S.2.1 2000 p := rc_O (by decide) (by decide)
    have e2100 : ∀ p, (cl_rc A kN kB S).2.1 2100 p = rcv A 5 100 kN (S.2.1 2100 p) := rc_N (by decide)
    have e2200 : ∀ p, (cl_rc A kN kB S).2.1 2200 p = S.2.1 2200 p := rc_O (by decide) (by decide)
    have e2300 : ∀ p, (cl_rc A kN kB S).2.1 2300 p = S.2.1 2300 p := rc_O (by decide) (by decide)
    have e2301 : ∀ p, (cl_rc A kN kB S).2.1 2301 p = S.2.1 2301 p := rc_O (by decide) (by decide)
    have e2500 : ∀ p, (cl_rc A kN kB S).2.1 2500 p = S.2.1 2500 p := rc_O (by decide) (by decide)
    have e2501 : ∀ p, (cl_rc A kN kB S).2.1 2501 p = S.2.1 2501 p := rc_O (by decide) (by decide)
    unfold cl_ar
    split
    · simp only [e2000]
    · simp only [e2100, hN]
    · simp only [e2200]
    · simp only [e2300, e2301]
    · congr 1
      apply List.map_congr_left
      intro p hp
      rw [h24 rfl p (List.mem_range.mp hp)]
    · rename_i h20 h21 h22 h23 h24'
      rw [e2501]
      congr 1
      apply List.map_congr_left
      intro p hp
      rw [e2500]
      refine h25 ?_ p (List.mem_range.mp hp)
      have q20 : ¬ f = 20 := h20
      have q21 : ¬ f = 21 := h21
      have q22 : ¬ f = 22 := h22
      have q23 : ¬ f = 23 := h23
      have q24 : ¬ f = 24 := h24'
      omega
