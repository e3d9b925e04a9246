/-! the class: what is in a block, from its first to its last (by hand: wip/whole/gen/c29.py) -/
theorem lb_to_ge {xs : List Int32} {K : Nat → Prop} {A : cl_A} {P : md_S} {nn W i f D : Nat} {T : List Nat} {ox oy : Int32} {S : cl_S} {M : md_S} {st : lb_S} {l : List Nat} {V : List (Nat × bt)} {VW : List Nat} {B j : Nat} (h : SMb xs K A P nn W i f D T ox oy S M st l V VW B) (hB : B ≤ 67108000) (ht : nz 50 (lb_own M i st j)) : (yv st).toInt + (bv P st).toInt ≤ (lb_to M i st j).toInt ∧ nz (B + 50) (lb_to M i st j) := by
  obtain ⟨g1, g2, g3, g4, g5, g6, g7, g8, g9, g10, g11, g12⟩ := h
  obtain ⟨a1, a2, a3, a4, a5, a6, a7, a8⟩ := g4
  have hends : nz B (lb_end (md_flts M l.length) 0) := fold_nz (g := fun r => r.2.2.2.1) _ _ (fun r hr => (a8 r hr).2.2.2) ⟨by rw [lit_0]; omega, by rw [lit_0]; omega⟩
  have e46 : (M.1 46).toNatClampNeg = l.length := by rw [a1, nI_clamp (by omega)]
  have hmx : nz 50 (f_more (bv P st) (lb_own M i st j)) := by
    unfold nz at *
    rw [more_toInt]
    omega
  have hx : nz (B + 50) (yv st + f_more (bv P st) (lb_own M i st j)) := nz_add g11 hmx (Nat.le_refl _) (by omega) (by decide)
  have hxe : (yv st + f_more (bv P st) (lb_own M i st j)).toInt = (yv st).toInt + (f_more (bv P st) (lb_own M i st j)).toInt := off_toInt (nz_bd g11 (by omega)) (nz_bd hmx (by decide))
  have hto : lb_to M i st j = f_more (yv st + f_more (bv P st) (lb_own M i st j)) (lb_end (md_flts M l.length) 0) := by
    rw [← lb_end_0 hx.1]
    unfold lb_to
    rw [e46, g2.1 20 (by decide)]
    congr 1
    unfold yv bv
    by_cases c : st.2.1 = -1
    · rw [if_neg (fun r => r c), if_pos c, if_pos c, more0 ht.1]
    · rw [if_pos c, if_neg c, if_neg c]
  refine ⟨?_, ?_⟩
  · rw [hto, more_toInt, hxe, more_toInt]
    omega
  · rw [hto]
    unfold nz at *
    rw [more_toInt]
    omega
/-- how far down the reference has come, between blocks -/
def RI (P : md_S) (i : Nat) (th : Int32) (st : lb_S) : Prop := 0 ≤ st.2.2.2.2.toInt ∧ (st.2.1 = -1 → st.2.2.2.2.toInt ≤ st.1.toInt) ∧ (¬ st.2.1 = -1 → ∃ jl, jl < 60 ∧ st.2.1 = nI jl ∧ st.1 = st.2.2.1 ∧ st.2.2.2.2 = st.2.2.1 + lb_low P i th jl ∧ nz 50 (lb_low P i th jl) ∧ (lb_low P i th jl).toInt ≤ (bv P st).toInt ∧ ¬ f_isBlock P (nI jl) = 0)
def cnF (xs : List Int32) (K : Nat → Prop) (A : cl_A) (P : md_S) (nn W i f D : Nat) (T : List Nat) : bt → Prop
  | .leaf _ => True
  | .branch j k s => (j < nn ∧ ¬ j = i ∧ (∀ x ∈ sub (j, k), x ∈ T) ∧ (P.2 12 j = 0 ↔ f_of P (nI j) 0 = 3) ∧ (lb_isB P j → blk_ok xs K A P nn W i f D T (j, k) ∧ bt_all (fun i k => P.2 3 i = 0 → mg_eq P i k) (.branch j k (.leaf ())) ∧ ¬ f_isBlock P (nI j) = 0) ∧ (¬ lb_isB P j → ¬ P.2 12 j = 0 → nds xs K A P nn W i f D T j k ∧ (P.2 12 j = 3 → ndF xs K A P nn W i f D T k))) ∧ cnF xs K A P nn W i f D T s
def csG (P : md_S) (t : bt) : Nat := csF P t + 50 * (bt_pre t).length
theorem csG_br (P : md_S) (j : Nat) (k s : bt) : cs P j k + 50 + csG P s ≤ csG P (.branch j k s) := by
  unfold csG
  rw [csF_br]
  simp only [bt_pre, List.length_cons, List.length_append]
  omega
section LBS
variable (xs : List Int32) (K : Nat → Prop) (Q : Option Value → cl_A → cl_S → Prop) (A : cl_A) (P : md_S) (nn W i f D d : Nat) (T : List Nat) (ox oy th : Int32)
/-- layDown's end -/
def LDe (S : cl_S) : Prop := cl_C xs K (d + 2) 90 [cl_rf A 5 (nI i), .int 1] A S (fun v A' N2 => A' = A ∧ N2.1 = S.1 ∧ ∃ y2, v = some (cl_rf A 5 y2) ∧ (((y2 = -1) → (cl_f N2 (nI f)) ∧ (Q (some (.int (g_ch N2 (nI f)))) A N2)) ∧ (¬ (y2 = -1) → (cl_f N2 (nI f)) ∧ (Q (some (.int (g_ch (cl_up N2 205 (nI f).toNatClampNeg 0) (nI f)))) A (cl_up N2 205 (nI f).toNatClampNeg 0)))))
/-- what is wanted once the chain is through -/
def ENp (t : bt) (S : cl_S) (V : List (Nat × bt)) (VW : List Nat) (B : Nat) (r : lb_S × md_S) : Prop := ∀ S' l' V' VW' B', FR P W T T f S S' → SMb xs K A P nn W i f D T ox oy S' r.2 r.1 l' V' VW' B' → RI P i th r.1 → (¬ r.1.2.1 = -1 → r.1.2.1 = th) → (∀ q ∈ V, q ∈ V') → (∀ w ∈ VW, w ∈ VW') → cvF P V' VW' t → B' ≤ B → LDe xs K Q A i f d S'
end LBS
theorem ENp.mv {xs : List Int32} {K : Nat → Prop} {Q : Option Value → cl_A → cl_S → Prop} {A : cl_A} {P : md_S} {nn W i f D d : Nat} {T : List Nat} {ox oy th : Int32} {t t' : bt} {S S1 : cl_S} {V V1 : List (Nat × bt)} {VW VW1 : List Nat} {B B1 : Nat} {r : lb_S × md_S} (h : ENp xs K Q A P nn W i f D d T ox oy th t S V VW B r) (F : FR P W T T f S S1) (hv : ∀ q ∈ V, q ∈ V1) (hw : ∀ w ∈ VW, w ∈ VW1) (hc : ∀ V' VW', (∀ q ∈ V1, q ∈ V') → (∀ w ∈ VW1, w ∈ VW') → cvF P V' VW' t' → cvF P V' VW' t) (hB : B1 ≤ B) : ENp xs K Q A P nn W i f D d T ox oy th t' S1 V1 VW1 B1 r := by
  intro S' l' V' VW' B' F' h' hr hl v1 v2 v3 v4
  exact h S' l' V' VW' B' (F.tr F') h' hr hl (fun q hq => v1 q (hv q hq)) (fun w hq => v2 w (hw w hq)) (hc V' VW' v1 v2 v3) (by omega)
