/-! the class: margin (by hand: wip/whole/gen/c49.py) -/
section CR3
variable {xs : List Int32} {Kp : Nat → Prop} {A : cl_A} {S S' : cl_S} {M M' : md_S} {K : bt} {nn W t : Nat}
theorem CR.mo (h : CR S M K nn W t) (hF : mo_F M M' K nn) : CR S M' K nn W t := h.m (hF.1.1 1 (by decide)) (hF.1.1 2 (by decide)) (hF.1.1 29 (by decide)) (fun f hf => hF.1.2 f ((show ∀ f ∈ X_mr, f ∉ [12, 13, 14, 19, 20, 21] by decide) f hf))
theorem IV.cp (h : IV M K nn) : cl_P M nn := by
  intro x hx
  by_cases h0 : x = 0
  · subst h0
    exact Or.inl ⟨((h.2 0 hx).1 rfl).1, rfl⟩
  · obtain ⟨p, e, p1, p2, p3, _⟩ := (h.2 x hx).2.1 h0
    exact Or.inr ⟨h0, p, by omega, p3⟩
theorem kk_margin (h : CR S M K nn W t) (hF : mo_F M M' K nn) {d : Nat} {x b : Int32} : ∀ Q', (f_marg_ok M x → Q' (some (.int (if b = 0 then M'.2 19 x.toNatClampNeg else M'.2 20 x.toNatClampNeg))) A S) → (¬ f_marg_ok M x → Q' (some (.int (-1))) A S) → cl_C xs Kp (d + 90) 103 [cl_rf A 8 0, .int x, .int b] A S Q' := by
  intro Q' hY hN
  have hh := h
  have hh' := h.mo hF
  obtain ⟨h1, h2, h3, h4, _⟩ := h
  have h60 := h2.1
  have hiff := md_N_iff h1.1
  refine cl_intro (d := d + 69 + 20) (ms103 xs) (Nat.le_of_ble_eq_true rfl) (fun h0 => vc103_0 ⟨h2.2.1, kk_elementAt hh _ (fun i hi e c => ?_) (fun hne => ?_)⟩)
  · subst e
    have ci : (nI i).toNatClampNeg = i := nI_clamp (by omega)
    have ht : ¬ f_there M (nI i) = 0 := (there_iff h1.1.1 h60 _).mpr ⟨i, hi, rfl⟩
    refine ⟨rfl, rfl, nI i, rfl, fun q => absurd q (nI_ne_m1 (by omega)), fun _ => ⟨h2.n hi, ?_⟩⟩
    rw [ci, h2.par hi, h2.isB hi]
    have hp : M.2 4 i = -1 ↔ i = 0 := by
      rcases h1.cp i hi with ⟨q1, q2⟩ | ⟨q1, p, q2, q3⟩
      · exact ⟨fun _ => q2, fun _ => q1⟩
      · exact ⟨fun q => absurd (q3.symm.trans q) (nI_ne_m1 (by omega)), fun q => absurd q q1⟩
    refine ⟨fun q => hN (fun o => o.2.1 (by rw [hp.mp q]; rfl)), fun q => ⟨fun q2 => ?_, fun q2 => hN (fun o => q2 o.2.2)⟩⟩
    have hok : f_marg_ok M (nI i) := ⟨ht, fun e => q (hp.mpr (by
      have := congrArg Int32.toNatClampNeg e
      rw [ci] at this
      exact this)), q2⟩
    have hall := kk_outer (xs := xs) (K := Kp) (A := A) (S := S) (M := M') (nn := nn) hh'.2.1 hh'.1.cp (bt_root K) (-1) hh'.1.1.2.1.1 (fun x hx => (hiff x).mpr hx) hF.2.2.2.2
    have hk := bt_all_kids hall ((hiff i).mp hi)
    obtain ⟨k1, k2, k3, k4⟩ := h1.kids hi
    have hht := ht_le (bt_kids (bt_root K) i)
    refine hk (by rw [hF.1.2 3 (by decide)]; exact c) (d + 69 + 20) b (by omega) _ ⟨rfl, rfl, _, rfl, ?_⟩
    have := hY hok
    rw [ci] at this
    exact this
  · refine ⟨rfl, rfl, -1, rfl, fun _ => hN (fun o => ?_), fun q => absurd rfl q⟩
    obtain ⟨i, hi, e⟩ := (there_iff h1.1.1 h60 _).mp o.1
    subst e
    refine hne ⟨i, hi, rfl, ?_⟩
    have := o.2.2
    unfold f_isBlock at this
    rw [nI_clamp (by omega)] at this
    by_cases c : M.2 3 i = 0
    · exact c
    · rw [if_pos c] at this
      exact absurd rfl this
end CR3
