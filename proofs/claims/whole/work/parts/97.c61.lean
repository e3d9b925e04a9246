/-! the class: clear (by program and by hand: wip/whole/gen/c61.py) -/
def cap (S : cl_S) : Nat := if S.2.1 1001 0 = -1 then 0 else (S.2.1 2501 0).toNatClampNeg
theorem cap_x {S S' : cl_S} (e1 : S'.2.1 1001 = S.2.1 1001) (e2 : S'.2.1 2501 = S.2.1 2501) : cap S' = cap S := by
  unfold cap
  rw [e1, e2]
set_option maxHeartbeats 1000000 in
theorem vc15_4 {xs : List Int32} {K : Nat → Prop} {h0 : am_H} {d : Nat} {Q : Option Value → cl_A → cl_S → Prop} {A : cl_A} {S : cl_S} 
    (k : (cl_z S) ∧ (Q none A (cl_up S 301 0 0))) :
    cl_wp xs K h0 (d + 3) Q I15 4 [some (cl_rf A 8 0)] [] A S := by
  refine cl_aload_n (dd D15_ok 2 rfl) rfl ?_
  refine cl_getO (g := 3) (dd D15_ok 3 rfl) pl8_22 (by decide) (by decide) (by decide) rfl k.1.l8 ?_
  refine cl_callU (as := []) (rest := []) (v := 0) (dd D15_ok 4 rfl) pl8_37 rfl (Nat.le_of_ble_eq_true rfl) (ms16 xs) rfl (by decide) k.1.l3 (cc_forget (S := S) k.1) rfl ?_
  exact cl_vret (dd D15_ok 5 rfl) rfl k.2
section CL61
variable {xs : List Int32} {Kp : Nat → Prop} {A : cl_A} {S S2 : cl_S} {M : md_S} {K : bt} {nn W t Wp d : Nat}
theorem plS_l (f i : Nat) (h5 : ¬ f = 5) (h22 : ¬ f = 22) (h23 : ¬ f = 23) (h0 : ¬ f = 0) : (plS A S).1 f i ↔ S.1 f i := nL_o (S := clr S 60) (n := 0) h5 h22 h23 h0 i
theorem plS_z (h : cl_z S) : cl_z (plS A S) := nS_z (A := A) (S := clr S 60) (n := 0) (k := 0) (q := -1) (e := 0) h
theorem plS_cap : cap (plS A S) = cap S := by
  have e : ∀ g, nob g = true → ¬ g = 2100 → ¬ g = 803 → (plS A S).2.1 g = S.2.1 g := fun g h1 h3 h4 => by
    unfold plS
    funext i
    rw [cl_up_off _ _ (fun x => h4 x.1), cl_up_off _ _ (fun x => h3 x.1), nS_of h1]
    show (if g = 2100 ∧ i < 60 then (-1 : Int32) else _) = _
    rw [if_neg (fun x => h3 x.1)]
  exact cap_x (e 1001 (by decide) (by decide) (by decide)) (e 2501 (by decide) (by decide) (by decide))
theorem INV.pre (h : INV A S M K nn W t Wp) : PRE A S M t Wp := ⟨h.1.2.1.2.1, h.1.2.1.2.2.1, h.1.2.2.2.2.1, ⟨h.2.2.1.1, h.2.2.1.2.2⟩, h.2.2.2⟩
theorem kk_clear (h : INV A S M K nn W t Wp) (hK : ∀ a, Kp a → a < S.2.2.1) (hL : S.2.2.1 + 2 < 2000000) : ∀ Q', (∀ S', INV (nA A 0 S.2.2.1) S' (f_clear_M M) (.leaf ()) 1 0 t Wp → S'.2.2 = (S.2.2.1 + 3, S.2.2.2 + 30) → cap S' = cap S → Q' none (nA A 0 S.2.2.1) S') → cl_C xs Kp (d + 4) 15 [cl_rf A 8 0] A S Q' := by
  intro Q' hQ
  have hp := h.pre
  have hz := hp.1
  have hce := hp.2.2.2.2
  refine cl_intro (ms15 xs) (Nat.le_of_ble_eq_true rfl) (fun h0 => ?_)
  refine cl_aload_n (dd D15_ok 0 rfl) rfl ?_
  refine cl_call (as := []) (rest := []) (dd D15_ok 1 rfl) pl8_26 rfl (Nat.le_of_ble_eq_true rfl) (ms9 xs) rfl (by decide) hz.l8 (kk_plant hz hce.2.1.2 hce.1 hce.2.2.2.2.2.2.2.1 hK _ ?_) rfl
  show cl_wp xs Kp h0 (d + 3) Q' I15 4 [some (cl_rf A 8 0)] [] (nA A 0 S.2.2.1) (plS A S)
  rw [← rf_o (A := A) (n := 0) (L := S.2.2.1) (f := 8) (v := 0) (by decide) (by decide) (by decide)]
  refine vc15_4 ⟨plS_z hz, ?_⟩
  have e : cl_X [301] (plS A S) (cl_up (plS A S) 301 0 0) := cl_X.rf.up (by decide) _ _
  exact hQ _ (plant_INV hp hL e (cl_up_at _ _ _ _)) rfl ((cap_x (e.2.2 1001 (by decide)) (e.2.2 2501 (by decide))).trans plS_cap)
end CL61
