/-! one instruction: fields, arrays, new cells -/
section AMK
variable {l : Launch} {B : am_B} {nm : Nat → String} {my : Nat → MethodName} {cl : List vw_C} {Ts NW : List Cond} {D : va_G} {DA : FieldType → ClassId} {sa : Nat → Nat} {base : Nat}
variable {I : am_I} {h0 : am_H} {d : Nat} {Q : Option Value → am_H → Prop} {Z : Option Value → am_H → State → Array Value → List Frame → State → Prop} {pc : Nat} {ls : List (Option Value)} {st rest : List Value} {h : am_H}
theorem am_get_some {c a k : Nat} {v : Value} (hg : am_get h c a k = some v) : ∃ fs, h[a]? = some (.inl (c, fs)) ∧ fs[k]? = some v := by
  unfold am_get at hg
  split at hg
  · next c' fs hh =>
    split at hg
    · next hc => subst hc; exact ⟨fs, hh, hg⟩
    · cases hg
  · cases hg
theorem am_getD_cv (fs : List Value) (k : Nat) : (fs.map (am_cv sa base)).getD k .null = am_cv sa base (fs.getD k .null) := by
  rw [List.getD_eq_getElem?_getD, List.getD_eq_getElem?_getD, List.getElem?_map]
  cases fs[k]? <;> rfl
theorem am_obj {H : Heap} {a c : Nat} {fs : List Value} (w : am_Wd D DA sa base cl h H) (ha : h[a]? = some (.inl (c, fs))) : va_P D cl [(base + a, .inr (c, fs.map (am_cv sa base)))] H := by
  intro k q hk
  have hz : k < 1 := (List.getElem?_eq_some_iff.mp hk).1
  have h0 : k = 0 := by omega
  subst h0
  cases hk
  obtain ⟨r, h1, h2, h3⟩ := w.2 a _ ha
  exact ⟨r, h1, h3.to (fun k _ => (am_getD_cv fs k).symm)⟩
theorem am_mem_h {a : Nat} {e : am_E} (h1 : am_v1 h) (ha : h[a]? = some e) : am_e1 e := h1 e (List.mem_of_getElem? ha)
theorem am_i_getfield {idx a t c k : Nat} {v : Value} (hT : am_Tab B nm my cl Ts NW) (hd : decode I.2.1 pc = .ok (.getfield idx, 3)) (hb : B.1 I.1 idx = (t, c, k)) (ht : t = 1 ∨ t = 2) (hg : am_get h c a k = some v) (hP : am_P l B nm cl Ts NW D DA sa base I h0 d Q Z (pc + 3, ls, v :: rest, h)) : am_P l B nm cl Ts NW D DA sa base I h0 d Q Z (pc, ls, .ref a :: rest, h) := by
  obtain ⟨fs, hh, hv⟩ := am_get_some hg
  refine am_go (F' := (pc + 3, ls, v :: rest, h)) (fun ⟨q1, q2, q3, q4⟩ => ⟨List.forall_mem_cons.mpr ⟨am_mem_h q3 hh v (List.mem_of_getElem? hv), am_tl q1⟩, q2, q3, q4⟩) (Nat.le_refl _) (Nat.le_refl _)
    (fun hF p e R s m args below meth cc Qm hC _ _ _ _ kk H locs lsm cells slots hR => ?_) hP
  obtain ⟨r, hr, hk, -, hl⟩ := hT.2.2.1 I.1 idx t c k hb ht
  have hP1 := am_obj hR.2.1 hh
  have hin := (hT.1 c r hr).2.1
  have hv' : (fs.map (am_cv sa base))[k]? = some (am_cv sa base v) := by rw [List.getElem?_map, hv]; rfl
  rcases hl with ⟨rfl, ref, h1, h2⟩ | ⟨rfl, host, h1⟩
  · refine va_get (cl := cl) (ci := c) (C := r.1) (T := r.2.1) (N := r.2.2) (ref := ref) hC.1 hC.2.1 hC.2.2.2.2.1 hin hC.2.2.2.1 hC.2.2.2.2.2.1.1 hP1 0 rfl hr k hk (hC.2.2.2.2.1 _ h1) (fun x hx => ?_) hv' hd (kk H locs lsm cells slots hR)
    rcases h2 with h2 | h2
    · rw [h2]; exact hx
    · exact u_same (hC.2.2.2.2.1 _ h2) x hx
  · exact va_getN (cl := cl) (ci := c) (C := r.1) (T := r.2.1) (N := r.2.2) (host := host) hC.1 hC.2.1 hC.2.2.2.2.1 hin hC.2.2.2.1 hC.2.2.2.2.2.1.1 hP1 0 rfl hr k hk (va_Nw.use rfl (hC.2.2.2.2.2.1.2.1 _ h1)) (fun x hx => hx) hv' hd (kk H locs lsm cells slots hR)
theorem am_fit_ok {ty : FieldType} {v : Value} (h : am_fit ty v = true) : narrow ty (am_cv sa base v) = am_cv sa base v ∧ fits ty (am_cv sa base v) = true ∧ v.category = 1 := by
  unfold am_fit at h
  split at h
  · exact ⟨rfl, rfl, rfl⟩
  · next x =>
    simp only [Bool.or_eq_true, beq_iff_eq] at h
    rcases h with rfl | rfl <;> exact ⟨rfl, rfl, rfl⟩
  all_goals first | exact ⟨rfl, rfl, rfl⟩ | cases h
theorem am_put_eq {a k c : Nat} {fs : List Value} {v : Value} (ha : h[a]? = some (.inl (c, fs))) : am_put h a k v = h.set a (.inl (c, fs.set k v)) := by
  unfold am_put
  rw [ha]
theorem am_i_putfield {idx a c k : Nat} {v w : Value} {ts : List (FieldType × Bool)} {ty : FieldType} {fin : Bool} (hT : am_Tab B nm my cl Ts NW) (hd : decode I.2.1 pc = .ok (.putfield idx, 3)) (hb : B.1 I.1 idx = (1, c, k)) (hg : am_get h c a k = some w) (hts : B.2.2.1 c = some ts) (hty : ts[k]? = some (ty, fin)) (hfit : am_fit ty v = true) (hfin : fin = true → I.2.2.2.2 = true ∧ c = I.1)
    (hP : am_P l B nm cl Ts NW D DA sa base I h0 d Q Z (pc + 3, ls, rest, am_put h a k v)) : am_P l B nm cl Ts NW D DA sa base I h0 d Q Z (pc, ls, v :: .ref a :: rest, h) := by
  obtain ⟨fs, hh, hv⟩ := am_get_some hg
  have hkl : k < fs.length := (List.getElem?_eq_some_iff.mp hv).1
  rw [am_put_eq hh] at hP
  obtain ⟨f1, f2, f3⟩ := am_fit_ok (sa := sa) (base := base) hfit
  refine am_go (F' := (pc + 3, ls, rest, h.set a (.inl (c, fs.set k v)))) (fun ⟨q1, q2, q3, q4⟩ => ⟨am_tl (am_tl q1), q2, am_v1_set q3 (fun x hx => ?_), q4⟩) (Nat.le_of_eq List.length_set.symm) (Nat.le_of_eq (am_sl_set h a _ _ hh (by simp [am_sz])).symm)
    (fun hF p e R s m args below meth cc Qm hC _ _ _ _ kk H locs lsm cells slots hR => ?_) hP
  · rcases List.mem_or_eq_of_mem_set hx with h2 | h2
    · exact am_mem_h q3 hh x h2
    · rw [h2]; exact f3
  · obtain ⟨r, hr, hk, hdec, hl⟩ := hT.2.2.1 I.1 idx 1 c k hb (Or.inl rfl)
    obtain ⟨hnm, hin, -, -, hnames, ty0, hty0, hB⟩ := hT.1 c r hr
    rw [hB] at hts
    cases hts
    rw [List.getElem?_map, List.getElem?_range hk] at hty
    cases hty
    obtain ⟨r', h1, hlen, cell, g1, g2, g3, g4⟩ := hR.2.1.2 a _ hh
    have hrr : r' = r := Option.some.inj (h1.symm.trans hr)
    subst hrr
    have hK := hC.2.2.2.2.2.1.1
    have hts' := hC.2.2.2.2.1
    have hap := va_apart (own := nm I.1) hts' hin ty0 hty0 hnames hK hr
    obtain ⟨hS, hfc, kC, hkC, hkind⟩ := hK.1 c _ hr
    obtain ⟨cf, kf, fi, f, hi, hsl⟩ := hS k hk
    have hst := (u_facts hfc hkC (u_lays hts' hin hk) hi).1
    have done : ∀ H' : Heap, H'[base + a]? = some (cell.setSlot f.slot (am_cv sa base v)) → H'.size = H.size → (∀ q, q ≠ base + a → H'[q]? = H[q]?) → am_Rel cl D DA sa base h0 (pc + 3, ls, rest, h.set a (.inl (c, fs.set k v))) s H' (locs ++ [⟨base + a, f.slot⟩]) lsm cells slots := by
      intro H' e1 z oq
      refine ⟨hR.1, hR.2.1.set z oq ⟨r', hr, by rw [List.length_set]; exact hlen, ?_⟩, hR.2.2.1.put z oq (show base ≤ base + a by omega), by simpa using hR.2.2.2.1, by show am_sl h0 + slots = am_sl (h.set a _); rw [am_sl_set h a _ _ hh (by simp [am_sz])]; exact hR.2.2.2.2⟩
      rw [hsl] at e1
      refine t_OB.to (V := updV (fun j => am_cv sa base (fs.getD j .null)) k (am_cv sa base v)) ⟨_, e1, g2, g3, t_set g4 hap hk _⟩ (fun j _ => ?_)
      by_cases hj : j = k
      · subst hj
        simp [updV, hkl]
      · simp [updV, hj, List.getElem?_set, Ne.symm hj]
    rcases hl with ⟨-, ref, q1, q2⟩ | ⟨q, -⟩
    · have hsame : s.fieldFound? ref (r'.2.1 k).2.1 (r'.2.1 k).2.2.1 = some (cf, kf, fi, f) := by
        rcases q2 with q2 | q2
        · rw [q2]; exact hi
        · exact u_same (hts' _ q2) _ hi
      have hlay := hts' _ (hin _ (u_in_lay hk))
      unfold u_lay at hlay
      by_cases hfn : (r'.2.1 k).2.2.2 = true
      · rw [if_pos hfn] at hlay
        obtain ⟨z1, z2⟩ := hfin hfn
        have hcf : m.cls = cf := by
          obtain ⟨_, _, c', _, _, _, -, -, hf', -, -, -, hown2, -⟩ := Cond.laysFinal_spec hlay
          have e1 : c' = cf := by have := hi.symm.trans hf'; simp at this; exact this.1.symm
          rw [hdec hfn, z2] at hown2
          rw [← e1]; exact Option.some.inj (hC.2.2.2.1.symm.trans hown2)
        have h6 := u_fits hfc hkC hkind (Or.inr hlay) hi (hty0 k hk) f1 f2
        exact W.putFinK hC.1 hC.2.1 hC.2.2.2.1 (hts' _ q1) hsame hst hcf (hC.2.2.2.2.2.2.2.2.1 z1) (by rw [g2]; exact h6) g1 g3 (by rw [hsl]; exact k2_hasslot (g4 k hk)) rfl rfl hd fun H' e1 z oq => kk H' _ lsm cells slots (done H' e1 z oq)
      · rw [if_neg hfn] at hlay
        have h6 := u_store hfc hkC hkind hlay hi (hty0 k hk) f1 f2
        exact W.putK hC.1 hC.2.1 (f := f) ⟨hC.2.2.2.1, hts' _ q1, ⟨_, _, _, hsame⟩, hst⟩ (by rw [g2]; exact h6) g1 g3 (by rw [hsl]; exact k2_hasslot (g4 k hk)) rfl rfl hd fun H' e1 z oq => kk H' _ lsm cells slots (done H' e1 z oq)
    · cases q
end AMK
