/-! the tree with one node more (by hand: wip/whole/gen/c57.py) -/
def bt_lst : bt → Int32
  | .leaf _ => -1
  | .branch i _ (.leaf _) => nI i
  | .branch _ _ (.branch j k s) => bt_lst (.branch j k s)
def bt_snoc : bt → Nat → bt
  | .leaf _, n => .branch n (.leaf ()) (.leaf ())
  | .branch i k s, n => .branch i k (bt_snoc s n)
def bt_add (p n : Nat) : bt → bt
  | .leaf u => .leaf u
  | .branch i k s => if i = p then .branch i (bt_snoc k n) s else .branch i (bt_add p n k) (bt_add p n s)
theorem snoc_pre : ∀ (t : bt) (n : Nat), bt_pre (bt_snoc t n) = bt_pre t ++ [n] := by
  intro t
  induction t with
  | leaf u => intro n; rfl
  | branch i k s ihk ihs =>
    intro n
    show i :: (bt_pre k ++ bt_pre (bt_snoc s n)) = (i :: (bt_pre k ++ bt_pre s)) ++ [n]
    rw [ihs]
    simp
theorem add_no {p n : Nat} : ∀ (t : bt), p ∉ bt_pre t → bt_add p n t = t := by
  intro t
  induction t with
  | leaf u => intro _; rfl
  | branch i k s ihk ihs =>
    intro h
    simp only [bt_pre, List.mem_cons, List.mem_append, not_or] at h
    show (if i = p then _ else _) = _
    rw [if_neg (fun q => h.1 q.symm), ihk h.2.1, ihs h.2.2]
theorem add_hd {p n : Nat} : ∀ (t : bt) (b : Int32), bt_hd b (bt_add p n t) = bt_hd b t := by
  intro t b
  cases t with
  | leaf u => rfl
  | branch i k s =>
    show bt_hd b (if i = p then _ else _) = _
    split <;> rfl
theorem add_perm {p n : Nat} : ∀ (t : bt), (bt_pre t).Nodup → p ∈ bt_pre t → (bt_pre (bt_add p n t)).Perm (n :: bt_pre t) := by
  intro t
  induction t with
  | leaf u => intro _ h; cases h
  | branch i k s ihk ihs =>
    intro hn hp
    simp only [bt_pre] at hn hp
    rw [List.nodup_cons, List.nodup_append] at hn
    obtain ⟨n1, n2, n3, n4⟩ := hn
    simp only [List.mem_append, not_or] at n1
    show (bt_pre (if i = p then _ else _)).Perm _
    by_cases c : i = p
    · rw [if_pos c]
      show (i :: (bt_pre (bt_snoc k n) ++ bt_pre s)).Perm (n :: i :: (bt_pre k ++ bt_pre s))
      rw [snoc_pre]
      refine List.Perm.trans (List.Perm.cons i ?_) (List.Perm.swap n i _)
      rw [List.append_assoc]
      exact List.perm_middle
    · rw [if_neg c]
      show (i :: (bt_pre (bt_add p n k) ++ bt_pre (bt_add p n s))).Perm (n :: i :: (bt_pre k ++ bt_pre s))
      refine List.Perm.trans (List.Perm.cons i ?_) (List.Perm.swap n i _)
      rcases List.mem_append.mp ((List.mem_cons.mp hp).resolve_left (fun q => c q.symm)) with q | q
      · rw [add_no s (fun q2 => n4 _ q _ q2 rfl)]
        exact (ihk n2 q).append_right _
      · rw [add_no k (fun q2 => n4 _ q2 _ q rfl)]
        exact (List.Perm.append_left _ (ihs n3 q)).trans List.perm_middle
theorem lst_mem : ∀ (t : bt), (∃ u, t = .leaf u) ∨ ∃ x ∈ bt_pre t, bt_lst t = nI x := by
  intro t
  induction t with
  | leaf u => exact Or.inl ⟨u, rfl⟩
  | branch i k s ihk ihs =>
    right
    cases s with
    | leaf u => exact ⟨i, by simp [bt_pre], rfl⟩
    | branch j k2 s2 =>
      rcases ihs with ⟨u, q⟩ | ⟨x, h1, h2⟩
      · cases q
      · exact ⟨x, by simp only [bt_pre, List.mem_cons, List.mem_append] at h1 ⊢; exact Or.inr (Or.inr h1), h2⟩
theorem lst_snoc : ∀ (t : bt) (n : Nat), bt_lst (bt_snoc t n) = nI n := by
  intro t
  induction t with
  | leaf u => intro n; rfl
  | branch i k s ihk ihs =>
    intro n
    cases s with
    | leaf u => rfl
    | branch j k2 s2 => exact ihs n
theorem bt_R_cg {pa fk nx pa' fk' nx' : Nat → Int32} : ∀ (t : bt) (q : Int32), (∀ x ∈ bt_pre t, pa' x = pa x ∧ fk' x = fk x ∧ nx' x = nx x) → bt_R pa fk nx q t → bt_R pa' fk' nx' q t := by
  intro t
  induction t with
  | leaf u => intro _ _ _; trivial
  | branch i k s ihk ihs =>
    rintro q he ⟨h1, h2, h3, h4, h5, h6⟩
    obtain ⟨e1, e2, e3⟩ := he i (by simp [bt_pre])
    exact ⟨h1, e1.trans h2, e2.trans h3, e3.trans h4, ihk _ (fun x hx => he x (by simp [bt_pre, hx])) h5, ihs _ (fun x hx => he x (by simp [bt_pre, hx])) h6⟩
theorem snoc_R {pa fk nx pa' fk' nx' : Nat → Int32} {q : Int32} {n : Nat} (hn : n < 60) (p1 : pa' n = q) (p2 : fk' n = -1) (p3 : nx' n = -1) : ∀ (t : bt), (∀ x ∈ bt_pre t, x < 60) → (bt_pre t).Nodup → (∀ x ∈ bt_pre t, pa' x = pa x ∧ fk' x = fk x ∧ (¬ nI x = bt_lst t → nx' x = nx x) ∧ (nI x = bt_lst t → nx' x = nI n)) → bt_R pa fk nx q t → bt_R pa' fk' nx' q (bt_snoc t n) := by
  intro t
  induction t with
  | leaf u => intro _ _ _ _; exact ⟨hn, p1, p2, p3, trivial, trivial⟩
  | branch i k s ihk ihs =>
    rintro h60 hnd he ⟨h1, h2, h3, h4, h5, h6⟩
    simp only [bt_pre] at hnd
    rw [List.nodup_cons, List.nodup_append] at hnd
    obtain ⟨n1, n2, n3, n4⟩ := hnd
    simp only [List.mem_append, not_or] at n1
    obtain ⟨e1, e2, e3, e4⟩ := he i (by simp [bt_pre])
    have hlk : ∀ x ∈ bt_pre k, ¬ nI x = bt_lst (.branch i k s) := by
      intro x hx e
      have hx60 := h60 x (by simp [bt_pre, hx])
      cases s with
      | leaf u =>
        have : x = i := nI_inj60 hx60 h1 e
        exact n1.1 (this ▸ hx)
      | branch j k2 s2 =>
        rcases lst_mem (.branch j k2 s2) with ⟨u, q⟩ | ⟨y, hy, ey⟩
        · cases q
        · have : x = y := nI_inj60 hx60 (h60 y (by simp only [bt_pre, List.mem_cons, List.mem_append] at hy ⊢; exact Or.inr (Or.inr hy))) (e.trans ey)
          exact n4 x hx y hy this
    have hk : bt_R pa' fk' nx' (nI i) k := bt_R_cg k _ (fun x hx => by
      obtain ⟨f1, f2, f3, _⟩ := he x (by simp [bt_pre, hx])
      exact ⟨f1, f2, f3 (hlk x hx)⟩) h5
    cases s with
    | leaf u =>
      exact ⟨h1, e1.trans h2, e2.trans h3, e4 rfl, hk, hn, p1, p2, p3, trivial, trivial⟩
    | branch j k2 s2 =>
      have hil : ¬ nI i = bt_lst (.branch i k (.branch j k2 s2)) := by
        intro e
        rcases lst_mem (.branch j k2 s2) with ⟨u, q⟩ | ⟨y, hy, ey⟩
        · cases q
        · have : i = y := nI_inj60 h1 (h60 y (by simp only [bt_pre, List.mem_cons, List.mem_append] at hy ⊢; exact Or.inr (Or.inr hy))) (e.trans ey)
          exact n1.2 (this ▸ hy)
      exact ⟨h1, e1.trans h2, e2.trans h3, (e3 hil).trans h4, hk, ihs (fun x hx => h60 x (by simp only [bt_pre, List.mem_cons, List.mem_append] at hx ⊢; exact Or.inr (Or.inr hx))) n3 (fun x hx => he x (by simp only [bt_pre, List.mem_cons, List.mem_append] at hx ⊢; exact Or.inr (Or.inr hx))) h6⟩
/-- the links after one node more -/
def lk_ok (pa fk nx pa' fk' nx' : Nat → Int32) (p n : Nat) (l : Int32) : Prop := n < 60 ∧ pa' n = nI p ∧ fk' n = -1 ∧ nx' n = -1 ∧ fk' p = (if l = -1 then nI n else fk p) ∧ ∀ x, x < 60 → ¬ x = n → pa' x = pa x ∧ (¬ x = p → fk' x = fk x) ∧ (¬ nI x = l → nx' x = nx x) ∧ (nI x = l → nx' x = nI n)
theorem kids_self (i : Nat) (k s : bt) : bt_kids (.branch i k s) i = k := if_pos rfl
theorem add_R {pa fk nx pa' fk' nx' : Nat → Int32} {p n : Nat} : ∀ (t : bt) (q : Int32), (∀ x ∈ bt_pre t, x < 60) → (bt_pre t).Nodup → p ∈ bt_pre t → n ∉ bt_pre t → lk_ok pa fk nx pa' fk' nx' p n (bt_lst (bt_kids t p)) → bt_R pa fk nx q t → bt_R pa' fk' nx' q (bt_add p n t) := by
  intro t
  induction t with
  | leaf u => intro _ _ _ h; cases h
  | branch i k s ihk ihs =>
    rintro q h60 hnd hp hnn hok ⟨h1, h2, h3, h4, h5, h6⟩
    have hok' := hok
    obtain ⟨o1, o2, o3, o4, o5, o6⟩ := hok
    have hnd' := hnd
    simp only [bt_pre] at hnd
    rw [List.nodup_cons, List.nodup_append] at hnd
    obtain ⟨n1, n2, n3, n4⟩ := hnd
    simp only [List.mem_append, not_or] at n1
    simp only [bt_pre, List.mem_cons, List.mem_append, not_or] at hnn
    obtain ⟨m1, m2, m3⟩ := hnn
    have hk60 : ∀ x ∈ bt_pre k, x < 60 := fun x hx => h60 x (by simp [bt_pre, hx])
    have hs60 : ∀ x ∈ bt_pre s, x < 60 := fun x hx => h60 x (by simp [bt_pre, hx])
    obtain ⟨e1, e2, e3, e4⟩ := o6 i h1 (Ne.symm m1)
    show bt_R pa' fk' nx' q (if i = p then _ else _)
    by_cases c : i = p
    · subst c
      rw [if_pos rfl]
      rw [kids_self] at o5 o6 e3 e4
      have hil : ¬ nI i = bt_lst k := by
        intro e
        rcases lst_mem k with ⟨u, rfl⟩ | ⟨y, hy, ey⟩
        · exact nI_ne_m1 (by omega) e
        · have : i = y := nI_inj60 h1 (hk60 y hy) (e.trans ey)
          exact n1.1 (this ▸ hy)
      have hk : bt_R pa' fk' nx' (nI i) (bt_snoc k n) := snoc_R o1 o2 o3 o4 k hk60 n2 (fun x hx => by
        obtain ⟨f1, f2, f3, f4⟩ := o6 x (hk60 x hx) (fun e => m2 (e ▸ hx))
        exact ⟨f1, f2 (fun e => n1.1 (e ▸ hx)), f3, f4⟩) h5
      have hs : bt_R pa' fk' nx' q s := bt_R_cg s _ (fun x hx => by
        obtain ⟨f1, f2, f3, f4⟩ := o6 x (hs60 x hx) (fun e => m3 (e ▸ hx))
        refine ⟨f1, f2 (fun e => n1.2 (e ▸ hx)), f3 (fun e => ?_)⟩
        rcases lst_mem k with ⟨u, rfl⟩ | ⟨y, hy, ey⟩
        · exact nI_ne_m1 (by have := hs60 x hx; omega) e
        · exact n4 y hy x hx (nI_inj60 (hk60 y hy) (hs60 x hx) (ey.symm.trans e.symm))) h6
      refine ⟨h1, e1.trans h2, ?_, (e3 hil).trans h4, hk, hs⟩
      rw [o5]
      cases k with
      | leaf u => rfl
      | branch j k2 s2 =>
        rcases lst_mem (.branch j k2 s2) with ⟨u, q⟩ | ⟨y, hy, ey⟩
        · cases q
        · rw [ey, if_neg (nI_ne_m1 (by have := hk60 y hy; omega)), h3]
          rfl
    · rw [if_neg c]
      have hpp : p ∈ bt_pre k ∨ p ∈ bt_pre s := by
        simp only [bt_pre, List.mem_cons, List.mem_append] at hp
        exact hp.resolve_left (fun e => c e.symm)
      have hkid : bt_kids (.branch i k s) p = if p ∈ bt_pre k then bt_kids k p else bt_kids s p := if_neg c
      have hlm : ∀ x, x < 60 → nI x = bt_lst (bt_kids (.branch i k s) p) → (p ∈ bt_pre k → x ∈ bt_pre k) ∧ (¬ p ∈ bt_pre k → x ∈ bt_pre s) := by
        intro x hx e
        rw [hkid] at e
        by_cases cp : p ∈ bt_pre k
        · rw [if_pos cp] at e
          obtain ⟨_, _, _, _, hsub, _⟩ := bt_kids_R h5 n2 cp
          rcases lst_mem (bt_kids k p) with ⟨u, q⟩ | ⟨y, hy, ey⟩
          · rw [q] at e
            exact absurd e (nI_ne_m1 (by omega))
          · have hy' := hsub y hy
            have : x = y := nI_inj60 hx (hk60 y hy') (e.trans ey)
            exact ⟨fun _ => this ▸ hy', fun q => absurd cp q⟩
        · rw [if_neg cp] at e
          obtain ⟨_, _, _, _, hsub, _⟩ := bt_kids_R h6 n3 (hpp.resolve_left cp)
          rcases lst_mem (bt_kids s p) with ⟨u, q⟩ | ⟨y, hy, ey⟩
          · rw [q] at e
            exact absurd e (nI_ne_m1 (by omega))
          · have hy' := hsub y hy
            have : x = y := nI_inj60 hx (hs60 y hy') (e.trans ey)
            exact ⟨fun q => absurd q cp, fun _ => this ▸ hy'⟩
      have hil : ¬ nI i = bt_lst (bt_kids (.branch i k s) p) := by
        intro e
        obtain ⟨g1, g2⟩ := hlm i h1 e
        by_cases cp : p ∈ bt_pre k
        · exact n1.1 (g1 cp)
        · exact n1.2 (g2 cp)
      have un : ∀ (u : bt), (∀ x ∈ bt_pre u, x < 60) → p ∉ bt_pre u → n ∉ bt_pre u → (∀ x ∈ bt_pre u, ¬ nI x = bt_lst (bt_kids (.branch i k s) p)) → ∀ q', bt_R pa fk nx q' u → bt_R pa' fk' nx' q' (bt_add p n u) := fun u u60 hpu hnu hlu q' hR => by
        rw [add_no u hpu]
        refine bt_R_cg u _ (fun x hx => ?_) hR
        obtain ⟨f1, f2, f3, f4⟩ := o6 x (u60 x hx) (fun e => hnu (e ▸ hx))
        exact ⟨f1, f2 (fun e => hpu (e ▸ hx)), f3 (hlu x hx)⟩
      refine ⟨h1, e1.trans h2, ?_, ?_, ?_, ?_⟩
      · rw [add_hd]; exact (e2 c).trans h3
      · rw [add_hd]; exact (e3 hil).trans h4
      · by_cases cp : p ∈ bt_pre k
        · exact ihk _ hk60 n2 cp m2 (by rw [hkid, if_pos cp] at hok'; exact hok') h5
        · exact un k hk60 cp m2 (fun x hx e => n4 x hx x ((hlm x (hk60 x hx) e).2 cp) rfl) _ h5
      · by_cases cp : p ∈ bt_pre k
        · exact un s hs60 (fun q => n4 p cp p q rfl) m3 (fun x hx e => n4 x ((hlm x (hs60 x hx) e).1 cp) x hx rfl) _ h6
        · exact ihs _ hs60 n3 (hpp.resolve_left cp) m3 (by rw [hkid, if_neg cp] at hok'; exact hok') h6
/-- the last kids -/
def LK (f6 : Nat → Int32) (t : bt) : Prop := bt_all (fun i k => f6 i = bt_lst k) t
theorem LK_cg {f g : Nat → Int32} : ∀ (t : bt), (∀ x ∈ bt_pre t, g x = f x) → LK f t → LK g t := by
  intro t
  induction t with
  | leaf u => intro _ _; trivial
  | branch i k s ihk ihs =>
    rintro he ⟨h1, h2, h3⟩
    exact ⟨(he i (by simp [bt_pre])).trans h1, ihk (fun x hx => he x (by simp [bt_pre, hx])) h2, ihs (fun x hx => he x (by simp [bt_pre, hx])) h3⟩
theorem LK_snoc {f : Nat → Int32} {n : Nat} (hn : f n = -1) : ∀ (t : bt), LK f t → LK f (bt_snoc t n) := by
  intro t
  induction t with
  | leaf u => intro _; exact ⟨hn, trivial, trivial⟩
  | branch i k s ihk ihs =>
    rintro ⟨h1, h2, h3⟩
    exact ⟨h1, h2, ihs h3⟩
theorem LK_kids {f : Nat → Int32} : ∀ {t : bt} {i : Nat}, LK f t → i ∈ bt_pre t → f i = bt_lst (bt_kids t i) := by
  intro t
  induction t with
  | leaf u => intro i _ h; cases h
  | branch j k s ihk ihs =>
    rintro i ⟨h1, h2, h3⟩ hi
    show f i = bt_lst (if j = i then k else if i ∈ bt_pre k then bt_kids k i else bt_kids s i)
    by_cases c : j = i
    · rw [if_pos c, ← c]
      exact h1
    · rw [if_neg c]
      by_cases cp : i ∈ bt_pre k
      · rw [if_pos cp]
        exact ihk h2 cp
      · rw [if_neg cp]
        simp only [bt_pre, List.mem_cons, List.mem_append] at hi
        exact ihs h3 ((hi.resolve_left (fun e => c e.symm)).resolve_left cp)
theorem LK_add {f g : Nat → Int32} {p n : Nat} (hn : g n = -1) (hp : g p = nI n) (he : ∀ x, ¬ x = n → ¬ x = p → g x = f x) : ∀ (t : bt), (bt_pre t).Nodup → n ∉ bt_pre t → LK f t → LK g (bt_add p n t) := by
  intro t
  induction t with
  | leaf u => intro _ _ _; trivial
  | branch i k s ihk ihs =>
    rintro hnd hnn ⟨h1, h2, h3⟩
    simp only [bt_pre] at hnd
    rw [List.nodup_cons, List.nodup_append] at hnd
    obtain ⟨n1, n2, n3, n4⟩ := hnd
    simp only [List.mem_append, not_or] at n1
    simp only [bt_pre, List.mem_cons, List.mem_append, not_or] at hnn
    obtain ⟨m1, m2, m3⟩ := hnn
    show LK g (if i = p then _ else _)
    by_cases c : i = p
    · subst c
      rw [if_pos rfl]
      refine ⟨hp.trans (lst_snoc k n).symm, LK_snoc hn k (LK_cg k (fun x hx => he x (fun e => m2 (e ▸ hx)) (fun e => n1.1 (e ▸ hx))) h2), LK_cg s (fun x hx => he x (fun e => m3 (e ▸ hx)) (fun e => n1.2 (e ▸ hx))) h3⟩
    · rw [if_neg c]
      refine ⟨?_, ihk n2 m2 h2, ihs n3 m3 h3⟩
      show g i = bt_lst (bt_add p n k)
      rw [he i (Ne.symm m1) c, h1]
      -- the last kid stays
      have : ∀ (t : bt), bt_lst (bt_add p n t) = bt_lst t := by
        intro t
        induction t with
        | leaf u => rfl
        | branch i k s _ ihs =>
          show bt_lst (if i = p then _ else _) = _
          by_cases c : i = p
          · rw [if_pos c]
            cases s <;> rfl
          · rw [if_neg c]
            cases s with
            | leaf u => rfl
            | branch j k2 s2 =>
              have e : bt_lst (.branch i (bt_add p n k) (bt_add p n (.branch j k2 s2))) = bt_lst (bt_add p n (.branch j k2 s2)) := by
                show bt_lst (.branch i (bt_add p n k) (if j = p then _ else _)) = bt_lst (if j = p then _ else _)
                split <;> rfl
              rw [e, ihs]
              rfl
      exact (this k).symm
