/-- WHAT IS LEFT: the law's body over the small machine -/
theorem am_goal (xs : List Int32) (hL : xs.length ≤ 3072) : am_wp (am_Bx xs) am_nm (am_T (am_Bx xs) am_nm 200) am_Ql am_Il (0, [some (.retAddr 0), none, none, none], [], []) := by
  sorry
theorem whole_start {p : Program} {e : Env} {s : State} {m : MethodId} {below : List Frame} {meth : Method} {c : Code} (l : Launch) {b L : Nat} {xs : Nat → Int32} (hL : L ≤ 3072) (C0 : lw_At p s m meth c b L xs) : W p l e room_1 s m #[Value.ref b] below meth c s.heap [] 0 0 (lw_Z below #[Value.ref b] s) (entryFrame m ([Value.ref b] : List Value).toArray 4) :=
  am_whole l hL C0 (d := 200) (by decide) (am_goal _ (by simpa using hL))
