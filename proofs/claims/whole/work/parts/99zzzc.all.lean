/-! All calls, and the law from its entry -/
theorem all_c (L : Nat) : AllC L := ⟨c_type L, c_wipe L, c_piece L, c_range L, c_include L, c_theme L, c_put L, fun k => c_drop k, c_lines L, c_passes L, c_length L, c_tokens L, c_token L, c_marked L, c_state L, c_text L, c_find L⟩
theorem whole_start {p : Program} {e : Env} {s : State} {m : MethodId} {below : List Frame} {meth : Method} {c : Code} (l : Launch) {b L : Nat} {xs : Nat → Int32} (hL : L ≤ 2561) (C0 : lw_At p s m meth c b L xs) : W p l e room_1 s m #[Value.ref b] below meth c s.heap [] 0 0 (lw_Z below #[Value.ref b] s) (entryFrame m ([Value.ref b] : List Value).toArray 4) :=
  z_start l C0 (law_pure L hL xs (all_c L))
