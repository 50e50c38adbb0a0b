/-! THE TWO PROGRAMS OWE EACH OTHER NOTHING -/
theorem hF9 : 100000 ≤ 100000 := Nat.le_refl _
theorem law_kI : lawI 100000 kI phi :=
  ⟨fun _ _ _ h => kI_phi h, fun n _ _ h => kI_mono h (Nat.le_succ n), c_open hF9, c_close hF9, c_ping hF9, c_move hF9, c_sync hF9, c_follow hF9, c_pass hF9, c_lease hF9, c_renew hF9, c_make hF9, c_set hF9, c_delete hF9, c_rights hF9, c_check hF9, c_gather hF9, c_done hF9, c_answer hF9, c_lose hF9, c_quota hF9, c_read hF9, c_child hF9, c_watch hF9, c_hear hF9, c_want hF9, c_has hF9, c_giveUp hF9, c_believers hF9, c_isOpen hF9, c_takeFirst hF9, c_store hF9, c_stored hF9, c_valueAt hF9, c_changedAt hF9, c_compact hF9, c_snapshot hF9, c_restore hF9, c_changes hF9⟩
theorem whole_start {p : Program} {e : Env} {s : State} {m : MethodId} {below : List Frame} {meth : Method} {c : Code} (l : Launch) (hflags : l.flags = flags0) {b L : Nat} {xs : Nat → Int32} (hL : L ≤ 4096) (C0 : lw_At p s m meth c b L xs) : W p l e room_1 s m #[Value.ref b] below meth c s.heap [] 0 0 (lw_Z below #[Value.ref b] s) (entryFrame m ([Value.ref b] : List Value).toArray 7) := by
  exact start_walk l hflags hL C0 law_kI kI_first
