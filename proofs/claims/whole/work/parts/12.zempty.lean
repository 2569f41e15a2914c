/-- the pure heap at the start: nothing of ours, the next address -/
def hE (sz : Nat) : zH := (fun _ => 0, fun _ _ _ => 0, fun _ _ _ => none, fun _ => 0, fun _ _ => 0, fun _ _ => none, sz)
