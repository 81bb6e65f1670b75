def t0 : gT := ((S0, D0), [], (fun _ => 0, fun _ => (S0, D0)))
