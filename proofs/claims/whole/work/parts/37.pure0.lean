/-! ===== the numbers ===== -/
def law0 : Option (ag_N × ag_S) := lawStart 10 (fun _ => 0) (fun _ _ _ => -1)
set_option maxRecDepth 100000 in
theorem law0_n : law0.map (fun o => (List.range 61).map o.1) = some [4, 8, 0, 0, 0, 1, 1, 0, 1, 0, 1, 1, 1, 1, 1, 0, 0, 0, 0, 0, 1, 1, 0, 0, 0, 0, 0, 0, 0, 0, 0, 0, 0, 0, 1, 1, 1, 0, 1, 1, 1, 1, 1, 0, 1, 1, 1, 1, 1, 1, 0, 1, 1, 1, 1, 1, 1, 1, 1, 1, 1] := by decide +kernel
