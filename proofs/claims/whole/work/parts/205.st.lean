/-! The start: the other marks. -/
theorem st0_O : st0.map (fun q => ckO q.2.2.2) = some true := by decide +kernel
