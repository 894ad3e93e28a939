/-! The start: its state. -/
theorem st0_X : st0.map (fun q => ckX q.2.2.2) = some true := by decide +kernel
