/-! The start: its references. -/
theorem st0_F : st0.map (fun q => ckF q.2.2.2) = some true := by decide +kernel
