/-! The start: the rows. -/
theorem st0_S : st0.map (fun q => ckS q.2.2.2) = some true := by decide +kernel
theorem st0_T : st0.map (fun q => ckT q.2.2.2) = some true := by decide +kernel
