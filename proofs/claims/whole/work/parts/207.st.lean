/-! The start: its objects. -/
theorem st0_K : st0.map (fun q => ckK q.1) = some true := by decide +kernel
