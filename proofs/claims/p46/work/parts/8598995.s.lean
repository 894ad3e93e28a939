variable {X : Kd}
theorem sw_d : ∀ k, k < 21 → swm.getD k 0 = (if k = 0 then 1 else if k = 1 then 2 else if k = 3 then 3 else if k = 5 then 4 else if k = 7 then 5 else if k = 12 then 6 else if k = 13 then 7 else if k = 14 then 8 else if k = 15 then 9 else (0 : Int32)) := by decide +kernel
theorem tokO_d : ∀ k, k < 21 → tokO.getD k 0 = nI k := by decide +kernel
theorem XQr_rb {w0 wx : Wd} {n : Nat} {bf : Nat → Int32} {b p0 p : Nat} {s t : Nat → Nat} {nm : Nat → Nat → List Nat} (hx : XQr w0 wx n bf b p0 p (cS s) s t nm) : XQr w0 wx n bf b p p (cS s) s t nm := ⟨⟨hx.1.1, hx.1.2.1, ⟨hx.1.2.2.1.1, Nat.le_refl _, hx.1.2.2.1.2.2⟩, hx.1.2.2.2⟩, hx.2⟩
