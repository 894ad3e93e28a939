/-! parse() of the drawn text. -/
variable {X : Kd}
theorem x_parsed0 {w : Wd} {n b b0 : Nat} {bf : Nat → Int32} {D : Nat → Nat → Nat → Nat} {pa : Nat → Nat} (hD : ∀ a lo hi, lo ≤ hi → lo ≤ D a lo hi ∧ D a lo hi ≤ hi) (hfx : FX w) (hT : TX n bf) (hb : b ∈ SU) (hb0 : b0 ∈ SU) (h501 : wR w 501 36 = some b) (h1000 : wR w 1000 73 = some b0) (hbx : BFx w n bf) (hpa : PA8 w pa) (T : Tks n bf 0 (tAll D ++ [(19, 0, [])])) : ∃ w' s t, f_X12_parse (Kx X) 0 w = some (4, w') ∧ Cst w' b s t 0 (fun _ _ => 0) ∧ GI (fun _ => false) s t ∧ (s 0 = 2 ∧ s 1 = 2 ∧ s 2 = 2 ∧ s 3 = 4) ∧ t 0 = 0 := by
  have ub := SU_rg hb
  obtain ⟨wx0, ex0, hx0⟩ := x_read0 (X := X) hfx hT hb h501 hbx (fun _ _ => [])
  obtain ⟨wx, p, s, t, nm, x1, x3, x5, d0, d1, d2, d3⟩ := read_all (X := X) (k := fun v1_28 v2_28 v3_28 w7 => some (false, w7)) (u1 := wR w 1200 0) (u2 := nI n) (w0 := w) (wx := wx0) (b := b) hD ⟨0, s00, t00, fun _ _ => [], hx0, GD_00, ⟨rfl, rfl, rfl, rfl⟩, ⟨fun i hi => by omega, fun i hi => by omega, fun i hi => by omega, fun i hi => by omega⟩, fun i hi => s00_0 (by omega) (by omega) (by omega), rfl, T⟩
  have fx := x3.1.1
  have rx : Fr (PSS b) (PSA b) w wx := x3.1.2.2.2.2.2.2.2
  have e1000 : wR wx 1000 73 = some b0 := by rw [(rx.1 1000 73 (by unfold PSS; omega)).2.1]; exact h1000
  have f2 : FX (sR (sI (sI (sI wx 1201 0 0) 1203 0 (wI wx 502 36)) 1204 0 (wI wx 503 36)) 501 36 (some b0)) := fx.sI.sI.sI.r501
  obtain ⟨W, eW, fW, rW, z1, z2, z3, z4, z5, z6⟩ := x_begin73 (X := X) f2 hb
  have e501 : wR wx 501 36 = some b := x3.1.2.2.2.2.2.1
  have hX : f_X12_parse (Kx X) 0 w = some (wI W 401 (b + 14 + 2 * 3), sI (sZ W 1207 0 false) 1210 0 0) := by
    unfold f_X12_parse f_X5_exchange
    rw [x1202 hfx, Option.bind_some, ex0, x1, Option.bind_some, Option.bind_some, x1202 fx.sI, Option.bind_some, Option.bind_some, x1202 fx.sI.sI, Option.bind_some, Option.bind_some, ib_t]
    try dsimp only
    rw [x1205 fx.sI.sI.sI, Option.bind_some, x1202 fx.sI.sI.sI, Option.bind_some, Option.bind_some, Option.bind_some]
    try dsimp only
    have n1 : wI (sI wx 1201 0 0) 502 36 = wI wx 502 36 := by rw [wI_sI, if_neg (by omega)]
    have n2 : ∀ V, wI (sI (sI wx 1201 0 0) 1203 0 V) 503 36 = wI wx 503 36 := fun V => by rw [wI_sI, if_neg (by omega), wI_sI, if_neg (by omega)]
    rw [n1, n2]
    rw [show wR (sI (sI (sI wx 1201 0 0) 1203 0 (wI wx 502 36)) 1204 0 (wI wx 503 36)) 501 36 = some b from e501, show wR (sI (sI (sI wx 1201 0 0) 1203 0 (wI wx 502 36)) 1204 0 (wI wx 503 36)) 1000 73 = some b0 from e1000]
    rw [show f_X10_begin (Kx X) 73 (some b) (sR (sI (sI (sI wx 1201 0 0) 1203 0 (wI wx 502 36)) 1204 0 (wI wx 503 36)) 501 36 (some b0)) = some W from eW, Option.bind_some, Option.bind_some, Option.bind_some, x1205 fW.sZ.sI, Option.bind_some, ck (show wR (sI (sZ W 1207 0 false) 1210 0 0) 1000 73 = some b from z1) (kSU hb), Option.bind_some]
    unfold f_X9_size
    rw [u900 fW.sZ.sI hb, Option.bind_some]
    try dsimp only
    rw [show ixa 3 4 = some 3 from rfl, Option.bind_some, unm fW.sZ.sI hb (i := 3) (by omega), Option.bind_some]
    rfl
  have r12 : Fr (fun f x => (x = 0 ∧ (f = 1201 ∨ f = 1203 ∨ f = 1204)) ∨ (x = 36 ∧ f = 501)) NA wx (sR (sI (sI (sI wx 1201 0 0) 1203 0 (wI wx 502 36)) 1204 0 (wI wx 503 36)) 501 36 (some b0)) := Fr.trans (Fr.trans (Fr.trans (fr_sI (by omega)) (fr_sI (by omega))) (fr_sI (by omega))) (fr_sR (by omega))
  generalize sR (sI (sI (sI wx 1201 0 0) 1203 0 (wI wx 502 36)) 1204 0 (wI wx 503 36)) 501 36 (some b0) = W2 at *
  have r34 : Fr (fun f x => x = 0 ∧ (f = 1207 ∨ f = 1210)) NA W (sI (sZ W 1207 0 false) 1210 0 0) := Fr.trans (fr_sZ (by omega)) (fr_sI (by omega))
  have g1210 : wI (sI (sZ W 1207 0 false) 1210 0 0) 1210 0 = nI 0 := by rw [wI_sI, if_pos ⟨rfl, rfl⟩]; rfl
  have f4 : FX (sI (sZ W 1207 0 false) 1210 0 0) := fW.sZ.sI
  have i4 : ∀ f x, wI (sI (sZ W 1207 0 false) 1210 0 0) f x = if f = 1210 ∧ x = 0 then 0 else wI W f x := fun f x => by rw [wI_sI]; rfl
  have a401 : wI W 401 (b + 14 + 2 * 3) = wI (sI (sZ W 1207 0 false) 1210 0 0) 401 (b + 14 + 2 * 3) := by rw [i4, if_neg (by omega)]
  rw [a401] at hX
  have rw4 : wR (sI (sZ W 1207 0 false) 1210 0 0) = wR W := rfl
  have aw4 : aI (sI (sZ W 1207 0 false) 1210 0 0) = aI W := rfl
  generalize sI (sZ W 1207 0 false) 1210 0 0 = W4 at *
  have r24 : Fr (fun f x => RG 73 x ∨ (x = 0 ∧ (f = 1207 ∨ f = 1210))) (RG 73) W2 W4 := Fr.trans (rW.mono (fun f x q => Or.inl q) (fun x q => q)) (r34.mono (fun f x q => Or.inr q) (fun _ q => q.elim))
  have rx4 : Fr (fun _ x => ¬ PSA b x) (fun x => ¬ PSA b x) wx W4 := Fr.trans (r12.mono (fun f x q => by unfold PSA; omega) (fun _ q => q.elim)) (r24.mono (fun f x q => by unfold RG at q; unfold PSA; omega) (fun x q => by unfold RG at q; unfold PSA; omega))
  have r04 : Fr (fun f x => (PSS b f x ∨ (x = 36 ∧ f = 501)) ∨ RG 73 x ∨ (x = 0 ∧ (f = 1201 ∨ f = 1203 ∨ f = 1204 ∨ f = 1207 ∨ f = 1210))) (fun x => PSA b x ∨ RG 73 x) w W4 := Fr.trans (rx.mono (fun f x q => Or.inl (Or.inl q)) (fun x q => Or.inl q)) (Fr.trans (r12.mono (fun f x q => q.elim (fun z => Or.inr (Or.inr (by omega))) (fun z => Or.inl (Or.inr z))) (fun _ q => q.elim)) (r24.mono (fun f x q => q.elim (fun z => Or.inr (Or.inl z)) (fun z => Or.inr (Or.inr (by omega)))) (fun x q => Or.inr q)))
  have H4 : HX W4 73 b s t := HX_new x3.2 x5 f4 hb rx4 (by rw [rw4]; exact z1) (by rw [i4, if_neg (by omega)]; exact z2) (by rw [i4, if_neg (by omega), z3, (r12.1 201 (b + 11) (by omega)).1]) (fun k hk => by rw [aw4, z4 k hk, (r12.2 (b + 12) (fun q => q)).1]) (fun k hk => by rw [aw4, z5 k hk, (r12.2 (b + 7) (fun q => q)).1]) (fun i hi => by
    have y := z6 i hi
    rw [(r12.1 306 (b + 22 + i) (by omega)).1] at y
    rw [aw4, i4, i4, i4, i4, i4, i4, i4, if_neg (by omega), if_neg (by omega), if_neg (by omega), if_neg (by omega), if_neg (by omega), if_neg (by omega), if_neg (by omega)]
    exact y)
  have zc : ∀ i, i < 12 → cs t i 0 = 0 := fun i hi => x5.2.2.1.2 _ (by omega) (by omega)
  have nr : ∀ i, i < 12 → hrg t i = false := fun i hi => by unfold hrg; rw [zc i hi]; rfl
  refine ⟨W4, s, t, ?_, ⟨H4, ⟨fun i hi e => (by rw [zc i hi] at e; omega), fun i j hi hj _ e => (by rw [nr i hi] at e; cases e)⟩, ⟨g1210, by omega, pa, ⟨fun i hi => ?_, hpa.2⟩, fun i hi => by omega⟩, fun i hi => by omega⟩, GI0 x5.1 x5.2.2.1.1 x5.2.2.1.2, ⟨d0, d1, d2, d3⟩, x5.2.2.1.1⟩
  · rw [hX, (rx4.1 401 (b + 14 + 2 * 3) (fun q => q ⟨by omega, by omega⟩)).1, x3.2.1 3 (by omega)]
    show some (nI (cS s 3), W4) = _
    rw [show cS s 3 = s 3 from if_pos (by omega), d3]
    rfl
  · rw [(r04.2 163 (by unfold PSA RG; omega)).2.2]; exact hpa.1 i hi
