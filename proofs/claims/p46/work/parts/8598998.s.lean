variable {X : Kd}
theorem HSx_f2 {S : Nat → Nat → Prop} {A : Nat → Prop} {w w' : Wd} {b m : Nat} {s : Nat → Nat} {hs : Nat → Nat → Nat} (h : HSx w b s m hs) (k : Fr S A w w') (hf : FX w') (hS : ∀ f x, S f x → (x < 164 ∨ 404 ≤ x) ∧ ¬ RB b x ∧ (x = 0 → f ≠ 1210)) (hA : ∀ x, A x → (x < 163 ∨ 404 ≤ x) ∧ ¬ RB b x) : HSx w' b s m hs := by
  obtain ⟨h1, h2, pa, hp, h3⟩ := h
  refine ⟨by rw [(k.1 1210 0 (fun q => (hS _ _ q).2.2 rfl rfl)).1]; exact h1, h2, pa, ⟨fun i hi => by rw [(k.2 163 (fun q => by have := (hA _ q).1; omega)).2.2]; exact hp.1 i hi, hp.2⟩, fun i hi => (h3 i hi).fr k hf (fun f x q => ⟨fun z => ?_, (hS f x q).2.1⟩) (fun x q => ⟨fun z => ?_, (hA x q).2⟩)⟩
  · have r := SP_rg (hp.1 i (by omega)).2
    have := (hS f x q).1
    have z1 := z.1
    have z2 := z.2
    omega
  · have r := SP_rg (hp.1 i (by omega)).2
    have := (hA x q).1
    have z1 := z.1
    have z2 := z.2
    omega
theorem SVx_f2 {S : Nat → Nat → Prop} {A : Nat → Prop} {w w' : Wd} {b : Nat} {s st : Nat → Nat} {v : Bool} (h : SVx w b s v st) (k : Fr S A w w') (hf : FX w') (hS : ∀ f x, S f x → (x < 103 ∨ 133 ≤ x) ∧ ¬ RB b x ∧ (x = 0 → f ≠ 1207)) (hA : ∀ x, A x → (x < 103 ∨ 133 ≤ x) ∧ ¬ RB b x) : SVx w' b s v st := by
  refine ⟨by rw [(k.1 1207 0 (fun q => (hS _ _ q).2.2 rfl rfl)).2.2]; exact h.1, fun e => (h.2 e).fr k hf (fun f x q => ⟨fun z => ?_, (hS f x q).2.1⟩) (fun x q => ⟨fun z => ?_, (hA x q).2⟩)⟩
  · have := (hS f x q).1
    have z1 := z.1
    have z2 := z.2
    omega
  · have := (hA x q).1
    have z1 := z.1
    have z2 := z.2
    omega
theorem HX_new {w W : Wd} {b : Nat} {s t : Nat → Nat} {nm : Nat → Nat → List Nat} (hd : XD w b (cS s) s t nm) (hg : GD s t nm) (hf : FX W) (hb : b ∈ SU) (r : Fr (fun _ x => ¬ PSA b x) (fun x => ¬ PSA b x) w W) (h1 : wR W 1000 73 = some b) (h2 : wI W 1001 73 = nI 0) (h3 : wI W 201 74 = wI w 201 (b + 11)) (h4 : ∀ k, k < 19 → aI W 75 k = aI w (b + 12) k) (h5 : ∀ k, k < 12 → aI W 76 k = aI w (b + 7) k) (h6 : ∀ i, i < 12 → aI W 77 i = wI w 306 (b + 22 + i) ∧ wI W 700 (79 + 2 * i) = nI 0 ∧ wI W 701 (79 + 2 * i) = nI 0 ∧ wI W 706 (79 + 2 * i) = nI 0 ∧ wI W 702 (79 + 2 * i) = -nI 1 ∧ wI W 703 (79 + 2 * i) = -nI 1 ∧ wI W 704 (79 + 2 * i) = -nI 1 ∧ wI W 705 (79 + 2 * i) = -nI 1) : HX W 73 b s t := by
  obtain ⟨u1, u2, u3, u4, u5, u6, u7, u8, u9, u10, u11, u12, u13⟩ := hd
  have wi : ∀ f x, b ≤ x → x < b + 34 → wI W f x = wI w f x := fun f x x1 x2 => (r.1 f x (fun q => q ⟨x1, x2⟩)).1
  have wz : ∀ f x, b ≤ x → x < b + 34 → wZ W f x = wZ w f x := fun f x x1 x2 => (r.1 f x (fun q => q ⟨x1, x2⟩)).2.2
  have ai : ∀ x, b ≤ x → x < b + 34 → aI W x = aI w x := fun x x1 x2 => (r.2 x (fun q => q ⟨x1, x2⟩)).1
  have g := hg.1.1
  have z : ∀ i, i < 12 → ∀ k, k < 27 → cs t i k = 0 := fun i hi k hk => hg.2.2.1.2 _ (by omega) (by omega)
  refine ⟨hf, ⟨by decide, hb, h1⟩, ⟨fun k hk => ?_, fun q hq => ?_, fun o ho => ?_, fun o ho k hk => ?_, fun i hi => ?_, fun i hi => ?_, fun k hk => ?_, ?_⟩, ⟨⟨?_, ?_⟩, fun d hd => ?_, fun i hi => ?_, fun i hi => ?_, fun i hi => ?_⟩, hg.1, hg.2.1⟩
  · rw [wi _ _ (by omega) (by omega), u1 k hk]
    unfold cS
    rw [if_pos hk]
  · rw [ai _ (by omega) (by omega)]; exact u3 q hq
  · rw [ai _ (by omega) (by omega)]; exact (u4 o (by omega)).1
  · rw [ai (b + 4) (by omega) (by omega), ai (b + 5) (by omega) (by omega)]; exact (u4 o (by omega)).2 k hk
  · rw [ai (b + 6) (by omega) (by omega), ai (b + 8) (by omega) (by omega), ai (b + 9) (by omega) (by omega)]; exact ⟨(u5 i hi).1, u6 i hi⟩
  · have i12 : i < 12 := by omega
    rw [wi 300 _ (by omega) (by omega), wi 301 _ (by omega) (by omega), wi 302 _ (by omega) (by omega), wz 303 _ (by omega) (by omega), wi 304 _ (by omega) (by omega), wi 305 _ (by omega) (by omega)]
    exact ⟨u7 i i12 hi, u8 i i12 hi, u9 i i12 hi, (u10 i i12).1, (u10 i i12).2.1, (u10 i i12).2.2.1⟩
  · rw [ai _ (by omega) (by omega)]; exact u11 k hk
  · rw [wi _ _ (by omega) (by omega)]; exact u12.2.1
  · rw [h2, hg.2.2.1.1]
  · show wI W 201 74 = _
    rw [h3]; exact u13.1
  · show ushr (aI W 75 (d / 32)) (nI (d % 32)) &&& nI 1 = _
    rw [h4 _ (by omega)]; exact u13.2 d hd
  · show aI W 76 i = _
    rw [h5 _ (by omega)]; exact (u5 i hi).2
  · show aI W 77 i = _
    rw [(h6 i hi).1]; exact (u10 i hi).2.2.2
  · obtain ⟨y0, y1, y2, y3, y4, y5, y6, y7⟩ := h6 i hi
    have eh : hrg t i = false := by unfold hrg; rw [z i hi 0 (by omega)]; rfl
    refine ⟨?_, ?_, ?_, fun q => (by rw [eh] at q; cases q), fun _ => ⟨y4, y5, y6, y7⟩, fun k hk => ?_⟩
    · show wI W 700 (79 + 2 * i) = _
      rw [y1, z i hi 0 (by omega)]
    · show wI W 701 (79 + 2 * i) = _
      rw [y2, z i hi 1 (by omega)]
    · show wI W 706 (79 + 2 * i) = _
      rw [y3, z i hi 2 (by omega)]
    · rw [z i hi 2 (by omega)] at hk
      omega
theorem x_read0 {w : Wd} {n b : Nat} {bf : Nat → Int32} (hf : FX w) (hT : TX n bf) (hb : b ∈ SU) (h501 : wR w 501 36 = some b) (hbx : BFx w n bf) (nm : Nat → Nat → List Nat) : ∃ wx0, f_X5_read (Kx X) 36 (wR w 1200 0) (wI w 1201 0) w = f_X5_read_L28 (Kx X) 36 (fun v1_28 v2_28 v3_28 w7 => some (false, w7)) fu (wR w 1200 0) (nI n) (nI 0) wx0 ∧ XQr w wx0 n bf b 0 0 (cS s00) s00 t00 nm := by
  have ub := SU_rg hb
  have e35 : wR w 1200 0 = some 35 := hf.1 (1200, 0, 35) (by first | decide +kernel | exact kx (by decide +kernel))
  have f2 : FX (sI (sI w 502 36 0) 503 36 (-1)) := hf.sI.sI
  have r2 : Fr (PSS b) (PSA b) w (sI (sI w 502 36 0) 503 36 (-1)) := Fr.trans (fr_sI (by unfold PSS; omega)) (fr_sI (by unfold PSS; omega))
  obtain ⟨w3, e3, f3, r3, d3⟩ := x_clear (X := X) f2 hb nm
  have b3 : ∀ k, k < n → aI w3 35 k = bf k := fun k hk => by
    rw [(r3.2 35 (by unfold PSA; omega)).1]
    exact hbx.2 k hk
  obtain ⟨w4, e4, r4, f4, x4, t4⟩ := x_begin (X := X) f3 hT b3
  have g5 : ∀ f, 502 ≤ f → f ≤ 503 → wI w4 f 36 = wI (sI (sI w 502 36 0) 503 36 (-1)) f 36 := fun f _ _ => by rw [(r4.1 f 36 (by unfold SCb; omega)).1, (r3.1 f 36 (by unfold PSA; omega)).1]
  refine ⟨w4, ?_, ⟨f4, hb, ⟨Nat.zero_le _, Nat.le_refl _, hT⟩, x4, t4, ?_, ⟨?_, ?_⟩, ?_⟩, d3.fr r4 (fun f x q1 q2 q => by unfold SCb at q; omega) (fun _ _ _ q => q)⟩
  · unfold f_X5_read
    rw [Option.bind_some, Option.bind_some, ck (show wR (sI (sI w 502 36 0) 503 36 (-1)) 501 36 = some b from h501) (kSU hb), Option.bind_some, e3, Option.bind_some, x500 f3, Option.bind_some, e35, hbx.1, e4, Option.bind_some]
    rfl
  · rw [(r4.1 501 36 (by unfold SCb; omega)).2.1, (r3.1 501 36 (by unfold PSA; omega)).2.1]; exact h501
  · rw [g5 502 (by omega) (by omega), wI_sI, if_neg (by omega), wI_sI, if_pos ⟨rfl, rfl⟩]
  · rw [g5 503 (by omega) (by omega), wI_sI, if_pos ⟨rfl, rfl⟩]
  · exact Fr.trans r2 (Fr.trans (r3.mono (fun f x q => by unfold PSA at q; unfold PSS; omega) (fun _ q => q)) (r4.mono (fun f x q => by unfold SCb at q; unfold PSS; omega) (fun _ q => q.elim)))
def SPX (b f x : Nat) : Prop := PSS b f x ∨ (x = 0 ∧ (f = 1201 ∨ f = 1203 ∨ f = 1204))
