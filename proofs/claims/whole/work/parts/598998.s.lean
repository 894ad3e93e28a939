/-! parse, on both sides. -/
def KP : Wd → Option (Int32 × Wd) := fun w6 => (f_X13_fine Kc 415 w6).bind fun q11 => if b2i q11.1 = 0 then (some ((-1), q11.2)) else ((f_X13_takesDraft Kc 415 q11.2).bind fun q13 => (cha Kc 20 (wR q13 1301 415)).bind fun a14 => (ixa 3 a14.2).bind fun j15 => some ((aI q13 a14.1 j15), q13))
theorem HSx_f2 {S : Nat → Nat → Prop} {A : Nat → Prop} {w w' : Wd} {b m : Nat} {s : Nat → Nat} {hs : Nat → Nat → Nat} (h : HSx w b s m hs) (k : Fr S A w w') (hf : FX w') (hS : ∀ f x, S f x → (x < 164 ∨ 404 ≤ x) ∧ ¬ RB b x ∧ (x = 0 → f ≠ 1210)) (hA : ∀ x, A x → (x < 163 ∨ 404 ≤ x) ∧ ¬ RB b x) : HSx w' b s m hs := by
  obtain ⟨h1, h2, pa, hp, h3⟩ := h
  refine ⟨by rw [(k.1 1210 0 (fun q => (hS _ _ q).2.2 rfl rfl)).1]; exact h1, h2, pa, ⟨fun i hi => by rw [(k.2 163 (fun q => by have := (hA _ q).1; omega)).2.2]; exact hp.1 i hi, hp.2⟩, fun i hi => (h3 i hi).fr k hf (fun f x q => ⟨fun z => ?_, (hS f x q).2.1⟩) (fun x q => ⟨fun z => ?_, (hA x q).2⟩)⟩
  · have r := SP_rg (hp.1 i (by omega)).2
    have := (hS f x q).1
    have z1 := z.1
    have z2 := z.2
    omega
  · have r := SP_rg (hp.1 i (by omega)).2
    have := (hA x q).1
    have z1 := z.1
    have z2 := z.2
    omega
theorem SVx_f2 {S : Nat → Nat → Prop} {A : Nat → Prop} {w w' : Wd} {b : Nat} {s st : Nat → Nat} {v : Bool} (h : SVx w b s v st) (k : Fr S A w w') (hf : FX w') (hS : ∀ f x, S f x → (x < 103 ∨ 133 ≤ x) ∧ ¬ RB b x ∧ (x = 0 → f ≠ 1207)) (hA : ∀ x, A x → (x < 103 ∨ 133 ≤ x) ∧ ¬ RB b x) : SVx w' b s v st := by
  refine ⟨by rw [(k.1 1207 0 (fun q => (hS _ _ q).2.2 rfl rfl)).2.2]; exact h.1, fun e => (h.2 e).fr k hf (fun f x q => ⟨fun z => ?_, (hS f x q).2.1⟩) (fun x q => ⟨fun z => ?_, (hA x q).2⟩)⟩
  · have := (hS f x q).1
    have z1 := z.1
    have z2 := z.2
    omega
  · have := (hA x q).1
    have z1 := z.1
    have z2 := z.2
    omega
theorem HX_new {w W : Wd} {b : Nat} {s t : Nat → Nat} {nm : Nat → Nat → List Nat} (hd : XD w b (cS s) s t nm) (hg : GD s t nm) (hf : FX W) (hb : b ∈ SU) (r : Fr (fun _ x => ¬ PSA b x) (fun x => ¬ PSA b x) w W) (h1 : wR W 1000 73 = some b) (h2 : wI W 1001 73 = nI 0) (h3 : wI W 201 74 = wI w 201 (b + 11)) (h4 : ∀ k, k < 19 → aI W 75 k = aI w (b + 12) k) (h5 : ∀ k, k < 12 → aI W 76 k = aI w (b + 7) k) (h6 : ∀ i, i < 12 → aI W 77 i = wI w 306 (b + 22 + i) ∧ wI W 700 (79 + 2 * i) = nI 0 ∧ wI W 701 (79 + 2 * i) = nI 0 ∧ wI W 706 (79 + 2 * i) = nI 0 ∧ wI W 702 (79 + 2 * i) = -nI 1 ∧ wI W 703 (79 + 2 * i) = -nI 1 ∧ wI W 704 (79 + 2 * i) = -nI 1 ∧ wI W 705 (79 + 2 * i) = -nI 1) : HX W 73 b s t := by
  obtain ⟨u1, u2, u3, u4, u5, u6, u7, u8, u9, u10, u11, u12, u13⟩ := hd
  have wi : ∀ f x, b ≤ x → x < b + 34 → wI W f x = wI w f x := fun f x x1 x2 => (r.1 f x (fun q => q ⟨x1, x2⟩)).1
  have wz : ∀ f x, b ≤ x → x < b + 34 → wZ W f x = wZ w f x := fun f x x1 x2 => (r.1 f x (fun q => q ⟨x1, x2⟩)).2.2
  have ai : ∀ x, b ≤ x → x < b + 34 → aI W x = aI w x := fun x x1 x2 => (r.2 x (fun q => q ⟨x1, x2⟩)).1
  have g := hg.1.1
  have z : ∀ i, i < 12 → ∀ k, k < 27 → cs t i k = 0 := fun i hi k hk => hg.2.2.1.2 _ (by omega) (by omega)
  refine ⟨hf, ⟨by decide, hb, h1⟩, ⟨fun k hk => ?_, fun q hq => ?_, fun o ho => ?_, fun o ho k hk => ?_, fun i hi => ?_, fun i hi => ?_, fun k hk => ?_, ?_⟩, ⟨⟨?_, ?_⟩, fun d hd => ?_, fun i hi => ?_, fun i hi => ?_, fun i hi => ?_⟩, hg.1, hg.2.1⟩
  · rw [wi _ _ (by omega) (by omega), u1 k hk]
    unfold cS
    rw [if_pos hk]
  · rw [ai _ (by omega) (by omega)]; exact u3 q hq
  · rw [ai _ (by omega) (by omega)]; exact (u4 o (by omega)).1
  · rw [ai (b + 4) (by omega) (by omega), ai (b + 5) (by omega) (by omega)]; exact (u4 o (by omega)).2 k hk
  · rw [ai (b + 6) (by omega) (by omega), ai (b + 8) (by omega) (by omega), ai (b + 9) (by omega) (by omega)]; exact ⟨(u5 i hi).1, u6 i hi⟩
  · have i12 : i < 12 := by omega
    rw [wi 300 _ (by omega) (by omega), wi 301 _ (by omega) (by omega), wi 302 _ (by omega) (by omega), wz 303 _ (by omega) (by omega), wi 304 _ (by omega) (by omega), wi 305 _ (by omega) (by omega)]
    exact ⟨u7 i i12 hi, u8 i i12 hi, u9 i i12 hi, (u10 i i12).1, (u10 i i12).2.1, (u10 i i12).2.2.1⟩
  · rw [ai _ (by omega) (by omega)]; exact u11 k hk
  · rw [wi _ _ (by omega) (by omega)]; exact u12.2.1
  · rw [h2, hg.2.2.1.1]
  · show wI W 201 74 = _
    rw [h3]; exact u13.1
  · show ushr (aI W 75 (d / 32)) (nI (d % 32)) &&& nI 1 = _
    rw [h4 _ (by omega)]; exact u13.2 d hd
  · show aI W 76 i = _
    rw [h5 _ (by omega)]; exact (u5 i hi).2
  · show aI W 77 i = _
    rw [(h6 i hi).1]; exact (u10 i hi).2.2.2
  · obtain ⟨y0, y1, y2, y3, y4, y5, y6, y7⟩ := h6 i hi
    have eh : hrg t i = false := by unfold hrg; rw [z i hi 0 (by omega)]; rfl
    refine ⟨?_, ?_, ?_, fun q => (by rw [eh] at q; cases q), fun _ => ⟨y4, y5, y6, y7⟩, fun k hk => ?_⟩
    · show wI W 700 (79 + 2 * i) = _
      rw [y1, z i hi 0 (by omega)]
    · show wI W 701 (79 + 2 * i) = _
      rw [y2, z i hi 1 (by omega)]
    · show wI W 706 (79 + 2 * i) = _
      rw [y3, z i hi 2 (by omega)]
    · rw [z i hi 2 (by omega)] at hk
      omega
theorem x_read0 {w : Wd} {n b : Nat} {bf : Nat → Int32} (hf : FX w) (hT : TX n bf) (hb : b ∈ SU) (h501 : wR w 501 36 = some b) (hbx : BFx w n bf) (nm : Nat → Nat → List Nat) : ∃ wx0, f_X5_read Kc 36 (wR w 1200 0) (wI w 1201 0) w = f_X5_read_L28 Kc 36 (fun v1_28 v2_28 v3_28 w7 => some (false, w7)) fu (wR w 1200 0) (nI n) (nI 0) wx0 ∧ XQr w wx0 n bf b 0 0 (cS s00) s00 t00 nm := by
  have ub := SU_rg hb
  have e35 : wR w 1200 0 = some 35 := hf.1 (1200, 0, 35) (by decide +kernel)
  have f2 : FX (sI (sI w 502 36 0) 503 36 (-1)) := hf.sI.sI
  have r2 : Fr (PSS b) (PSA b) w (sI (sI w 502 36 0) 503 36 (-1)) := Fr.trans (fr_sI (by unfold PSS; omega)) (fr_sI (by unfold PSS; omega))
  obtain ⟨w3, e3, f3, r3, d3⟩ := x_clear f2 hb nm
  have b3 : ∀ k, k < n → aI w3 35 k = bf k := fun k hk => by
    rw [(r3.2 35 (by unfold PSA; omega)).1]
    exact hbx.2 k hk
  obtain ⟨w4, e4, r4, f4, x4, t4⟩ := x_begin f3 hT b3
  have g5 : ∀ f, 502 ≤ f → f ≤ 503 → wI w4 f 36 = wI (sI (sI w 502 36 0) 503 36 (-1)) f 36 := fun f _ _ => by rw [(r4.1 f 36 (by unfold SCb; omega)).1, (r3.1 f 36 (by unfold PSA; omega)).1]
  refine ⟨w4, ?_, ⟨f4, hb, ⟨Nat.zero_le _, Nat.le_refl _, hT⟩, x4, t4, ?_, ⟨?_, ?_⟩, ?_⟩, d3.fr r4 (fun f x q1 q2 q => by unfold SCb at q; omega) (fun _ _ _ q => q)⟩
  · unfold f_X5_read
    rw [Option.bind_some, Option.bind_some, ck (show wR (sI (sI w 502 36 0) 503 36 (-1)) 501 36 = some b from h501) (kSU hb), Option.bind_some, e3, Option.bind_some, x500 f3, Option.bind_some, e35, hbx.1, e4, Option.bind_some]
    rfl
  · rw [(r4.1 501 36 (by unfold SCb; omega)).2.1, (r3.1 501 36 (by unfold PSA; omega)).2.1]; exact h501
  · rw [g5 502 (by omega) (by omega), wI_sI, if_neg (by omega), wI_sI, if_pos ⟨rfl, rfl⟩]
  · rw [g5 503 (by omega) (by omega), wI_sI, if_pos ⟨rfl, rfl⟩]
  · exact Fr.trans r2 (Fr.trans (r3.mono (fun f x q => by unfold PSA at q; unfold PSS; omega) (fun _ q => q)) (r4.mono (fun f x q => by unfold SCb at q; unfold PSS; omega) (fun _ q => q.elim)))
def MPS (f x : Nat) : Prop := x = 415 ∧ (f = 1300 ∨ (1324 ≤ f ∧ f ≤ 1332))
def MPA (x : Nat) : Prop := x = 417 ∨ x = 419
theorem m_parse0 {w : Wd} {n : Nat} {bf : Nat → Int32} (hf : FX w) (hT : TX n bf) (hbm : BFm w n bf) (nm : Nat → Nat → List Nat) : ∃ u, f_X13_parse Kc 415 w = f_X13_parse_L23 Kc 415 KP fu u ∧ MQr u u n bf 0 (cS s00) s00 t00 nm ∧ Fr MPS MPA w u ∧ wI u 1324 415 = nI 0 ∧ wI u 1300 415 = 0 := by
  have f1 : FX (sI (sI (sI w 1300 415 0) 1331 415 0) 1332 415 (-1)) := hf.sI.sI.sI
  have r1 : Fr MPS MPA w (sI (sI (sI w 1300 415 0) 1331 415 0) 1332 415 (-1)) := Fr.trans (Fr.trans (fr_sI (by unfold MPS; omega)) (fr_sI (by unfold MPS; omega))) (fr_sI (by unfold MPS; omega))
  obtain ⟨w2, e2, o2, d1, d2⟩ := m_clears f1
  have g : ∀ f, wI w2 f 415 = wI (sI (sI (sI w 1300 415 0) 1331 415 0) 1332 415 (-1)) f 415 := fun f => o2.2.1 _ _ (fun q => q)
  have b2 : ∀ k, k < n → aI w2 431 k = bf k := fun k hk => by
    rw [o2.2.2 431 (by omega)]
    exact hbm.2 k hk
  obtain ⟨w3, e3, o3, z3, m3, t3⟩ := m_startsReading (o2.FX f1) hT (show wI w2 1324 415 = nI n by rw [g, wI_sI, if_neg (by omega), wI_sI, if_neg (by omega), wI_sI, if_neg (by omega)]; exact hbm.1) b2
  refine ⟨w3, ?_, ⟨⟨o3.FX (o2.FX f1), ⟨Nat.zero_le _, hT⟩, m3, t3, ⟨?_, ?_⟩, Fr.rf⟩, ⟨?_, ?_⟩, fun k i hk hi => ?_⟩, ?_, z3, ?_⟩
  · unfold f_X13_parse
    rw [Option.bind_some, Option.bind_some, Option.bind_some, e2, Option.bind_some, e3, Option.bind_some]
    rfl
  · rw [o3.2.1 _ _ (by omega), g, wI_sI, if_neg (by omega), wI_sI, if_pos ⟨rfl, rfl⟩]
  · rw [o3.2.1 _ _ (by omega), g, wI_sI, if_pos ⟨rfl, rfl⟩]
  · rw [o3.2.2 417 (fun q => q)]; exact d1
  · rw [o3.2.2 419 (fun q => q)]; exact d2
  · unfold cS at hi
    rw [if_pos hk, s00_0 (by omega) (by omega) (by omega)] at hi
    omega
  · exact r1.trans ((o2.fr.mono (fun _ _ q => q.elim) (fun _ q => q)).trans (o3.fr.mono (fun f x q => by unfold MPS; omega) (fun _ q => q.elim)))
  · rw [o3.2.1 _ _ (by omega), g, wI_sI, if_neg (by omega), wI_sI, if_neg (by omega), wI_sI, if_pos ⟨rfl, rfl⟩]
def SPX (b f x : Nat) : Prop := PSS b f x ∨ (x = 0 ∧ (f = 1201 ∨ f = 1203 ∨ f = 1204))
def SPF (b f x : Nat) : Prop := PSS b f x ∨ (x = 0 ∧ (f = 1201 ∨ f = 1203 ∨ f = 1204)) ∨ MPS f x ∨ MSS f x
def APF (b x : Nat) : Prop := PSA b x ∨ MPA x ∨ MSA x
theorem b_parse {w : Wd} (h : Inv w) : Both0 (f_X12_parse Kc 0) (f_X13_parse Kc 415) w := by
  obtain ⟨b, s, t, ⟨c1, c2, c3, c4⟩, ⟨m, hs, p1, p2⟩, ⟨v, st, q1, q2⟩, ⟨b2, hb2, hne, h501⟩, ⟨n, bf, hT, hbx, hbm⟩, ⟨n2, ot, k1, k2, k3⟩, er, nmo, j1, j2, j3⟩ := h
  have ub := SU_rg c1.2.1.2.1
  have ub2 := SU_rg hb2
  have hfx := c1.1
  have hT' : TX n bf := hT
  obtain ⟨wx0, ex0, hx0⟩ := x_read0 hfx hT' hb2 h501 hbx (fun _ _ => [])
  obtain ⟨u0, eu0, hu0, _, _, _⟩ := m_parse0 hfx hT' hbm (fun _ _ => [])
  have loop := fun (u : Wd) (hu : MQr u u n bf 0 (cS s00) s00 t00 (fun _ _ => [])) => lk_loop (K := KP) (u1 := wR w 1200 0) (u2 := nI n) 900 0 s00 t00 (fun _ _ => []) wx0 u 0 fu fu (by have := hT.1; omega) (by have := hT.1; omega) (fu_lt (by omega)) (fu_lt (by omega)) hx0 hu GD_00
  rcases loop u0 hu0 with ⟨e, wx, wm, x1, _, x3, _⟩ | ⟨p, s1, t1, nm1, wx, wm, x1, _, x3, _, x5⟩
  · -- it fails
    have f1 : FX (sI (sI (sI wx 1201 0 0) 1203 0 (wI wx 502 36)) 1204 0 (wI wx 503 36)) := x3.1.sI.sI.sI
    have r1 : Fr (SPX b2) (PSA b2) w (sI (sI (sI wx 1201 0 0) 1203 0 (wI wx 502 36)) 1204 0 (wI wx 503 36)) := Fr.trans (x3.2.2.2.2.mono (fun f x q => Or.inl q) (fun x q => q)) (Fr.trans (Fr.trans (fr_sI (by unfold SPX; omega)) (fr_sI (by unfold SPX; omega))) (fr_sI (by unfold SPX; omega)))
    have hX : f_X12_parse Kc 0 w = some (-1, sI (sI (sI wx 1201 0 0) 1203 0 (wI wx 502 36)) 1204 0 (wI wx 503 36)) := by
      unfold f_X12_parse
      rw [x1202 hfx, Option.bind_some, ex0, x1, Option.bind_some, Option.bind_some, x1202 x3.1.sI, Option.bind_some, Option.bind_some, x1202 x3.1.sI.sI, Option.bind_some, Option.bind_some, ib_f]
      rfl
    have g1201 : wI (sI (sI (sI wx 1201 0 0) 1203 0 (wI wx 502 36)) 1204 0 (wI wx 503 36)) 1201 0 = nI 0 := by rw [wI_sI, if_neg (by omega), wI_sI, if_neg (by omega), wI_sI, if_pos ⟨rfl, rfl⟩]; rfl
    have g1203 : wI (sI (sI (sI wx 1201 0 0) 1203 0 (wI wx 502 36)) 1204 0 (wI wx 503 36)) 1203 0 = wI wx 502 36 := by rw [wI_sI, if_neg (by omega), wI_sI, if_pos ⟨rfl, rfl⟩]
    have g1204 : wI (sI (sI (sI wx 1201 0 0) 1203 0 (wI wx 502 36)) 1204 0 (wI wx 503 36)) 1204 0 = wI wx 503 36 := by rw [wI_sI, if_pos ⟨rfl, rfl⟩]
    have g501 : wR (sI (sI (sI wx 1201 0 0) 1203 0 (wI wx 502 36)) 1204 0 (wI wx 503 36)) 501 36 = some b2 := x3.2.1
    generalize sI (sI (sI wx 1201 0 0) 1203 0 (wI wx 502 36)) 1204 0 (wI wx 503 36) = w1 at *
    have bm1 : BFm w1 n bf := ⟨by rw [(r1.1 1324 415 (by unfold SPX PSS; omega)).1]; exact hbm.1, fun k hk => by rw [(r1.2 431 (by unfold PSA; omega)).1]; exact hbm.2 k hk⟩
    obtain ⟨u1, eu1, hu1, ru1, gu1, _⟩ := m_parse0 f1 hT' bm1 (fun _ _ => [])
    rcases loop u1 hu1 with ⟨e', wx', wm', y1, y2, y3, y4⟩ | ⟨_, _, _, _, wx', wm', y1, _⟩
    · rw [x1] at y1
      have ewx : wx = wx' := by
        injection y1 with q
        injection q
      subst ewx
      have hM : f_X13_parse Kc 415 w1 = some (-1, wm') := by
        rw [eu1, y2]
        unfold KP
        rw [n_fine y4.ne, Option.bind_some, ib_f]
      have r2 : Fr MSS MSA u1 wm' := y4.2.2.2.2
      have RF : Fr (SPF b2) (APF b2) w wm' := Fr.trans (r1.mono (fun f x q => q.elim Or.inl (fun z => Or.inr (Or.inl z))) (fun x q => Or.inl q)) (Fr.trans (ru1.mono (fun f x q => Or.inr (Or.inr (Or.inl q))) (fun x q => Or.inr (Or.inl q))) (r2.mono (fun f x q => Or.inr (Or.inr (Or.inr q))) (fun x q => Or.inr (Or.inr q))))
      have r13 : Fr (fun f x => MPS f x ∨ MSS f x) (fun x => MPA x ∨ MSA x) w1 wm' := Fr.trans (ru1.mono (fun f x q => Or.inl q) (fun x q => Or.inl q)) (r2.mono (fun f x q => Or.inr q) (fun x q => Or.inr q))
      have nS : ∀ f x, SPF b2 f x → x = 0 ∧ (f = 1201 ∨ f = 1203 ∨ f = 1204) ∨ x = 36 ∨ x = 37 ∨ RB b2 x ∨ (x = 415 ∧ (f = 1300 ∨ (1324 ≤ f ∧ f ≤ 1332))) := fun f x q => by unfold SPF PSS MPS MSS at q; unfold RB; omega
      have nA : ∀ x, APF b2 x → RB b2 x ∨ x = 417 ∨ x = 419 ∨ (432 ≤ x ∧ x < 436) := fun x q => by unfold APF PSA MPA MSA at q; unfold RB; omega
      have dis : ∀ x, RB b2 x → ¬ RB b x ∧ ¬ RG 73 x ∧ 1 ≤ x ∧ x < 73 ∧ x ≠ 36 ∧ x ≠ 37 ∧ x ≠ 35 := fun x q => by unfold RB at *; unfold RG; omega
      have oS : ∀ f x, SPF b2 f x → ¬ RB b x ∧ ¬ RG 73 x ∧ (x < 103 ∨ 404 ≤ x) ∧ (x = 0 → f = 1201 ∨ f = 1203 ∨ f = 1204) ∧ (x = 415 → f = 1300 ∨ (1324 ≤ f ∧ f ≤ 1332)) := fun f x q => by
        rcases nS f x q with z | z | z | z | z
        · unfold RB RG; omega
        · unfold RB RG; omega
        · unfold RB RG; omega
        · have := dis x z
          exact ⟨this.1, this.2.1, by omega, by omega, by omega⟩
        · unfold RB RG; omega
      have oA : ∀ x, APF b2 x → ¬ RB b x ∧ ¬ RG 73 x ∧ (x < 73 ∨ 404 ≤ x) ∧ x ≠ 35 ∧ x ≠ 416 ∧ x ≠ 418 ∧ x ≠ 414 ∧ x ≠ 422 ∧ x ≠ 423 ∧ x ≠ 431 ∧ x ≠ 436 ∧ (x < 424 ∨ 428 ≤ x) := fun x q => by
        rcases nA x q with z | z
        · have := dis x z
          exact ⟨this.1, this.2.1, by omega, by omega, by omega, by omega, by omega, by omega, by omega, by omega, by omega, by omega⟩
        · unfold RB RG; omega
      have sI0 : ∀ f, f ≠ 1201 → f ≠ 1203 → f ≠ 1204 → ¬ SPF b2 f 0 := fun f a1 a2 a3 q => by have := (oS f 0 q).2.2.2.1 rfl; omega
      have sM0 : ∀ f, f ≠ 1300 → (f < 1324 ∨ 1332 < f) → ¬ SPF b2 f 415 := fun f a1 a2 q => by have := (oS f 415 q).2.2.2.2 rfl; omega
      refine ⟨-1, w1, wm', hX, hM, ⟨b, s, t, ⟨c1.fr RF y4.1 (fun f x q => ⟨(oS f x q).2.1, (oS f x q).1⟩) (fun x q => ⟨(oA x q).2.1, (oA x q).1⟩), c2.fr RF y4.1 (fun q => by have := oA _ q; omega) (fun q => by have := oA _ q; omega), c3, by rw [(RF.1 1315 415 (sM0 _ (by omega) (by omega))).1]; exact c4⟩, ⟨m, hs, HSx_f2 p1 RF y4.1 (fun f x q => ?_) (fun x q => ?_), p2.fr RF (sM0 _ (by omega) (by omega)) (fun q => by have := oA _ q; omega)⟩, ⟨v, st, SVx_f2 q1 RF y4.1 (fun f x q => ?_) (fun x q => ?_), q2.fr RF (sM0 _ (by omega) (by omega)) (fun q => by have := oA _ q; omega)⟩, ⟨b2, hb2, hne, ?_⟩, ⟨0, bf, ⟨by omega, fun k hk => by omega⟩, ⟨?_, fun k hk => by omega⟩, ⟨?_, fun k hk => by omega⟩⟩, ⟨n2, ot, k1, ⟨?_, fun k hk => ?_⟩, ⟨?_, fun k hk => ?_⟩⟩, ⟨?_, ?_⟩, nmo, j1, fun x i hx hi => ?_, fun x i hx hi => ?_⟩⟩
      · have := oS f x q
        exact ⟨by omega, this.1, fun z => by have := this.2.2.2.1 z; omega⟩
      · have := oA x q
        exact ⟨by omega, this.1⟩
      · have := oS f x q
        exact ⟨by omega, this.1, fun z => by have := this.2.2.2.1 z; omega⟩
      · have := oA x q
        exact ⟨by omega, this.1⟩
      · rw [(r13.1 501 36 (by unfold MPS MSS; omega)).2.1]; exact g501
      · rw [(r13.1 1201 0 (by unfold MPS MSS; omega)).1]; exact g1201
      · rw [(r2.1 1324 415 (by unfold MSS; omega)).1]; exact gu1
      · rw [(RF.1 1215 0 (sI0 _ (by omega) (by omega) (by omega))).1]; exact k2.1
      · rw [(RF.2 414 (fun q => by have := oA _ q; omega)).1]; exact k2.2 k hk
      · rw [(RF.1 1338 415 (sM0 _ (by omega) (by omega))).1]; exact k3.1
      · rw [(RF.2 436 (fun q => by have := oA _ q; omega)).1]; exact k3.2 k hk
      · rw [(r13.1 1203 0 (by unfold MPS MSS; omega)).1, g1203, y4.2.1]
        exact y3.2.2.1
      · rw [(r13.1 1204 0 (by unfold MPS MSS; omega)).1, g1204, y4.2.2.2.1]
        exact y3.2.2.2.1
      · rw [(RF.2 (b + 15 + 2 * x) (fun q => (oA _ q).1 ⟨by omega, by omega⟩)).2.1]; exact j2 x i hx hi
      · rw [(RF.2 (424 + x) (fun q => by have := (oA _ q).2.2.2.2.2.2.2.2.2.2.2; omega)).2.1]; exact j3 x i hx hi
    · rw [x1] at y1
      injection y1 with q
      injection q with q1 q2
      cases q1
  · -- it is read
    have fx := x3.1.1
    have rx : Fr (PSS b2) (PSA b2) w wx := x3.1.2.2.2.2.2.2.2
    have e1000 : wR wx 1000 73 = some b := by rw [(rx.1 1000 73 (by unfold PSS; omega)).2.1]; exact c1.2.1.2.2
    have f2 : FX (sR (sI (sI (sI wx 1201 0 0) 1203 0 (wI wx 502 36)) 1204 0 (wI wx 503 36)) 501 36 (some b)) := fx.sI.sI.sI.r501
    obtain ⟨W, eW, fW, rW, z1, z2, z3, z4, z5, z6⟩ := x_begin73 f2 hb2
    have e501 : wR wx 501 36 = some b2 := x3.1.2.2.2.2.2.1
    have hX : f_X12_parse Kc 0 w = some (wI W 401 (b2 + 14 + 2 * 3), sI (sZ W 1207 0 false) 1210 0 0) := by
      unfold f_X12_parse f_X5_exchange
      rw [x1202 hfx, Option.bind_some, ex0, x1, Option.bind_some, Option.bind_some, x1202 fx.sI, Option.bind_some, Option.bind_some, x1202 fx.sI.sI, Option.bind_some, Option.bind_some, ib_t]
      try dsimp only
      rw [x1205 fx.sI.sI.sI, Option.bind_some, x1202 fx.sI.sI.sI, Option.bind_some, Option.bind_some, Option.bind_some]
      try dsimp only
      have n1 : wI (sI wx 1201 0 0) 502 36 = wI wx 502 36 := by rw [wI_sI, if_neg (by omega)]
      have n2 : ∀ V, wI (sI (sI wx 1201 0 0) 1203 0 V) 503 36 = wI wx 503 36 := fun V => by rw [wI_sI, if_neg (by omega), wI_sI, if_neg (by omega)]
      rw [n1, n2]
      rw [show wR (sI (sI (sI wx 1201 0 0) 1203 0 (wI wx 502 36)) 1204 0 (wI wx 503 36)) 501 36 = some b2 from e501, show wR (sI (sI (sI wx 1201 0 0) 1203 0 (wI wx 502 36)) 1204 0 (wI wx 503 36)) 1000 73 = some b from e1000]
      rw [show f_X10_begin Kc 73 (some b2) (sR (sI (sI (sI wx 1201 0 0) 1203 0 (wI wx 502 36)) 1204 0 (wI wx 503 36)) 501 36 (some b)) = some W from eW, Option.bind_some, Option.bind_some, Option.bind_some, x1205 fW.sZ.sI, Option.bind_some, ck (show wR (sI (sZ W 1207 0 false) 1210 0 0) 1000 73 = some b2 from z1) (kSU hb2), Option.bind_some]
      unfold f_X9_size
      rw [u900 fW.sZ.sI hb2, Option.bind_some]
      try dsimp only
      rw [show ixa 3 4 = some 3 from rfl, Option.bind_some, unm fW.sZ.sI hb2 (i := 3) (by omega), Option.bind_some]
      rfl
    have r12 : Fr (fun f x => (x = 0 ∧ (f = 1201 ∨ f = 1203 ∨ f = 1204)) ∨ (x = 36 ∧ f = 501)) NA wx (sR (sI (sI (sI wx 1201 0 0) 1203 0 (wI wx 502 36)) 1204 0 (wI wx 503 36)) 501 36 (some b)) := Fr.trans (Fr.trans (Fr.trans (fr_sI (by omega)) (fr_sI (by omega))) (fr_sI (by omega))) (fr_sR (by omega))
    have g1201 : wI (sR (sI (sI (sI wx 1201 0 0) 1203 0 (wI wx 502 36)) 1204 0 (wI wx 503 36)) 501 36 (some b)) 1201 0 = nI 0 := by
      show wI (sI (sI (sI wx 1201 0 0) 1203 0 (wI wx 502 36)) 1204 0 (wI wx 503 36)) 1201 0 = nI 0
      rw [wI_sI, if_neg (by omega), wI_sI, if_neg (by omega), wI_sI, if_pos ⟨rfl, rfl⟩]; rfl
    have g1203 : wI (sR (sI (sI (sI wx 1201 0 0) 1203 0 (wI wx 502 36)) 1204 0 (wI wx 503 36)) 501 36 (some b)) 1203 0 = 0 := by
      show wI (sI (sI (sI wx 1201 0 0) 1203 0 (wI wx 502 36)) 1204 0 (wI wx 503 36)) 1203 0 = 0
      rw [wI_sI, if_neg (by omega), wI_sI, if_pos ⟨rfl, rfl⟩]; exact x3.1.2.2.2.2.2.2.1.1
    have g1204 : wI (sR (sI (sI (sI wx 1201 0 0) 1203 0 (wI wx 502 36)) 1204 0 (wI wx 503 36)) 501 36 (some b)) 1204 0 = -1 := by
      show wI (sI (sI (sI wx 1201 0 0) 1203 0 (wI wx 502 36)) 1204 0 (wI wx 503 36)) 1204 0 = -1
      rw [wI_sI, if_pos ⟨rfl, rfl⟩]; exact x3.1.2.2.2.2.2.2.1.2
    have g501 : wR (sR (sI (sI (sI wx 1201 0 0) 1203 0 (wI wx 502 36)) 1204 0 (wI wx 503 36)) 501 36 (some b)) 501 36 = some b := by rw [wR_sR, if_pos ⟨rfl, rfl⟩]
    generalize sR (sI (sI (sI wx 1201 0 0) 1203 0 (wI wx 502 36)) 1204 0 (wI wx 503 36)) 501 36 (some b) = W2 at *
    have r34 : Fr (fun f x => x = 0 ∧ (f = 1207 ∨ f = 1210)) NA W (sI (sZ W 1207 0 false) 1210 0 0) := Fr.trans (fr_sZ (by omega)) (fr_sI (by omega))
    have g1210 : wI (sI (sZ W 1207 0 false) 1210 0 0) 1210 0 = nI 0 := by rw [wI_sI, if_pos ⟨rfl, rfl⟩]; rfl
    have g1207 : wZ (sI (sZ W 1207 0 false) 1210 0 0) 1207 0 = false := by
      show wZ (sZ W 1207 0 false) 1207 0 = false
      rw [wZ_sZ, if_pos ⟨rfl, rfl⟩]
    have f4 : FX (sI (sZ W 1207 0 false) 1210 0 0) := fW.sZ.sI
    have i4 : ∀ f x, wI (sI (sZ W 1207 0 false) 1210 0 0) f x = if f = 1210 ∧ x = 0 then 0 else wI W f x := fun f x => by rw [wI_sI]; rfl
    have a401 : wI W 401 (b2 + 14 + 2 * 3) = wI (sI (sZ W 1207 0 false) 1210 0 0) 401 (b2 + 14 + 2 * 3) := by rw [i4, if_neg (by omega)]
    rw [a401] at hX
    have rw4 : wR (sI (sZ W 1207 0 false) 1210 0 0) = wR W := rfl
    have aw4 : aI (sI (sZ W 1207 0 false) 1210 0 0) = aI W := rfl
    generalize sI (sZ W 1207 0 false) 1210 0 0 = W4 at *
    have r24 : Fr (fun f x => RG 73 x ∨ (x = 0 ∧ (f = 1207 ∨ f = 1210))) (RG 73) W2 W4 := Fr.trans (rW.mono (fun f x q => Or.inl q) (fun x q => q)) (r34.mono (fun f x q => Or.inr q) (fun _ q => q.elim))
    have rx4 : Fr (fun _ x => ¬ PSA b2 x) (fun x => ¬ PSA b2 x) wx W4 := Fr.trans (r12.mono (fun f x q => by unfold PSA; omega) (fun _ q => q.elim)) (r24.mono (fun f x q => by unfold RG at q; unfold PSA; omega) (fun x q => by unfold RG at q; unfold PSA; omega))
    have r04 : Fr (fun f x => (PSS b2 f x ∨ (x = 36 ∧ f = 501)) ∨ RG 73 x ∨ (x = 0 ∧ (f = 1201 ∨ f = 1203 ∨ f = 1204 ∨ f = 1207 ∨ f = 1210))) (fun x => PSA b2 x ∨ RG 73 x) w W4 := Fr.trans (rx.mono (fun f x q => Or.inl (Or.inl q)) (fun x q => Or.inl q)) (Fr.trans (r12.mono (fun f x q => q.elim (fun z => Or.inr (Or.inr (by omega))) (fun z => Or.inl (Or.inr z))) (fun _ q => q.elim)) (r24.mono (fun f x q => q.elim (fun z => Or.inr (Or.inl z)) (fun z => Or.inr (Or.inr (by omega)))) (fun x q => Or.inr q)))
    have bm1 : BFm W4 n bf := ⟨by rw [(r04.1 1324 415 (by unfold PSS RG; omega)).1]; exact hbm.1, fun k hk => by rw [(r04.2 431 (by unfold PSA RG; omega)).1]; exact hbm.2 k hk⟩
    obtain ⟨u1, eu1, hu1, ru1, gu1, gt1⟩ := m_parse0 f4 hT' bm1 (fun _ _ => [])
    rcases loop u1 hu1 with ⟨_, wx', wm', y1, _⟩ | ⟨p2', s2, t2, nm2, wx', wm', y1, y2, y3, y4, y5⟩
    · rw [x1] at y1
      injection y1 with q
      injection q with q1 q2
      cases q1
    · rw [x1] at y1
      have ewx : wx = wx' := by
        injection y1 with q
        injection q
      subst ewx
      have fm := y4.1.1
      have r2 : Fr MSS MSA u1 wm' := y4.1.2.2.2.2.2
      obtain ⟨w3, e3, f3, r3, d1, d2, d3, d4, d5⟩ := m_takesDraft fm
      have s3 : aI w3 416 3 = nI (s2 3) := by rw [d1 3 (by omega)]; exact y4.2.1.1 3 (by omega)
      have hM : f_X13_parse Kc 415 W4 = some (wI W4 401 (b2 + 14 + 2 * 3), w3) := by
        rw [eu1, y2]
        unfold KP
        rw [y4.1.fine, Option.bind_some, ib_t, e3, Option.bind_some, x1301 f3, Option.bind_some]
        try dsimp only
        rw [show ixa 3 170 = some 3 from rfl, Option.bind_some, s3, (rx4.1 401 (b2 + 14 + 2 * 3) (fun q => q ⟨by omega, by omega⟩)).1, y3.2.1 3 (by omega)]
        rfl
      have r43 : Fr (fun f x => x = 415 ∧ (f = 1300 ∨ (1324 ≤ f ∧ f ≤ 1332) ∨ f = 1309 ∨ f = 1310)) (fun x => x = 416 ∨ x = 417 ∨ x = 418 ∨ x = 419 ∨ (424 ≤ x ∧ x < 428) ∨ (432 ≤ x ∧ x < 436)) W4 w3 := Fr.trans (ru1.mono (fun f x q => by unfold MPS at q; omega) (fun x q => by unfold MPA at q; omega)) (Fr.trans (r2.mono (fun f x q => by unfold MSS at q; omega) (fun x q => by unfold MSA at q; omega)) (r3.mono (fun f x q => by omega) (fun x q => by omega)))
      have R : Fr (fun f x => ((PSS b2 f x ∨ (x = 36 ∧ f = 501)) ∨ RG 73 x ∨ (x = 0 ∧ (f = 1201 ∨ f = 1203 ∨ f = 1204 ∨ f = 1207 ∨ f = 1210))) ∨ (x = 415 ∧ (f = 1300 ∨ (1324 ≤ f ∧ f ≤ 1332) ∨ f = 1309 ∨ f = 1310))) (fun x => (PSA b2 x ∨ RG 73 x) ∨ (x = 416 ∨ x = 417 ∨ x = 418 ∨ x = 419 ∨ (424 ≤ x ∧ x < 428) ∨ (432 ≤ x ∧ x < 436))) w w3 := Fr.trans (r04.mono (fun f x q => Or.inl q) (fun x q => Or.inl q)) (r43.mono (fun f x q => Or.inr q) (fun x q => Or.inr q))
      have H4 : HX W4 73 b2 s2 t2 := HX_new y3.2 y5 f4 hb2 rx4 (by rw [rw4]; exact z1) (by rw [i4, if_neg (by omega)]; exact z2) (by rw [i4, if_neg (by omega), z3, (r12.1 201 (b2 + 11) (by omega)).1]) (fun k hk => by rw [aw4, z4 k hk, (r12.2 (b2 + 12) (fun q => q)).1]) (fun k hk => by rw [aw4, z5 k hk, (r12.2 (b2 + 7) (fun q => q)).1]) (fun i hi => by
        have y := z6 i hi
        rw [(r12.1 306 (b2 + 22 + i) (by omega)).1] at y
        rw [aw4, i4, i4, i4, i4, i4, i4, i4, if_neg (by omega), if_neg (by omega), if_neg (by omega), if_neg (by omega), if_neg (by omega), if_neg (by omega), if_neg (by omega)]
        exact y)
      have H3 : HX w3 73 b2 s2 t2 := H4.fr r43 f3 (fun f x q => by unfold RG RB; omega) (fun x q => by unfold RG RB; omega)
      have zc : ∀ i, i < 12 → cs t2 i 0 = 0 := fun i hi => y5.2.2.1.2 _ (by omega) (by omega)
      have nr : ∀ i, i < 12 → hrg t2 i = false := fun i hi => by unfold hrg; rw [zc i hi]; rfl
      obtain ⟨h1, h2, pa, hp, _⟩ := p1
      refine ⟨wI W4 401 (b2 + 14 + 2 * 3), W4, w3, hX, hM, ⟨b2, s2, t2, ⟨H3, ⟨f3, fun k hk => by rw [d1 k hk]; exact y4.2.1.1 k hk, fun k hk => by rw [d2 k hk]; exact y4.2.1.2 k hk, y5.1, y5.2.1⟩, ⟨fun i hi e => (by rw [zc i hi] at e; omega), fun i j hi hj _ e => (by rw [nr i hi] at e; cases e)⟩, ?_⟩, ⟨0, fun _ _ => 0, ⟨?_, by omega, pa, ⟨fun i hi => ?_, hp.2⟩, fun i hi => by omega⟩, ⟨d4, by omega, fun i hi => by omega⟩⟩, ⟨false, fun _ => 0, ⟨?_, fun q => by cases q⟩, ⟨d5, fun q => by cases q⟩⟩, ⟨b, c1.2.1.2.1, fun q => hne q.symm, ?_⟩, ⟨0, bf, ⟨by omega, fun k hk => by omega⟩, ⟨?_, fun k hk => by omega⟩, ⟨?_, fun k hk => by omega⟩⟩, ⟨n2, ot, k1, ⟨?_, fun k hk => ?_⟩, ⟨?_, fun k hk => ?_⟩⟩, ⟨?_, ?_⟩, nm2, y5.2.2.2.1, fun x i hx hi => ?_, fun x i hx hi => ?_⟩⟩
      · rw [(R.1 1315 415 (by unfold PSS RG; omega)).1]; exact c4
      · rw [(r43.1 1210 0 (by omega)).1]; exact g1210
      · rw [(R.2 163 (by unfold PSA RG; omega)).2.2]; exact hp.1 i hi
      · rw [(r43.1 1207 0 (by omega)).2.2]; exact g1207
      · rw [(r43.1 501 36 (by omega)).2.1, (r24.1 501 36 (by unfold RG; omega)).2.1]; exact g501
      · rw [(r43.1 1201 0 (by omega)).1, (r24.1 1201 0 (by unfold RG; omega)).1]; exact g1201
      · rw [(r3.1 1324 415 (by omega)).1, (r2.1 1324 415 (by unfold MSS; omega)).1]; exact gu1
      · rw [(R.1 1215 0 (by unfold PSS RG; omega)).1]; exact k2.1
      · rw [(R.2 414 (by unfold PSA RG; omega)).1]; exact k2.2 k hk
      · rw [(R.1 1338 415 (by unfold PSS RG; omega)).1]; exact k3.1
      · rw [(R.2 436 (by unfold PSA RG; omega)).1]; exact k3.2 k hk
      · rw [(r43.1 1203 0 (by omega)).1, (r24.1 1203 0 (by unfold RG; omega)).1, g1203, (r3.1 1331 415 (by omega)).1]; exact y4.1.2.2.2.2.1.1.symm
      · rw [(r43.1 1204 0 (by omega)).1, (r24.1 1204 0 (by unfold RG; omega)).1, g1204, (r3.1 1332 415 (by omega)).1]; exact y4.1.2.2.2.2.1.2.symm
      · have cx : cS s2 x = s2 x := if_pos hx
        rw [(r43.2 (b2 + 15 + 2 * x) (by omega)).2.1, (rx4.2 (b2 + 15 + 2 * x) (fun q => q ⟨by omega, by omega⟩)).2.1]; exact y3.2.2.1 x i hx (by rw [cx]; exact hi)
      · have cx : cS s2 x = s2 x := if_pos hx
        rw [d3 x i hx (by have := (nmL_le y5.1 hx).1; omega)]; exact y4.2.2 x i hx (by rw [cx]; exact hi)
