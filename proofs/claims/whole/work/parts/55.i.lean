/-! Undone, saved, restored; the reference's side of a change. -/
def SUn (f x : Nat) : Prop := (f = 1210 ∧ x = 0) ∨ RG 73 x
theorem cp73 {w : Wd} {a b : Nat} {s t t' : Nat → Nat} (h : HX w 73 b s t) (k : HX w a b s t') (ha : a ≠ 73) : ∃ w', f_X10_copyFrom Kc 73 (some a) w = some w' ∧ Fr (fun _ x => RG 73 x) (RG 73) w w' ∧ HX w' 73 b s t' := by
  obtain ⟨w1, e1, o1, h1⟩ := x_copyFrom k (a := 73) (by decide) (fun q => ha q.symm)
  exact ⟨w1, e1, cpF o1, h1⟩
theorem HSx.of73 {w w' : Wd} {b m n : Nat} {s : Nat → Nat} {hs : Nat → Nat → Nat} (h : HSx w b s m hs) (hb : b ∈ SU) (k : Fr SUn (RG 73) w w') (hf : FX w') (hn : n ≤ m) (h9 : wI w' 1210 0 = nI n) : HSx w' b s n hs := by
  obtain ⟨h1, h2, pa, hp, h3⟩ := h
  refine ⟨h9, by omega, pa, ⟨fun i hi => by rw [(k.2 163 (fun q => by have := q.1; have := q.2; omega)).2.2]; exact hp.1 i hi, hp.2⟩, fun i hi => (h3 i (by omega)).fr k hf (fun f x q => ?_) (fun x q => ?_)⟩
  · have r := SP_rg (hp.1 i (by omega)).2
    have u := SU_rg hb
    exact ⟨fun z => by
      have z1 := z.1
      have z2 := z.2
      rcases q with ⟨_, q⟩ | ⟨q1, q2⟩ <;> omega, fun z => by
      have z1 := z.1
      have z2 := z.2
      rcases q with ⟨_, q⟩ | ⟨q1, q2⟩ <;> omega⟩
  · have r := SP_rg (hp.1 i (by omega)).2
    have u := SU_rg hb
    have q1 := q.1
    have q2 := q.2
    exact ⟨fun z => by
      have z1 := z.1
      have z2 := z.2
      omega, fun z => by
      have z1 := z.1
      have z2 := z.2
      omega⟩
theorem m_isT {w : Wd} : f_X13_is Kc 415 true w = some (true, sI w 1300 415 0) := rfl
theorem m_isF {w : Wd} : f_X13_is Kc 415 false w = some (false, sI w 1300 415 1) := rfl
theorem m_mayT {w : Wd} {c : Int32} : f_X13_may Kc 415 true c w = some (true, sI w 1300 415 0) := rfl
theorem m_mayF {w : Wd} {c : Int32} : f_X13_may Kc 415 false c w = some (false, sI w 1300 415 c) := rfl
theorem ib_t {α : Sort _} {x y : α} : (if b2i true = 0 then x else y) = y := rfl
theorem ib_f {α : Sort _} {x y : α} : (if b2i false = 0 then x else y) = x := rfl
theorem ib_t' {α : Sort _} {x y : α} : (if b2i true = nI 0 then x else y) = y := rfl
theorem ib_f' {α : Sort _} {x y : α} : (if b2i false = nI 0 then x else y) = x := rfl
theorem x_undo0 {w : Wd} (h1 : wI w 1210 0 = nI 0) : f_X12_undo Kc 0 w = some (.inr 3, w) := by
  unfold f_X12_undo
  rw [h1, show (0 : Int32) = nI 0 from rfl, if_le_t (by omega) (by omega) (by omega)]
theorem x_undo {w : Wd} {b m : Nat} {s t : Nat → Nat} {hs : Nat → Nat → Nat} (h : HX w 73 b s t) (hh : HSx w b s (m + 1) hs) : ∃ w', f_X12_undo Kc 0 w = some (.inl (nI m), w') ∧ Fr SUn (RG 73) w w' ∧ HX w' 73 b s (hs m) ∧ HSx w' b s m hs := by
  obtain ⟨h1, h2, pa, hp, h3⟩ := hh
  have hb := h.2.1.2.1
  have ub := SU_rg hb
  have pm := hp.1 m (by omega)
  have rm := SP_rg pm.2
  have so : Fr SUn (RG 73) w (sI w 1210 0 (nI m)) := (fr_sI (Or.inl ⟨rfl, rfl⟩))
  have up : ∀ {a : Nat} {t' : Nat → Nat}, a ∈ SA → HX w a b s t' → HX (sI w 1210 0 (nI m)) a b s t' := fun {a t'} ha q => q.fr (S := fun f x => f = 1210 ∧ x = 0) (A := fun _ => False) (fr_sI ⟨rfl, rfl⟩) h.1.sI (fun f x z => by
    have h3 : 73 ≤ a := (by decide : ∀ a, a ∈ SA → 73 ≤ a) a ha
    exact ⟨fun z2 => by have := z2.1; omega, fun z2 => by have := z2.1; omega⟩) (fun x z => z.elim)
  obtain ⟨w2, e2, r2, k2⟩ := cp73 (up (by decide) h) (up (SP_SA pm.2) (h3 m (by omega))) (by omega)
  have r3 : Fr SUn (RG 73) w w2 := so.trans (r2.mono (fun _ _ q => Or.inr q) (fun _ q => q))
  have g9 : wI w2 1210 0 = nI m := by rw [(r2.1 1210 0 (fun q => by have := q.1; omega)).1, wI_sI, if_pos ⟨rfl, rfl⟩]
  have hm : aR (sI w 1210 0 (nI m)) 163 m = some (pa m) := pm.1
  unfold f_X12_undo
  rw [h1, show (0 : Int32) = nI 0 from rfl, if_le_f (by omega) (by omega) (by omega), x1209 h.1, Option.bind_some]
  try dsimp only
  rw [if_le_t (by omega) (by omega) (by omega), show nI (m + 1) - 1 = nI m from sub_nI (a := m + 1) (b := 1) (by omega), Option.bind_some, x1209 h.1.sI, Option.bind_some, wI_sI, if_pos ⟨rfl, rfl⟩]
  try dsimp only
  rw [ixa_n (by omega) (by omega), Option.bind_some, x1205 h.1.sI, Option.bind_some, hm, e2, Option.bind_some, g9]
  exact ⟨w2, rfl, r3, k2, HSx.of73 ⟨h1, h2, pa, hp, h3⟩ hb r3 k2.1 (by omega) g9⟩
theorem x_saveState {w : Wd} {b : Nat} {s t : Nat → Nat} (h : HX w 73 b s t) : ∃ w', f_X12_saveState Kc 0 w = some (nI (t 0), w') ∧ Fr (fun f x => (f = 1207 ∧ x = 0) ∨ RG 103 x) (RG 103) w w' ∧ HX w' 73 b s t ∧ SVx w' b s true t := by
  obtain ⟨w1, e1, o1, h1⟩ := x_copyFrom h (a := 103) (by decide) (by omega)
  have ub := SU_rg h.2.1.2.1
  have r1 := cpF o1
  have k1 : HX w1 73 b s t := h.fr r1 h1.1 (fun f x q => ⟨fun z => by have := q.1; have := z.2; omega, fun z => by have := q.1; have := z.2; omega⟩) (fun x q => ⟨fun z => by have := q.1; have := z.2; omega, fun z => by have := q.1; have := z.2; omega⟩)
  have up : ∀ {a : Nat}, a ∈ SA → HX w1 a b s t → HX (sZ w1 1207 0 true) a b s t := fun {a} ha q => q.fr (S := fun f x => f = 1207 ∧ x = 0) (A := fun _ => False) (fr_sZ ⟨rfl, rfl⟩) h1.1.sZ (fun f x z => by
    have h3 : 73 ≤ a := (by decide : ∀ a, a ∈ SA → 73 ≤ a) a ha
    exact ⟨fun z2 => by have := z2.1; omega, fun z2 => by have := z2.1; omega⟩) (fun x z => z.elim)
  unfold f_X12_saveState
  rw [x1206 h.1, Option.bind_some, i1205 h.1, e1, Option.bind_some, Option.bind_some, x1205 h1.1.sZ, Option.bind_some, (up (by decide) k1).dy]
  exact ⟨_, rfl, (r1.mono (fun _ _ q => Or.inr q) (fun _ q => q)).trans (fr_sZ (Or.inl ⟨rfl, rfl⟩)), up (by decide) k1, by rw [wZ_sZ, if_pos ⟨rfl, rfl⟩], fun _ => up (by decide) h1⟩
theorem x_restoreN {w : Wd} (h1 : wZ w 1207 0 = false) : f_X12_restoreState Kc 0 w = some (.inr 3, w) := by
  unfold f_X12_restoreState
  rw [h1, ib_f]
theorem x_restore {w : Wd} {b : Nat} {s t st : Nat → Nat} (h : HX w 73 b s t) (hv : SVx w b s true st) : ∃ w', f_X12_restoreState Kc 0 w = some (.inl (nI (st 0)), w') ∧ Fr SUn (RG 73) w w' ∧ HX w' 73 b s st ∧ wI w' 1210 0 = nI 0 := by
  obtain ⟨w1, e1, r1, h1⟩ := cp73 h (hv.2 rfl) (by omega)
  have ub := SU_rg h.2.1.2.1
  have k1 : HX (sI w1 1210 0 0) 73 b s st := h1.fr (S := fun f x => f = 1210 ∧ x = 0) (A := fun _ => False) (fr_sI ⟨rfl, rfl⟩) h1.1.sI (fun f x z => ⟨fun z2 => by have := z2.1; omega, fun z2 => by have := z2.1; omega⟩) (fun x z => z.elim)
  unfold f_X12_restoreState
  rw [hv.1, ib_t, x1205 h.1, Option.bind_some, i1206 h.1, e1, Option.bind_some, Option.bind_some, x1205 h1.1.sI, Option.bind_some, k1.dy]
  exact ⟨_, rfl, (r1.mono (fun _ _ q => Or.inr q) (fun _ q => q)).trans (fr_sI (Or.inl ⟨rfl, rfl⟩)), k1, by rw [wI_sI, if_pos ⟨rfl, rfl⟩]; rfl⟩
/-! the reference's -/
def SMt (f x : Nat) : Prop := x = 415 ∧ (f = 1300 ∨ f = 1309)
theorem m_undo0 {w : Wd} (h1 : wI w 1309 415 = nI 0) : f_X13_undo Kc 415 w = some (0, sI w 1300 415 1) := by
  unfold f_X13_undo
  rw [h1, show (0 : Int32) = nI 0 from rfl, if_le_t (by omega) (by omega) (by omega), m_is, Option.bind_some]
  rfl
theorem m_undo {w : Wd} {m : Nat} {s t : Nat → Nat} {hs : Nat → Nat → Nat} (h : HM w s t) (hh : HSm w s (m + 1) hs) : ∃ w', f_X13_undo Kc 415 w = some (nI m, w') ∧ Fr SMt (fun x => x = 418) w w' ∧ wI w' 1300 415 = 0 ∧ HM w' s (hs m) ∧ HSm w' s m hs ∧ POK s (hs m) := by
  obtain ⟨h1, h2, h3⟩ := hh
  have f2 : FX (sI (sI w 1300 415 0) 1309 415 (nI m)) := h.1.sI.sI
  have r2 : Fr SMt (fun x => x = 418) w (sI (sI w 1300 415 0) 1309 415 (nI m)) := ((ofi_sI (S := SMt) (A := fun x => x = 418) ⟨rfl, Or.inl rfl⟩).trans (ofi_sI ⟨rfl, Or.inr rfl⟩)).fr
  obtain ⟨w3, e3, o3, q3⟩ := m_back f2 (n := m) (by omega) (by rw [wI_sI, if_pos ⟨rfl, rfl⟩]) (k := fun v1_33 w15 => some ((wI w15 1309 415), w15))
  have r3 : Fr SMt (fun x => x = 418) w w3 := r2.trans (o3.mono (fun _ _ q => q.elim) (fun _ q => q)).fr
  have f3 : FX w3 := o3.FX f2
  have g9 : wI w3 1309 415 = nI m := by rw [o3.2.1 _ _ (fun q => q), wI_sI, if_pos ⟨rfl, rfl⟩]
  have g0 : wI w3 1300 415 = 0 := by rw [o3.2.1 _ _ (fun q => q), wI_sI, if_neg (by omega), wI_sI, if_pos ⟨rfl, rfl⟩]
  have hm := h3 m (by omega)
  unfold f_X13_undo
  rw [h1, show (0 : Int32) = nI 0 from rfl, if_le_f (by omega) (by omega) (by omega), m_isT, Option.bind_some]
  try dsimp only
  rw [ib_t', wI_sI, if_neg (by omega), h1, show nI (m + 1) - 1 = nI m from sub_nI (a := m + 1) (b := 1) (by omega), Option.bind_some]
  refine ⟨w3, e3.trans (by rw [g9]), r3, g0, ⟨f3, by rw [(r3.2 416 (by omega)).1]; exact h.2.1, fun k hk => ?_, h.gs, hm.2.1⟩, ⟨g9, by omega, fun i hi => by
    rw [(r3.2 423 (by omega)).1]
    exact h3 i (by omega)⟩, hm.2.2⟩
  rw [q3 k hk]
  exact hm.1 k hk
def SMs (f x : Nat) : Prop := x = 415 ∧ (f = 1300 ∨ f = 1310)
theorem m_saveState {w : Wd} {s t : Nat → Nat} (h : HM w s t) (hp : POK s t) : ∃ w', f_X13_saveState Kc 415 w = some (nI (t 0), w') ∧ Fr SMs (fun x => x = 422) w w' ∧ HM w' s t ∧ SVm w' s true t := by
  obtain ⟨w2, e2, o2, q2⟩ := m_copies (w := sI w 1300 415 0) (x1303 h.1.sI) (x1307 h.1.sI) (by omega)
  have f2 : FX w2 := o2.FX h.1.sI
  have r3 : Fr SMs (fun x => x = 422) w (sZ w2 1310 415 true) := ((fr_sI (S := SMs) (A := fun x => x = 422) ⟨rfl, Or.inl rfl⟩).trans (o2.mono (fun _ _ q => q.elim) (fun _ q => q)).fr).trans (fr_sZ ⟨rfl, Or.inr rfl⟩)
  have k3 : HM (sZ w2 1310 415 true) s t := h.fr r3 f2.sZ (by omega) (by omega)
  unfold f_X13_saveState
  rw [Option.bind_some, e2, Option.bind_some, Option.bind_some, x1303 f2.sZ, Option.bind_some]
  try dsimp only
  rw [show ixa 0 370 = some 0 from rfl, Option.bind_some, k3.T (k := 0) (by omega) (by omega)]
  refine ⟨_, rfl, r3, k3, by rw [wZ_sZ, if_pos ⟨rfl, rfl⟩], fun _ => ⟨fun k hk => ?_, h.gt, hp⟩⟩
  refine (q2 k hk).trans ?_
  exact h.2.2.1 k hk
theorem m_restoreN {w : Wd} (h1 : wZ w 1310 415 = false) : f_X13_restoreState Kc 415 w = some (0, sI w 1300 415 1) := by
  unfold f_X13_restoreState
  rw [h1, m_is, Option.bind_some]
  rfl
def SMr (f x : Nat) : Prop := x = 415 ∧ (f = 1300 ∨ f = 1309)
theorem m_restore {w : Wd} {s t st : Nat → Nat} (h : HM w s t) (hv : SVm w s true st) : ∃ w', f_X13_restoreState Kc 415 w = some (nI (st 0), w') ∧ Fr SMt (fun x => x = 418) w w' ∧ wI w' 1300 415 = 0 ∧ HM w' s st ∧ wI w' 1309 415 = nI 0 := by
  obtain ⟨w2, e2, o2, q2⟩ := m_copies (w := sI w 1300 415 0) (x1307 h.1.sI) (x1303 h.1.sI) (by omega)
  have f2 : FX w2 := o2.FX h.1.sI
  have r3 : Fr SMt (fun x => x = 418) w (sI w2 1309 415 0) := ((fr_sI (S := SMt) (A := fun x => x = 418) ⟨rfl, Or.inl rfl⟩).trans (o2.mono (fun _ _ q => q.elim) (fun _ q => q)).fr).trans (fr_sI ⟨rfl, Or.inr rfl⟩)
  have k3 : HM (sI w2 1309 415 0) s st := ⟨f2.sI, by rw [(r3.2 416 (by omega)).1]; exact h.2.1, fun k hk => (q2 k hk).trans ((hv.2 rfl).1 k hk), h.gs, (hv.2 rfl).2.1⟩
  unfold f_X13_restoreState
  rw [hv.1, m_isT, Option.bind_some]
  try dsimp only
  rw [ib_t, e2, Option.bind_some, Option.bind_some, x1303 f2.sI, Option.bind_some]
  try dsimp only
  rw [show ixa 0 370 = some 0 from rfl, Option.bind_some, k3.T (k := 0) (by omega) (by omega)]
  refine ⟨_, rfl, r3, ?_, k3, by rw [wI_sI, if_pos ⟨rfl, rfl⟩]; rfl⟩
  rw [wI_sI, if_neg (by omega), o2.2.1 _ _ (fun q => q), wI_sI, if_pos ⟨rfl, rfl⟩]
/-- what was kept aside goes into the history -/
theorem m_commit {w w2 : Wd} {m : Nat} {s t t' : Nat → Nat} {hs : Nat → Nat → Nat} {v : Int32} (h : HM w s t) (hp : POK s t) (hh : HSm w s m hs) (k : HM w2 s t') (h9 : wI w2 1309 415 = wI w 1309 415) (h23 : aI w2 423 = aI w 423) (h20 : ∀ k, k < 370 → aI w2 420 k = aI w 418 k) : ∃ w3, f_X13_done Kc 415 v w2 = some (v, w3) ∧ Fr HN A23 w2 w3 ∧ HM w3 s t' ∧ HSm w3 s (rmM m) (rmH m hs t) := by
  obtain ⟨h1, h2, h3⟩ := hh
  unfold f_X13_done
  by_cases e : m < 8
  · obtain ⟨w3, e3, o3, g3, q3⟩ := m_keeps k.1 e (h9.trans h1)
    rw [e3, Option.bind_some]
    refine ⟨w3, rfl, o3.fr, k.fr o3.fr (o3.FX k.1) (by unfold A23; omega) (by unfold A23; omega), by rw [show rmM m = m + 1 from if_pos e]; exact g3, by rw [show rmM m = m + 1 from if_pos e]; omega, fun i hi => ?_⟩
    rw [show rmM m = m + 1 from if_pos e] at hi
    rw [show rmH m hs t i = if i = m then t else hs i from if_pos e]
    by_cases ei : i = m
    · subst ei
      rw [if_pos rfl]
      refine ⟨fun x hx => ?_, h.gt, hp⟩
      dsimp only
      rw [q3, if_pos (by omega), show 370 * i + x - 370 * i = x by omega, h20 x hx]
      exact h.2.2.1 x hx
    · rw [if_neg ei]
      have r := h3 i (by omega)
      refine ⟨fun x hx => ?_, r.2⟩
      dsimp only
      rw [q3, if_neg (by omega), h23]
      exact r.1 x hx
  · have e8 : m = 8 := by omega
    subst e8
    obtain ⟨w3, e3, o3, g3, q3⟩ := m_keepsF k.1 (h9.trans h1)
    rw [e3, Option.bind_some]
    refine ⟨w3, rfl, o3.fr, k.fr o3.fr (o3.FX k.1) (by unfold A23; omega) (by unfold A23; omega), g3, by rw [show rmM 8 = 8 from rfl]; omega, fun i hi => ?_⟩
    rw [show rmM 8 = 8 from rfl] at hi
    rw [show rmH 8 hs t i = if i = 7 then t else hs (i + 1) from if_neg (by omega)]
    by_cases ei : i = 7
    · subst ei
      rw [if_pos rfl]
      refine ⟨fun x hx => ?_, h.gt, hp⟩
      dsimp only
      rw [q3, if_neg (by omega), if_pos (by omega), show 370 * 7 + x - 2590 = x by omega, h20 x hx]
      exact h.2.2.1 x hx
    · rw [if_neg ei]
      have r := h3 (i + 1) (by omega)
      refine ⟨fun x hx => ?_, r.2⟩
      dsimp only
      rw [q3, if_pos (by omega), h23, show 370 * i + x + 370 = 370 * (i + 1) + x by omega]
      exact r.1 x hx
