/-! Calls that change the calendar: what each does. -/
variable {X : Kd}
theorem n_undo {w : Wd} {b m : Nat} {s t : Nat → Nat} {hs : Nat → Nat → Nat} (h : HX w 73 b s t) (hh : HSx w b s (m + 1) hs) : ∃ w', f_NX12_undo (Kx X) 0 w = some (nI m, w') ∧ Fr SUn (RG 73) w w' ∧ HX w' 73 b s (hs m) ∧ HSx w' b s m hs := by
  obtain ⟨h1, h2, pa, hp, h3⟩ := hh
  have hb := h.2.1.2.1
  have ub := SU_rg hb
  have pm := hp.1 m (by omega)
  have rm := SP_rg pm.2
  have so : Fr SUn (RG 73) w (sI w 1210 0 (nI m)) := (fr_sI (Or.inl ⟨rfl, rfl⟩))
  have up : ∀ {a : Nat} {t' : Nat → Nat}, a ∈ SA → HX w a b s t' → HX (sI w 1210 0 (nI m)) a b s t' := fun {a t'} ha q => q.fr (S := fun f x => f = 1210 ∧ x = 0) (A := fun _ => False) (fr_sI ⟨rfl, rfl⟩) h.1.sI (fun f x z => by
    have h3 : 73 ≤ a := (by decide : ∀ a, a ∈ SA → 73 ≤ a) a ha
    exact ⟨fun z2 => by have := z2.1; omega, fun z2 => by have := z2.1; omega⟩) (fun x z => z.elim)
  obtain ⟨w2, e2, r2, k2⟩ := cp73 (X := X) (up (by decide) h) (up (SP_SA pm.2) (h3 m (by omega))) (by omega)
  have r3 : Fr SUn (RG 73) w w2 := so.trans (r2.mono (fun _ _ q => Or.inr q) (fun _ q => q))
  have g9 : wI w2 1210 0 = nI m := by rw [(r2.1 1210 0 (fun q => by have := q.1; omega)).1, wI_sI, if_pos ⟨rfl, rfl⟩]
  have hm : aR (sI w 1210 0 (nI m)) 163 m = some (pa m) := pm.1
  unfold f_NX12_undo
  rw [h1, show (0 : Int32) = nI 0 from rfl, if_le_f (by omega) (by omega) (by omega), x1209 h.1, Option.bind_some]
  try dsimp only
  rw [if_le_t (by omega) (by omega) (by omega), show nI (m + 1) - 1 = nI m from sub_nI (a := m + 1) (b := 1) (by omega), Option.bind_some, x1209 h.1.sI, Option.bind_some, wI_sI, if_pos ⟨rfl, rfl⟩]
  try dsimp only
  rw [ixa_n (by omega) (by omega), Option.bind_some, x1205 h.1.sI, Option.bind_some, hm, e2, Option.bind_some, g9]
  exact ⟨w2, rfl, r3, k2, HSx.of73 ⟨h1, h2, pa, hp, h3⟩ hb r3 k2.1 (by omega) g9⟩
theorem n_restore {w : Wd} {b : Nat} {s t st : Nat → Nat} (h : HX w 73 b s t) (hv : SVx w b s true st) : ∃ w', f_NX12_restoreState (Kx X) 0 w = some (nI (st 0), w') ∧ Fr SUn (RG 73) w w' ∧ HX w' 73 b s st ∧ wI w' 1210 0 = nI 0 := by
  obtain ⟨w1, e1, r1, h1⟩ := cp73 (X := X) h (hv.2 rfl) (by omega)
  have ub := SU_rg h.2.1.2.1
  have k1 : HX (sI w1 1210 0 0) 73 b s st := h1.fr (S := fun f x => f = 1210 ∧ x = 0) (A := fun _ => False) (fr_sI ⟨rfl, rfl⟩) h1.1.sI (fun f x z => ⟨fun z2 => by have := z2.1; omega, fun z2 => by have := z2.1; omega⟩) (fun x z => z.elim)
  unfold f_NX12_restoreState
  rw [hv.1, ib_t, x1205 h.1, Option.bind_some, i1206 h.1, e1, Option.bind_some, Option.bind_some, x1205 h1.1.sI, Option.bind_some, k1.dy]
  exact ⟨_, rfl, (r1.mono (fun _ _ q => Or.inr q) (fun _ q => q)).trans (fr_sI (Or.inl ⟨rfl, rfl⟩)), k1, by rw [wI_sI, if_pos ⟨rfl, rfl⟩]; rfl⟩
/-- the calendar stands for the setup s, the state t and the states hs that can be undone -/
def Cst (w : Wd) (b : Nat) (s t : Nat → Nat) (m : Nat) (hs : Nat → Nat → Nat) : Prop := HX w 73 b s t ∧ POK s t ∧ HSx w b s m hs ∧ ∀ i, i < m → POK s (hs i)
theorem Cst.fr {w w' : Wd} {b : Nat} {s t : Nat → Nat} {m : Nat} {hs : Nat → Nat → Nat} (h : Cst w b s t m hs) (r : Fr TSx TAx w w') (f : FX w') : Cst w' b s t m hs := ⟨tx73 h.1 r f, h.2.1, h.2.2.1.fr h.1.2.1.2.1 r f (fun f x q => by unfold TSx at q; unfold inU; omega) (fun x q => by unfold TAx at q; unfold inU; omega), h.2.2.2⟩
theorem Cst.off {w w' : Wd} {b : Nat} {s t : Nat → Nat} {m : Nat} {hs : Nat → Nat → Nat} (h : Cst w b s t m hs) (o : Off PL w w') : Cst w' b s t m hs := h.fr (PL_fr o) (o.FX h.1.1)
theorem rmM_pok {s t : Nat → Nat} {m : Nat} {hs : Nat → Nat → Nat} (hm : m ≤ 8) (ht : POK s t) (h : ∀ i, i < m → POK s (hs i)) : ∀ i, i < rmM m → POK s (rmH m hs t i) := fun i hi => by
  unfold rmM at hi
  unfold rmH
  by_cases e : m < 8
  · rw [if_pos e] at hi ⊢
    by_cases e2 : i = m
    · rw [if_pos e2]; exact ht
    · rw [if_neg e2]; exact h i (by omega)
  · rw [if_neg e] at hi ⊢
    by_cases e2 : i = 7
    · rw [if_pos e2]; exact ht
    · rw [if_neg e2]; exact h (i + 1) (by omega)
theorem Xmut {ρ : Type} {F : Wd → Option (ρ × Wd)} {w wp : Wd} {b m : Nat} {s t t' : Nat → Nat} {hs : Nat → Nat → Nat} {v : ρ} (h : Cst w b s t m hs) (rp : Fr TSx TAx w wp) (fp : FX wp) (hp : POK s t')
    (hX : ∀ w1, f_X12_remember (Kx X) 0 wp = some w1 → HX w1 73 b s t → Fr SRm ARm wp w1 → ∃ w2, F w = some (v, w2) ∧ HX w2 73 b s t' ∧ Fr MX MA w1 w2) : ∃ w2, F w = some (v, w2) ∧ Cst w2 b s t' (rmM m) (rmH m hs t) := by
  obtain ⟨c1, c2, p1, c3⟩ := h
  have hb := c1.2.1.2.1
  have ub := SU_rg hb
  have cp := tx73 c1 rp fp
  have hp1 : HSx wp b s m hs := p1.fr hb rp fp (fun f x q => by unfold TSx at q; unfold inU; omega) (fun x q => by unfold TAx at q; unfold inU; omega)
  obtain ⟨w1, e1, r1, k1, hs1⟩ := x_remember (X := X) cp hp1
  obtain ⟨w2, e2, k2, r2⟩ := hX w1 e1 k1 r1
  have hs2 : HSx w2 b s (rmM m) (rmH m hs t) := hs1.fr hb r2 k2.1 (fun f x q => by unfold MX RG at q; unfold inU; omega) (fun x q => by unfold MA RG at q; unfold inU; omega)
  exact ⟨w2, e2, k2, hp, hs2, rmM_pok p1.2.1 c2 c3⟩
theorem m_pass {w : Wd} {b m : Nat} {s t : Nat → Nat} {hs : Nat → Nat → Nat} (h : Cst w b s t m hs) {n : Nat} (n0 : 0 < n) (n2 : n ≤ 99) (n1 : t 0 + n < 600) : ∃ w2, f_NX12_pass (Kx X) 0 (nI n) w = some (nI (hdN s t n), w2) ∧ Cst w2 b s (phT t (t 0 + n) (fin s t n)) (rmM m) (rmH m hs t) := by
  refine Xmut (X := X) h Fr.rf h.1.1 (pok_fin h.1.gt h.2.1 n) (fun w1 e1 k1 r1 => ?_)
  obtain ⟨w2, e2, k2, o2⟩ := x_passDays (X := X) k1 n0 n1
  refine ⟨w2, ?_, k2, OF_MX o2 (fun x q => by unfold PD at q; omega)⟩
  unfold f_NX12_pass
  rw [n_reP h.1 n0 n2 n1, Option.bind_some, e1, Option.bind_some, x1205 k1.1, Option.bind_some, e2, Option.bind_some]
theorem m_planAll {w : Wd} {b m : Nat} {s t : Nat → Nat} {hs : Nat → Nat → Nat} (h : Cst w b s t m hs) : ∃ w2, f_X12_planAll (Kx X) 0 w = some (nI (pSt s t (-nI 1) (cnt (wt t) (s 3))).2, w2) ∧ Cst w2 b s (pSt s t (-nI 1) (cnt (wt t) (s 3))).1 (rmM m) (rmH m hs t) := by
  have hs1 := h.1.gs.1
  refine Xmut (X := X) h Fr.rf h.1.1 (pok_pSt h.1.gs h.1.gt h.2.1 _ (Nat.le_refl _)).1 (fun w1 e1 k1 r1 => ?_)
  obtain ⟨w2, e2, k2, o2⟩ := x_planWaiting (X := X) k1 (AB0 hs1.2.1)
  refine ⟨w2, ?_, k2, OF_MX o2 (fun x q => by unfold PA at q; omega)⟩
  unfold f_X12_planAll
  rw [e1, Option.bind_some, x1211 k1.1, Option.bind_some, i1205 k1.1, show (0 : Int32) = nI 0 from rfl, e2, Option.bind_some]
theorem m_planNext {w : Wd} {b m : Nat} {s t : Nat → Nat} {hs : Nat → Nat → Nat} (h : Cst w b s t m hs) {i : Nat} (hi : i < s 3) : (∃ e w2, f_X12_planNext (Kx X) 0 (nI i) w = some (.inr e, w2) ∧ (e = 3 ∨ e = 4) ∧ Cst w2 b s t m hs) ∨ ∃ d q r o w2, cs t i 0 = 0 ∧ fa s t (-nI 1) i = some (d, q, r, o) ∧ f_X12_planNext (Kx X) 0 (nI i) w = some (.inl (nI d), w2) ∧ Cst w2 b s (plT t i d q r o) (rmM m) (rmH m hs t) := by
  have hx := h.1
  have hp := h.2.1
  have hs1 := hx.gs.1
  have c3 := hx.gt.c3 (i := i) (by omega)
  have er : inR (nI i) (s 3) := by rw [show inR (nI i) (s 3) ↔ (0 ≤ (nI i).toInt ∧ (nI i).toInt < (s 3 : Int)) from Iff.rfl, nI_toInt (by omega)]; omega
  by_cases e3 : cs t i 0 = 0
  · have x1 := x_findFirst (X := X) hx hi (AB0 hs1.2.1)
    have xf : f_X12_planNext (Kx X) 0 (nI i) w = ((f_X6_findFirst (Kx X) 404 (some 73) (nI i) (nI 0) w).bind fun q9 => if (b2i q9.1) = 0 then (some (.inr 4, q9.2)) else ((f_X12_remember (Kx X) 0 q9.2).bind fun q11 => (chk (Kx X) 5 (wR q11 1211 0)).bind fun a12 => (f_X6_setFound (Kx X) a12 (wR q11 1205 0) (nI i) q11).bind fun q13 => (chk (Kx X) 5 (wR q13 1211 0)).bind fun a14 => some (.inl (wI q13 608 a14), q13))) := by
      unfold f_X12_planNext
      rw [x_re3 hx, if_pos er, Option.bind_some, xk_l]
      try dsimp only
      rw [x1205 hx.1, Option.bind_some, hx.pg, Option.bind_some]
      try dsimp only
      rw [ixa_n (by omega) (by omega), Option.bind_some, hx.pe (by omega), Option.bind_some, hx.p0 (by omega), if_pos (show nI (cs t i 0) = 0 by rw [e3]; rfl), x1211 hx.1, Option.bind_some, i1205 hx.1]
      rfl
    cases q0 : fa s t (-nI 1) i with
    | none =>
      rw [q0] at x1
      obtain ⟨w1, x1, o1⟩ := x1
      exact Or.inl ⟨4, w1, by rw [xf, x1, Option.bind_some]; rfl, Or.inr rfl, h.off o1⟩
    | some z =>
      obtain ⟨d, q, r, o⟩ := z
      rw [q0] at x1
      obtain ⟨w1, x1, o1⟩ := x1
      obtain ⟨y1, y2, y3, y4⟩ := fa_good hx.gs hx.gt hi q0
      have f1 : FX (setG w1 d q r o) := (((o1.FX hx.1).sI).sI).sI.sI
      have og : Fr TSx TAx w (setG w1 d q r o) := (PL_fr o1).trans (PL_fr setG_off)
      obtain ⟨w4, x4, k4⟩ := Xmut (X := X) (F := f_X12_planNext (Kx X) 0 (nI i)) (t' := plT t i d q r o) (v := (.inl (nI d) : Int32 ⊕ Nat)) h og f1 (pok_plT hx.gt hp y1.1 (faL_some q0).2.2.2.2) (fun w2 e5 k1 r1 => by
        have sg : ∀ f, wI w2 f 404 = wI (setG w1 d q r o) f 404 := fun f => (r1.1 f 404 (by unfold SRm; omega)).1
        obtain ⟨w3, x3, k3, o3⟩ := x_setFound (X := X) k1 hi y1 y2 y3 y4 (by rw [sg]; exact setG_608) (by rw [sg]; simp [setG, wI_sI]) (by rw [sg]; simp [setG, wI_sI]) (by rw [sg]; simp [setG, wI_sI])
        refine ⟨w3, ?_, k3, o3.fr.mono (fun f x q => by unfold MX RG; omega) (fun x q => q.elim)⟩
        rw [xf, x1, Option.bind_some]
        try dsimp only
        rw [ib_t, e5, Option.bind_some, x1211 k1.1, Option.bind_some, i1205 k1.1, x3, Option.bind_some, x1211 k3.1, Option.bind_some, o3.2.1 608 404 (by omega), sg, setG_608])
      exact Or.inr ⟨d, q, r, o, w4, e3, rfl, x4, k4⟩
  · refine Or.inl ⟨3, w, ?_, Or.inl rfl, h⟩
    unfold f_X12_planNext
    rw [x_re3 hx, if_pos er, Option.bind_some, xk_l]
    try dsimp only
    rw [x1205 hx.1, Option.bind_some, hx.pg, Option.bind_some]
    try dsimp only
    rw [ixa_n (by omega) (by omega), Option.bind_some, hx.pe (by omega), Option.bind_some, hx.p0 (by omega), if_neg (show ¬ nI (cs t i 0) = 0 from fun q => e3 ((nI_eq (b := 0) (by omega) (by omega)).mp q))]
theorem m_adjourn {w : Wd} {b m : Nat} {s t : Nat → Nat} {hs : Nat → Nat → Nat} (h : Cst w b s t m hs) {i p : Nat} (hi : i < s 3) (hp4 : p < 4) : (f_X12_adjourn (Kx X) 0 (nI i) (nI p) w = some (.inr 3, w)) ∨ ∃ v w2, cs t i 0 = 1 ∧ cs t i 2 < 5 ∧ f_X12_adjourn (Kx X) 0 (nI i) (nI p) w = some (.inl v, w2) ∧ Cst w2 b s (tkT s t i p) (rmM m) (rmH m hs t) := by
  have hx := h.1
  have hs1 := hx.gs.1
  have c3 := hx.gt.c3 (i := i) (by omega)
  have er : inR (nI i) (s 3) := by rw [show inR (nI i) (s 3) ↔ (0 ≤ (nI i).toInt ∧ (nI i).toInt < (s 3 : Int)) from Iff.rfl, nI_toInt (by omega)]; omega
  have e2 : inR (nI p) 4 := by rw [show inR (nI p) 4 ↔ (0 ≤ (nI p).toInt ∧ (nI p).toInt < ((4 : Nat) : Int)) from Iff.rfl, nI_toInt (by omega)]; omega
  by_cases e3 : cs t i 0 = 1
  · by_cases e4 : cs t i 2 < 5
    · have hr : hrg t i = true := by unfold hrg; rw [e3]; rfl
      obtain ⟨w4, x4, k4⟩ := Xmut (X := X) (F := f_X12_adjourn (Kx X) 0 (nI i) (nI p)) (t' := tkT s t i p) (v := (.inl (nI (limD s (tkT s t i p) i)) : Int32 ⊕ Nat)) h Fr.rf hx.1 (pok_tkT hx.gt h.2.1 (by omega)) (fun w1 e1 k1 r1 => by
        obtain ⟨w2, x2, k2, o2⟩ := x_takeAway (X := X) k1 hi hp4 hr
        refine ⟨w2, ?_, k2, o2.fr.mono (fun f x q => by unfold MX RG; omega) (fun x q => by unfold MA RG; omega)⟩
        unfold f_X12_adjourn
        rw [x_re3 hx, if_pos er, Option.bind_some, xk_l]
        try dsimp only
        rw [x_reqR, if_pos e2, Option.bind_some, xk_l]
        try dsimp only
        rw [x1205 hx.1, Option.bind_some, hx.pg, Option.bind_some]
        try dsimp only
        rw [ixa_n (by omega) (by omega), Option.bind_some, hx.pe (by omega), Option.bind_some, hx.p0 (by omega), hx.p6 (by omega), show (1 : Int32) = nI 1 from rfl, if_eq_t e3, show (5 : Int32) = nI 5 from rfl, if_lt_t (by omega) (by omega) e4, e1, Option.bind_some, x1205 k1.1, Option.bind_some, x2, Option.bind_some, x1205 k2.1, Option.bind_some, x_limitDay k2 hi, Option.bind_some])
      exact Or.inr ⟨_, w4, e3, e4, x4, k4⟩
    · refine Or.inl ?_
      unfold f_X12_adjourn
      rw [x_re3 hx, if_pos er, Option.bind_some, xk_l]
      try dsimp only
      rw [x_reqR, if_pos e2, Option.bind_some, xk_l]
      try dsimp only
      rw [x1205 hx.1, Option.bind_some, hx.pg, Option.bind_some]
      try dsimp only
      rw [ixa_n (by omega) (by omega), Option.bind_some, hx.pe (by omega), Option.bind_some, hx.p0 (by omega), hx.p6 (by omega), show (1 : Int32) = nI 1 from rfl, if_eq_t e3, show (5 : Int32) = nI 5 from rfl, if_lt_f (by omega) (by omega) (by omega)]
  · refine Or.inl ?_
    unfold f_X12_adjourn
    rw [x_re3 hx, if_pos er, Option.bind_some, xk_l]
    try dsimp only
    rw [x_reqR, if_pos e2, Option.bind_some, xk_l]
    try dsimp only
    rw [x1205 hx.1, Option.bind_some, hx.pg, Option.bind_some]
    try dsimp only
    rw [ixa_n (by omega) (by omega), Option.bind_some, hx.pe (by omega), Option.bind_some, hx.p0 (by omega), show (1 : Int32) = nI 1 from rfl, if_eq_f (by omega) (by omega) e3]
theorem m_addHoliday {w : Wd} {b m : Nat} {s t : Nat → Nat} {hs : Nat → Nat → Nat} (h : Cst w b s t m hs) {d : Nat} (hd : d < 600) : (∃ e, f_X12_addHoliday (Kx X) 0 (nI d) w = some (.inr e, w) ∧ (e = 2 ∨ e = 3)) ∨ ∃ v w2, t 0 ≤ d ∧ wkg t d = true ∧ t 1 < 20 ∧ f_X12_addHoliday (Kx X) 0 (nI d) w = some (.inl v, w2) ∧ Cst w2 b s (twT s (hoT t d) (fun c => cs (hoT t d) c 0 == 1 && cs (hoT t d) c 3 == d) 3 (s 3)) (rmM m) (rmH m hs t) := by
  have hx := h.1
  have hp := h.2.1
  have hs1 := hx.gs.1
  have h0 := hx.gt.1
  have ht1 := hx.gt.2.1
  have id1 : inD (nI d) (t 0) ↔ t 0 ≤ d := by rw [show inD (nI d) (t 0) ↔ ((t 0 : Int) ≤ (nI d).toInt ∧ (nI d).toInt < 600) from Iff.rfl, nI_toInt (by omega)]; omega
  by_cases e0 : t 0 ≤ d
  · have e := id1.mpr e0
    by_cases e2 : wkg t d = true
    · by_cases e3 : t 1 < 20
      · have hh := wkg_hol e2
        have gh := hoT_good hx.gt hd e3 hh
        obtain ⟨w4, x4, k4⟩ := Xmut (X := X) (F := f_X12_addHoliday (Kx X) 0 (nI d)) (t' := twT s (hoT t d) (fun c => cs (hoT t d) c 0 == 1 && cs (hoT t d) c 3 == d) 3 (s 3)) (v := (.inl (nI (cnt (fun c => cs (hoT t d) c 0 == 1 && cs (hoT t d) c 3 == d) (s 3))) : Int32 ⊕ Nat)) h Fr.rf hx.1 (pok_twT hx.gs gh (hoT_ok hx.gt hp) (by omega) _ (by omega)) (fun w1 e1 k1 r1 => by
          obtain ⟨w2, x2, k2, r2⟩ := x_add (X := X) k1 hd e3 hh
          obtain ⟨w3, x3, k3, o3⟩ := x_holL (X := X) k2 (d := d) (by omega) (k := fun v1_58 v2_58 v3_58 w13 => some (.inl v2_58, w13))
          refine ⟨w3, ?_, k3, r2.trans (OF_MX o3 (fun x q => by unfold PD at q; omega))⟩
          unfold f_X12_addHoliday
          rw [x_reqC hx, if_pos e, Option.bind_some, xk_l]
          try dsimp only
          rw [x1205 hx.1, Option.bind_some, x_works hx (by omega), e2, Option.bind_some]
          try dsimp only
          rw [ib_t, x1205 hx.1, Option.bind_some, t1002 hx.1 (by decide), Option.bind_some, hx.2.2.2.1.1.2, show (20 : Int32) = nI 20 from rfl, if_lt_t (by omega) (by omega) e3, e1, Option.bind_some, x1205 k1.1, Option.bind_some, t1002 k1.1 (by decide), Option.bind_some, x2, Option.bind_some]
          exact x3)
        exact Or.inr ⟨_, w4, e0, e2, e3, x4, k4⟩
      · refine Or.inl ⟨3, ?_, Or.inr rfl⟩
        unfold f_X12_addHoliday
        rw [x_reqC hx, if_pos e, Option.bind_some, xk_l]
        try dsimp only
        rw [x1205 hx.1, Option.bind_some, x_works hx (by omega), e2, Option.bind_some]
        try dsimp only
        rw [ib_t, x1205 hx.1, Option.bind_some, t1002 hx.1 (by decide), Option.bind_some, hx.2.2.2.1.1.2, show (20 : Int32) = nI 20 from rfl, if_lt_f (by omega) (by omega) (by omega)]
    · have e2 : wkg t d = false := by cases q : wkg t d with | true => exact absurd q e2 | false => rfl
      refine Or.inl ⟨3, ?_, Or.inr rfl⟩
      unfold f_X12_addHoliday
      rw [x_reqC hx, if_pos e, Option.bind_some, xk_l]
      try dsimp only
      rw [x1205 hx.1, Option.bind_some, x_works hx (by omega), e2, Option.bind_some, ib_f]
  · refine Or.inl ⟨2, ?_, Or.inl rfl⟩
    unfold f_X12_addHoliday
    rw [x_reqC hx, if_neg (fun q => e0 (id1.mp q)), Option.bind_some, xk_r]
theorem m_withdraw {w : Wd} {b m : Nat} {s t : Nat → Nat} {hs : Nat → Nat → Nat} (h : Cst w b s t m hs) {v d : Nat} (hvv : v < s 2) (hd : d < 600) : (f_X12_withdraw (Kx X) 0 (nI v) (nI d) w = some (.inr 2, w)) ∨ ∃ r w2, t 0 ≤ d ∧ f_X12_withdraw (Kx X) 0 (nI v) (nI d) w = some (.inl r, w2) ∧ Cst w2 b s (twT s (wdT t v d) (fun c => cs (wdT t v d) c 0 == 1 && (!decide (cs (wdT t v d) c 3 < d) && (s (136 + c)).testBit v)) 0 (s 3)) (rmM m) (rmH m hs t) := by
  have hx := h.1
  have hp := h.2.1
  have hs1 := hx.gs.1
  have h0 := hx.gt.1
  have er : inR (nI v) (s 2) := by rw [show inR (nI v) (s 2) ↔ (0 ≤ (nI v).toInt ∧ (nI v).toInt < (s 2 : Int)) from Iff.rfl, nI_toInt (by omega)]; omega
  have id1 : inD (nI d) (t 0) ↔ t 0 ≤ d := by rw [show inD (nI d) (t 0) ↔ ((t 0 : Int) ≤ (nI d).toInt ∧ (nI d).toInt < 600) from Iff.rfl, nI_toInt (by omega)]; omega
  have gv := hx.gt.2.2.2.2.1 v (by omega)
  by_cases e0 : t 0 ≤ d
  · have e2 := id1.mpr e0
    have gh := wdT_good hx.gt (v := v) (d := d) (by omega)
    obtain ⟨w4, x4, k4⟩ := Xmut (X := X) (F := f_X12_withdraw (Kx X) 0 (nI v) (nI d)) (t' := twT s (wdT t v d) (fun c => cs (wdT t v d) c 0 == 1 && (!decide (cs (wdT t v d) c 3 < d) && (s (136 + c)).testBit v)) 0 (s 3)) (v := (.inl (nI (cnt (fun c => cs (wdT t v d) c 0 == 1 && (!decide (cs (wdT t v d) c 3 < d) && (s (136 + c)).testBit v)) (s 3))) : Int32 ⊕ Nat)) h Fr.rf hx.1 (pok_twT hx.gs gh (wdT_ok hp (by omega)) (by omega) _ (by omega)) (fun w1 e1 k1 r1 => by
      have k2 := x_wd k1 hvv hd
      obtain ⟨w3, x3, k3, o3⟩ := x_wdL (X := X) k2 (v := v) (d := d) (by omega) (by omega) (k := fun v1_44 v2_44 v3_44 v4_44 w11 => some (.inl v3_44, w11))
      refine ⟨w3, ?_, k3, ((ofi_tI (S := NS) (A := fun x => x = 76) rfl).fr.mono (fun _ _ q => q.elim) (fun x q => by unfold MA RG; omega)).trans (OF_MX o3 (fun x q => by unfold PD at q; omega))⟩
      unfold f_X12_withdraw
      rw [x_re2 hx, if_pos er, Option.bind_some, xk_l]
      try dsimp only
      rw [x_reqC hx, if_pos e2, Option.bind_some, xk_l]
      try dsimp only
      rw [e1, Option.bind_some, x1205 k1.1, Option.bind_some, t1003 k1.1 (by decide), Option.bind_some]
      try dsimp only
      rw [ixa_n (by omega) (by omega), Option.bind_some, Option.bind_some, Option.bind_some, show aI w1 76 v = nI (t (22 + v)) - nI 1 from k1.2.2.2.1.2.2.1 v hvv, show (1 : Int32) = nI 1 from rfl]
      exact x3)
    exact Or.inr ⟨_, w4, e0, x4, k4⟩
  · refine Or.inl ?_
    unfold f_X12_withdraw
    rw [x_re2 hx, if_pos er, Option.bind_some, xk_l]
    try dsimp only
    rw [x_reqC hx, if_neg (fun q => e0 (id1.mp q)), Option.bind_some, xk_r]
