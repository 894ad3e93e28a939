variable {X : Kd}
theorem nI_wrap (n : Nat) : nI (n + 4294967296) = nI n := by
  apply Int32.toBitVec_inj.mp
  rw [nI_bv, nI_bv]
  apply BitVec.eq_of_toNat_eq
  simp only [BitVec.toNat_ofNat]
  omega
theorem sub_wr {a b : Nat} (hb : b ≤ 4294967296) : nI a - nI b = nI (a + 4294967296 - b) := by
  have h1 : nI (a + 4294967296 - b) + nI b = nI a := by
    rw [nI_add, show a + 4294967296 - b + b = a + 4294967296 by omega, nI_wrap]
  rw [← h1, Int32.add_sub_cancel]
/-- the new lengthening -/
def tkL (s t : Nat → Nat) (i p : Nat) : Nat := if s (124 + i) = 1 ∧ s 164 < cs t i 1 + s (160 + p) then s 164 else cs t i 1 + s (160 + p)
def tkT (s t : Nat → Nat) (i p : Nat) : Nat → Nat := if cs t i 2 = 5 then ups t (46 + 27 * i + 0) 0 else
  ups (ups (ups (ups (ups (ups (ups t (46 + 27 * i + 0) 0) (46 + 27 * i + 1) (tkL s t i p)) (46 + 27 * i + 2) (cs t i 2 + 1)) (46 + 27 * i + (7 + 4 * cs t i 2)) (t 0)) (46 + 27 * i + (7 + 4 * cs t i 2 + 1)) p) (46 + 27 * i + (7 + 4 * cs t i 2 + 2)) (cs t i 3)) (46 + 27 * i + (7 + 4 * cs t i 2 + 3)) (tkL s t i p + 4294967296 - cs t i 1)
theorem tkT_lo {s t : Nat → Nat} {i p x : Nat} (hx : x < 46) : tkT s t i p x = t x := by
  unfold tkT
  split
  · rw [ups_ne (by omega)]
  · rw [ups_ne (by omega), ups_ne (by omega), ups_ne (by omega), ups_ne (by omega), ups_ne (by omega), ups_ne (by omega), ups_ne (by omega)]
theorem tkT_cs {s t : Nat → Nat} {i p j k : Nat} (h5 : cs t i 2 < 5) (hk : k < 27) : cs (tkT s t i p) j k = if j = i ∧ k = 7 + 4 * cs t i 2 + 3 then tkL s t i p + 4294967296 - cs t i 1 else if j = i ∧ k = 7 + 4 * cs t i 2 + 2 then cs t i 3 else if j = i ∧ k = 7 + 4 * cs t i 2 + 1 then p else if j = i ∧ k = 7 + 4 * cs t i 2 then t 0 else if j = i ∧ k = 2 then cs t i 2 + 1 else if j = i ∧ k = 1 then tkL s t i p else if j = i ∧ k = 0 then 0 else cs t j k := by
  unfold tkT
  rw [if_neg (by omega), cs_ups (by omega) hk, cs_ups (by omega) hk, cs_ups (by omega) hk, cs_ups (by omega) hk, cs_ups (by omega) hk, cs_ups (by omega) hk, cs_ups (by omega) hk]
theorem tkT_c5 {s t : Nat → Nat} {i p j k : Nat} (h5 : cs t i 2 = 5) (hk : k < 27) : cs (tkT s t i p) j k = if j = i ∧ k = 0 then 0 else cs t j k := by
  unfold tkT
  rw [if_pos h5, cs_ups (by omega) hk]
theorem tkT_0 {s t : Nat → Nat} (hT : GoodT s t) {i p : Nat} (hi : i < 12) : cs (tkT s t i p) i 0 = 0 := by
  have c3 := hT.c3 hi
  by_cases e : cs t i 2 = 5
  · rw [tkT_c5 e (by omega)]; simp
  · rw [tkT_cs (by omega) (by omega), if_neg (by omega), if_neg (by omega), if_neg (by omega), if_neg (by omega), if_neg (by omega), if_neg (by omega), if_pos ⟨rfl, rfl⟩]
theorem tkT_ne {s t : Nat → Nat} (hT : GoodT s t) {i p j k : Nat} (hi : i < 12) (hj : j ≠ i) (hk : k < 27) : cs (tkT s t i p) j k = cs t j k := by
  have c3 := hT.c3 hi
  by_cases e : cs t i 2 = 5
  · rw [tkT_c5 e hk, if_neg (fun q => hj q.1)]
  · rw [tkT_cs (by omega) hk, if_neg (fun q => hj q.1), if_neg (fun q => hj q.1), if_neg (fun q => hj q.1), if_neg (fun q => hj q.1), if_neg (fun q => hj q.1), if_neg (fun q => hj q.1), if_neg (fun q => hj q.1)]
theorem tkL_le {s t : Nat → Nat} (hS : GoodS s) (hT : GoodT s t) {i p : Nat} (hi : i < 12) (hp : p < 4) : tkL s t i p ≤ 30 * (cs t i 2 + 1) := by
  have c3 := hT.c3 hi
  have h1 := hS.2.2.2.2.2.2.1 p hp
  unfold tkL
  split <;> omega
theorem tkT_good {s t : Nat → Nat} (hS : GoodS s) (hT : GoodT s t) {i p : Nat} (hi : i < 12) (hp : p < 4) : GoodT s (tkT s t i p) := by
  refine hT.cse (i := i) (fun x hx => tkT_lo hx) (fun j k _ hne hk => tkT_ne hT hi hne hk) ?_
  have c3 := hT.c3 hi
  have e0 := tkT_0 (p := p) hT hi
  have eh : hrg (tkT s t i p) i = false := by unfold hrg; rw [e0]; rfl
  refine ⟨by omega, ?_, ?_, fun q => by rw [eh] at q; cases q⟩
  · by_cases e : cs t i 2 = 5
    · rw [tkT_c5 e (by omega), tkT_c5 e (by omega), if_neg (by omega), if_neg (by omega)]; exact c3.2.1
    · have := tkL_le hS hT hi hp
      rw [tkT_cs (by omega) (by omega), tkT_cs (by omega) (by omega), if_neg (by omega), if_neg (by omega), if_neg (by omega), if_neg (by omega), if_neg (by omega), if_pos ⟨rfl, rfl⟩, if_neg (by omega), if_neg (by omega), if_neg (by omega), if_neg (by omega), if_pos ⟨rfl, rfl⟩]
      exact this
  · by_cases e : cs t i 2 = 5
    · rw [tkT_c5 e (by omega), if_neg (by omega)]; exact c3.2.2
    · rw [tkT_cs (by omega) (by omega), if_neg (by omega), if_neg (by omega), if_neg (by omega), if_neg (by omega), if_pos ⟨rfl, rfl⟩]
      omega
theorem x_dropHearing {w : Wd} {a b : Nat} {s t t' : Nat → Nat} (h : HX w a b s t) {i : Nat} (hi : i < 12) {w1 : Wd} (o : Ofi (fun _ x => x = a + 6 + 2 * i) (fun x => x = a + 7 + 2 * i) w w1) (ht : ∀ x, x < 46 → t' x = t x) (hj : ∀ j k, j < 12 → j ≠ i → k < 27 → cs t' j k = cs t j k) (hT : GoodT s t') (e0 : cs t' i 0 = 0) (e1 : wI w1 701 (a + 6 + 2 * i) = nI (cs t' i 1)) (e2 : wI w1 706 (a + 6 + 2 * i) = nI (cs t' i 2)) (e3 : ∀ k, k < 4 * cs t' i 2 → aI w1 (a + 7 + 2 * i) k = nI (cs t' i (7 + k))) : ∃ w', f_X7_dropHearing (Kx X) (a + 6 + 2 * i) w1 = some w' ∧ HX w' a b s t' ∧ Ofi (fun _ x => x = a + 6 + 2 * i) (fun x => x = a + 7 + 2 * i) w w' := by
  have oo : Ofi (fun _ x => x = a + 6 + 2 * i) (fun x => x = a + 7 + 2 * i) w (sI (sI (sI (sI (sI w1 700 (a + 6 + 2 * i) 0) 702 (a + 6 + 2 * i) (-1)) 703 (a + 6 + 2 * i) (-1)) 704 (a + 6 + 2 * i) (-1)) 705 (a + 6 + 2 * i) (-1)) := o.sIx.sIx.sIx.sIx.sIx
  refine ⟨_, rfl, ?_, oo⟩
  refine h.cse (i := i) hi oo ht hj hT ?_
  have eh : hrg t' i = false := by unfold hrg; rw [e0]; rfl
  refine ⟨?_, ?_, ?_, fun q => (by rw [eh] at q; cases q), fun _ => ⟨?_, ?_, ?_, ?_⟩, fun k hk => ?_⟩
  · rw [e0]; simp [wI_sI]; rfl
  · simp [wI_sI]; exact e1
  · simp [wI_sI]; exact e2
  · simp [wI_sI]; rfl
  · simp [wI_sI]; rfl
  · simp [wI_sI]; rfl
  · simp [wI_sI]; rfl
  · simp only [aI_sI]; exact e3 k hk
theorem wR_tI {w : Wd} {a i : Nat} {v : Int32} : wR (tI w a i v) = wR w := rfl
theorem x_note {w : Wd} {a b : Nat} {s t : Nat → Nat} (h : HX w a b s t) {i p m : Nat} {g : Int32} (hi : i < 12) (hr : hrg t i = true) (h5 : cs t i 2 < 5) : ∃ w', f_X7_note (Kx X) (a + 6 + 2 * i) (nI m) (nI p) g w = some w' ∧ Ofi (fun _ x => x = a + 6 + 2 * i) (fun x => x = a + 7 + 2 * i) w w' ∧ wI w' 706 (a + 6 + 2 * i) = nI (cs t i 2 + 1) ∧ wI w' 701 (a + 6 + 2 * i) = nI (cs t i 1) ∧ ∀ k, k < 4 * (cs t i 2 + 1) → aI w' (a + 7 + 2 * i) k = if k = 4 * cs t i 2 + 3 then g else if k = 4 * cs t i 2 + 2 then nI (cs t i 3) else if k = 4 * cs t i 2 + 1 then nI p else if k = 4 * cs t i 2 then nI m else nI (cs t i (7 + k)) := by
  have r : ∀ w1 : Wd, wR w1 = wR w → cha (Kx X) 20 (wR w1 707 (a + 6 + 2 * i)) = some (a + 7 + 2 * i, 20) := fun w1 e => by rw [e]; exact tlg h.1 h.2.1.1 hi
  have p6 := h.p6 hi
  unfold f_X7_note
  simp only [il]
  rw [p6, if_le_f (by omega) (by omega) h5, r w rfl, Option.bind_some]
  try dsimp only
  rw [show nI (cs t i 2) * nI 4 = nI (cs t i 2 * 4) from pk_mul _ _, ixa_n (by omega) (by omega), Option.bind_some, Option.bind_some, wR_tI, r w rfl, Option.bind_some]
  try dsimp only
  rw [nI_add, ixa_n (by omega) (by omega), Option.bind_some, Option.bind_some, wR_tI, wR_tI, r w rfl, Option.bind_some]
  try dsimp only
  rw [nI_add, ixa_n (by omega) (by omega), Option.bind_some, Option.bind_some, wR_tI, wR_tI, wR_tI, r w rfl, Option.bind_some]
  try dsimp only
  rw [nI_add, ixa_n (by omega) (by omega), Option.bind_some, Option.bind_some, Option.bind_some]
  simp only [wI_tI]
  rw [p6, h.p2 hi hr, nI_add]
  refine ⟨_, rfl, ?_, ?_, ?_, fun k hk => ?_⟩
  · exact (ofi_tIx.tIx.tIx.tIx).sIx
  · rw [wI_sI, if_pos ⟨rfl, rfl⟩]
  · rw [wI_sI, if_neg (by omega)]; simp only [wI_tI]; exact h.p1 hi
  · simp only [aI_sI, aI_tI, true_and]
    by_cases q1 : k = 4 * cs t i 2 + 3
    · rw [if_pos (by omega), if_pos q1]
    · rw [if_neg (by omega), if_neg q1]
      by_cases q2 : k = 4 * cs t i 2 + 2
      · rw [if_pos (by omega), if_pos q2]
      · rw [if_neg (by omega), if_neg q2]
        by_cases q3 : k = 4 * cs t i 2 + 1
        · rw [if_pos (by omega), if_pos q3]
        · rw [if_neg (by omega), if_neg q3]
          by_cases q4 : k = 4 * cs t i 2
          · rw [if_pos (by omega), if_pos q4]
          · rw [if_neg (by omega), if_neg q4]
            exact (h.2.2.2.1.2.2.2.2 i hi).2.2.2.2.2 k (by omega)
theorem x_takeAway {w : Wd} {a b : Nat} {s t : Nat → Nat} (h : HX w a b s t) {i p : Nat} (hi : i < s 3) (hp : p < 4) (hr : hrg t i = true) : ∃ w', f_X10_takeAway (Kx X) a (nI i) (nI p) w = some w' ∧ HX w' a b s (tkT s t i p) ∧ Ofi (fun _ x => x = a + 6 + 2 * i) (fun x => x = a + 7 + 2 * i) w w' := by
  have h12 := h.gs.1.2.2.2
  have c3 := h.gt.c3 (i := i) (by omega)
  have r1 := h.gs.2.2.2.2.2.2.1 p hp
  have r2 := h.gs.2.2.2.2.2.2.2
  have r3 := (h.gs.2.2.2.2.1 i hi).2.2.2.1
  have gd := tkT_good (p := p) h.gs h.gt (show i < 12 by omega) hp
  have e0 := tkT_0 (p := p) h.gt (show i < 12 by omega)
  have p1 := h.p1 (i := i) (by omega)
  unfold f_X10_takeAway
  simp only [il]
  rw [h.pg, Option.bind_some]
  try dsimp only
  rw [ixa_n (by omega) (by omega), Option.bind_some, h.pe (by omega), Option.bind_some, h.p6 (by omega)]
  by_cases e : cs t i 2 = 5
  · rw [if_le_t (by omega) (by omega) (by omega)]
    obtain ⟨w1, q1, q2, q3⟩ := x_dropHearing (X := X) h (i := i) (by omega) (w1 := w) Ofi.rf (t' := tkT s t i p) (fun x hx => tkT_lo hx) (fun j k _ hne hk => tkT_ne h.gt (by omega) hne hk) gd e0 (by rw [tkT_c5 e (by omega), if_neg (by omega)]; exact p1) (by rw [tkT_c5 e (by omega), if_neg (by omega)]; exact h.p6 (by omega)) (fun k hk => by
      rw [tkT_c5 e (by omega), if_neg (by omega)] at hk
      rw [tkT_c5 e (by omega), if_neg (by omega)]
      exact (h.2.2.2.1.2.2.2.2 i (by omega)).2.2.2.2.2 k hk)
    rw [q1, Option.bind_some]
    exact ⟨w1, rfl, q2, q3⟩
  · have fin : ∀ L g, L = tkL s t i p → g = nI (tkL s t i p + 4294967296 - cs t i 1) → ∃ w', ((f_X7_note (Kx X) (a + 6 + 2 * i) (nI (t 0)) (nI p) g w).bind fun q13 => (some (sI q13 701 (a + 6 + 2 * i) (nI L))).bind fun w14 => (f_X7_dropHearing (Kx X) (a + 6 + 2 * i) w14).bind fun q15 => some q15) = some w' ∧ HX w' a b s (tkT s t i p) ∧ Ofi (fun _ x => x = a + 6 + 2 * i) (fun x => x = a + 7 + 2 * i) w w' := by
      intro L g eL eg
      obtain ⟨w1, n1, n2, n3, n4, n5⟩ := x_note (X := X) h (i := i) (p := p) (m := t 0) (g := g) (by omega) hr (by omega)
      obtain ⟨w2, q1, q2, q3⟩ := x_dropHearing (X := X) h (i := i) (by omega) (w1 := sI w1 701 (a + 6 + 2 * i) (nI L)) n2.sIx (t' := tkT s t i p) (fun x hx => tkT_lo hx) (fun j k _ hne hk => tkT_ne h.gt (by omega) hne hk) gd e0 (by rw [wI_sI, if_pos ⟨rfl, rfl⟩, eL, tkT_cs (by omega) (by omega), if_neg (by omega), if_neg (by omega), if_neg (by omega), if_neg (by omega), if_neg (by omega), if_pos ⟨rfl, rfl⟩]) (by rw [wI_sI, if_neg (by omega), n3, tkT_cs (by omega) (by omega), if_neg (by omega), if_neg (by omega), if_neg (by omega), if_neg (by omega), if_pos ⟨rfl, rfl⟩]) (fun k hk => by
        rw [tkT_cs (by omega) (by omega), if_neg (by omega), if_neg (by omega), if_neg (by omega), if_neg (by omega), if_pos ⟨rfl, rfl⟩] at hk
        rw [aI_sI, n5 k hk, tkT_cs (by omega) (by omega)]
        by_cases z1 : k = 4 * cs t i 2 + 3
        · rw [if_pos z1, if_pos (show i = i ∧ 7 + k = 7 + 4 * cs t i 2 + 3 from ⟨rfl, by omega⟩)]; exact eg
        · rw [if_neg z1, if_neg (show ¬ (i = i ∧ 7 + k = 7 + 4 * cs t i 2 + 3) by omega)]
          by_cases z2 : k = 4 * cs t i 2 + 2
          · rw [if_pos z2, if_pos (show i = i ∧ 7 + k = 7 + 4 * cs t i 2 + 2 from ⟨rfl, by omega⟩)]
          · rw [if_neg z2, if_neg (show ¬ (i = i ∧ 7 + k = 7 + 4 * cs t i 2 + 2) by omega)]
            by_cases z3 : k = 4 * cs t i 2 + 1
            · rw [if_pos z3, if_pos (show i = i ∧ 7 + k = 7 + 4 * cs t i 2 + 1 from ⟨rfl, by omega⟩)]
            · rw [if_neg z3, if_neg (show ¬ (i = i ∧ 7 + k = 7 + 4 * cs t i 2 + 1) by omega)]
              by_cases z4 : k = 4 * cs t i 2
              · rw [if_pos z4, if_pos (show i = i ∧ 7 + k = 7 + 4 * cs t i 2 from ⟨rfl, by omega⟩)]
              · rw [if_neg z4, if_neg (show ¬ (i = i ∧ 7 + k = 7 + 4 * cs t i 2) by omega), if_neg (show ¬ (i = i ∧ 7 + k = 2) by omega), if_neg (show ¬ (i = i ∧ 7 + k = 1) by omega), if_neg (show ¬ (i = i ∧ 7 + k = 0) by omega)])
      rw [n1, Option.bind_some, Option.bind_some, q1, Option.bind_some]
      exact ⟨w2, rfl, q2, q3⟩
    rw [if_le_f (by omega) (by omega) (by omega), h.su, Option.bind_some, u911 h.1 h.2.1.2.1, Option.bind_some]
    try dsimp only
    rw [ixa_n (by omega) (by omega), Option.bind_some, h.mt, Option.bind_some]
    try dsimp only
    rw [ixa_n (by omega) (by omega), Option.bind_some, h.me (by omega), Option.bind_some, ifb', h.f3 hi, h.dy, p1, h.2.2.1.2.2.2.2.2.2.1 p hp, h.2.2.1.2.2.2.2.2.2.2, nI_add]
    by_cases z : s (124 + i) = 1
    · have eb : (s (124 + i) == 1) = true := by simp [z]
      have el : (if s 164 < cs t i 1 + s (160 + p) then s 164 else cs t i 1 + s (160 + p)) = tkL s t i p := by
        unfold tkL
        by_cases z2 : s 164 < cs t i 1 + s (160 + p)
        · rw [if_pos z2, if_pos ⟨z, z2⟩]
        · rw [if_neg z2, if_neg (fun q => z2 q.2)]
      rw [eb, if_pos rfl, imin_nI (by omega) (by omega), el, sub_wr (by omega)]
      exact fin _ _ rfl rfl
    · have eb : (s (124 + i) == 1) = false := by simp [z]
      have el : cs t i 1 + s (160 + p) = tkL s t i p := by unfold tkL; rw [if_neg (fun q => z q.1)]
      rw [eb, if_neg (by decide), el, sub_wr (by omega)]
      exact fin _ _ rfl rfl

