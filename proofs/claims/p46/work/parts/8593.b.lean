variable {X : Kd}
def byB (x : Int32) : Int32 := vp_nar .byte (x.toInt8.toInt32)
theorem byB_rg (x : Int32) : -128 ≤ (byB x).toInt ∧ (byB x).toInt ≤ 127 := by
  have h : byB x = x.toInt8.toInt32.toInt8.toInt32 := rfl
  rw [h, Int8.toInt_toInt32]
  have h1 := Int8.le_toInt x.toInt8.toInt32.toInt8
  have h2 := Int8.toInt_lt x.toInt8.toInt32.toInt8
  omega
def shM (v : Int32) (k : Nat) : Int32 := v >>> (nI k &&& nI 31)
theorem sh_same {v : Int32} : ∀ {k : Nat}, k = 0 ∨ k = 8 ∨ k = 16 ∨ k = 24 → (ushr v (nI k)).toInt8 = (v >>> (nI k &&& nI 31)).toInt8 := by
  intro k hk
  apply Int8.toBitVec_inj.mp
  apply BitVec.eq_of_getLsbD_eq
  intro i hi
  rw [Int32.toBitVec_toInt8, Int32.toBitVec_toInt8, BitVec.getLsbD_signExtend, BitVec.getLsbD_signExtend, if_pos (by omega), if_pos (by omega)]
  have h1 : (ushr v (nI k)).toBitVec = v.toBitVec >>> k := by
    unfold ushr
    show (v.toUInt32 >>> ((nI k).toUInt32 &&& Int32.toUInt32 31)).toBitVec = _
    rw [UInt32.toBitVec_shiftRight]
    show v.toBitVec >>> (((nI k).toUInt32 &&& Int32.toUInt32 31).toBitVec % 32) = _
    rw [BitVec.ushiftRight_eq', ush_k k (by omega)]
  have h2 : (v >>> (nI k &&& nI 31)).toBitVec = v.toBitVec.sshiftRight k := by
    rw [Int32.toBitVec_shiftRight]
    show v.toBitVec.sshiftRight' ((nI k &&& 31).toBitVec.smod 32) = _
    rw [BitVec.sshiftRight', sh_k k (by omega)]
  rw [h1, h2, BitVec.getLsbD_ushiftRight, BitVec.getLsbD_sshiftRight]
  have e1 : ¬ 32 ≤ i := by omega
  have e2 : k + i < 32 := by omega
  simp [e2, show i < 32 by omega, hi]
def shA (c : Nat) : Int32 := if c < 4 then nI (24 - 8 * c) else -nI 8
def SBu (f x : Nat) : Prop := x = 0 ∧ f = 1201
theorem x1200' {w : Wd} (h : FX w) : cha (Kx X) 21 (wR w 1200 0) = some (35, 900) := ca (h.1 (1200, 0, 35) (by first | decide +kernel | exact kx (by decide +kernel))) (by first | decide +kernel | exact kx (by decide +kernel))
theorem x_append {w : Wd} {n : Nat} {v : Int32} (h : FX w) (h1 : wI w 1201 0 = nI n) (hn : n + 4 ≤ 900) : ∃ w', f_X12_append (Kx X) 0 v w = some w' ∧ Ofi SBu (fun x => x = 35) w w' ∧ wI w' 1201 0 = nI (n + 4) ∧ ∀ j, aI w' 35 j = if n ≤ j ∧ j < n + 4 then byB (shM v (24 - 8 * (j - n))) else aI w 35 j := by
  unfold f_X12_append
  refine loop_q (fun f c w1 => f_X12_append_L3 (Kx X) 0 (fun v1_3 v2_3 w1 => some w1) f v (shA c) w1) (fun c w1 => Ofi SBu (fun x => x = 35) w w1 ∧ wI w1 1201 0 = nI (n + c) ∧ ∀ j, aI w1 35 j = if n ≤ j ∧ j < n + c then byB (shM v (24 - 8 * (j - n))) else aI w 35 j) (fun r => ∃ w', r = some w' ∧ Ofi SBu (fun x => x = 35) w w' ∧ wI w' 1201 0 = nI (n + 4) ∧ ∀ j, aI w' 35 j = if n ≤ j ∧ j < n + 4 then byB (shM v (24 - 8 * (j - n))) else aI w 35 j) 4 (fun f w1 hI => ?_) (fun f c w1 hc hI ih => ?_) fu 0 w ⟨Ofi.rf, h1, fun j => by rw [if_neg (by omega)]⟩ (by omega) (fu_lt (by omega))
  · try dsimp only
    rw [f_X12_append_L3, if_pos (show shA 4 < 0 by decide)]
    exact ⟨w1, rfl, hI⟩
  · try dsimp only at ih ⊢
    obtain ⟨i1, i2, i3⟩ := hI
    have f1 := i1.FX h
    have sc : shA c = nI (24 - 8 * c) := if_pos hc
    have sn : nI (24 - 8 * c) + (-8) = shA (c + 1) := by
      rcases (by omega : c = 0 ∨ c = 1 ∨ c = 2 ∨ c = 3) with rfl | rfl | rfl | rfl <;> decide
    have bb : vp_nar .byte ((ushr v (nI (24 - 8 * c))).toInt8.toInt32) = byB (shM v (24 - 8 * c)) := by
      unfold byB shM
      rw [sh_same (by omega)]
    rw [f_X12_append_L3, sc, if_neg (show ¬ nI (24 - 8 * c) < 0 from fun q => by have := lt0.mp q; rw [nI_toInt (by omega)] at this; omega), x1200' f1, Option.bind_some]
    try dsimp only
    rw [i2, if_le_f (by omega) (by omega) (by omega), ixa_n (by omega) (by omega), Option.bind_some, Option.bind_some, Option.bind_some, sn, bb, show wI (tI w1 35 (n + c) (byB (shM v (24 - 8 * c)))) 1201 0 = nI (n + c) from i2, show nI (n + c) + 1 = nI (n + (c + 1)) from nI_add (n + c) 1]
    refine ih _ ⟨(i1.trans (ofi_tI rfl)).trans (ofi_sI ⟨rfl, rfl⟩), by rw [wI_sI, if_pos ⟨rfl, rfl⟩], fun j => ?_⟩
    rw [aI_sI, aI_tI]
    by_cases e : j = n + c
    · rw [if_pos ⟨rfl, e⟩, if_pos (by omega), e, show n + c - n = c by omega]
    · rw [if_neg (fun q => e q.2), i3 j]
      by_cases e2 : n ≤ j ∧ j < n + c
      · rw [if_pos e2, if_pos (by omega)]
      · rw [if_neg e2, if_neg (by omega)]
/-- one of five -/
def pk5 (a b c d e : Int32) (k : Nat) : Int32 := if k < 4 then a else if k < 8 then b else if k < 12 then c else if k < 16 then d else e
def fdB (a b c d e : Int32) (k : Nat) : Int32 := byB (shM (pk5 a b c d e k) (24 - 8 * (k % 4)))
theorem x_feed {w : Wd} {n : Nat} {a b c d e : Int32} (h : FX w) (h1 : wI w 1201 0 = nI n) (hn : n + 20 ≤ 900) : ∃ w', f_X12_feed (Kx X) 0 a b c d e w = some (nI (n + 20), w') ∧ Ofi SBu (fun x => x = 35) w w' ∧ wI w' 1201 0 = nI (n + 20) ∧ ∀ j, aI w' 35 j = if n ≤ j ∧ j < n + 20 then fdB a b c d e (j - n) else aI w 35 j := by
  obtain ⟨w1, e1, o1, n1, q1⟩ := x_append (X := X) (v := a) h h1 (by omega)
  obtain ⟨w2, e2, o2, n2, q2⟩ := x_append (X := X) (v := b) (o1.FX h) n1 (by omega)
  obtain ⟨w3, e3, o3, n3, q3⟩ := x_append (X := X) (v := c) (o2.FX (o1.FX h)) n2 (by omega)
  obtain ⟨w4, e4, o4, n4, q4⟩ := x_append (X := X) (v := d) (o3.FX (o2.FX (o1.FX h))) n3 (by omega)
  obtain ⟨w5, e5, o5, n5, q5⟩ := x_append (X := X) (v := e) (o4.FX (o3.FX (o2.FX (o1.FX h)))) n4 (by omega)
  refine ⟨w5, ?_, (((o1.trans o2).trans o3).trans o4).trans o5, n5, fun j => ?_⟩
  · unfold f_X12_feed
    rw [h1, show (20 : Int32) = nI 20 from rfl, show (900 : Int32) = nI 900 from rfl, nI_add, if_le_t (by omega) (by omega) hn, e1, Option.bind_some, e2, Option.bind_some, e3, Option.bind_some, e4, Option.bind_some, e5, Option.bind_some, n5]
  · rw [q5 j, q4 j, q3 j, q2 j, q1 j]
    unfold fdB pk5
    by_cases j0 : n ≤ j ∧ j < n + 20
    · rw [if_pos j0]
      by_cases k4 : j - n < 4
      · rw [if_neg (by omega), if_neg (by omega), if_neg (by omega), if_neg (by omega), if_pos (by omega), if_pos k4, show (j - n) % 4 = j - n by omega]
      · rw [if_neg k4]
        by_cases k8 : j - n < 8
        · rw [if_neg (by omega), if_neg (by omega), if_neg (by omega), if_pos (by omega), if_pos k8, show (j - n) % 4 = j - (n + 4) by omega]
        · rw [if_neg k8]
          by_cases k12 : j - n < 12
          · rw [if_neg (by omega), if_neg (by omega), if_pos (by omega), if_pos k12, show (j - n) % 4 = j - (n + 4 + 4) by omega]
          · rw [if_neg k12]
            by_cases k16 : j - n < 16
            · rw [if_neg (by omega), if_pos (by omega), if_pos k16, show (j - n) % 4 = j - (n + 4 + 4 + 4) by omega]
            · rw [if_pos (by omega), if_neg k16, show (j - n) % 4 = j - (n + 4 + 4 + 4 + 4) by omega]
    · rw [if_neg j0, if_neg (by omega), if_neg (by omega), if_neg (by omega), if_neg (by omega), if_neg (by omega)]
