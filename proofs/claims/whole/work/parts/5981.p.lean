/-! What is printed: signs and names. -/
def OLx (w : Wd) (l : List Nat) : Prop := wI w 1215 0 = nI l.length ∧ ∀ k, k < l.length → aI w 414 k = nI (l.getD k 0)
def OLm (w : Wd) (l : List Nat) : Prop := wI w 1338 415 = nI l.length ∧ ∀ k, k < l.length → aI w 436 k = nI (l.getD k 0)
def SOx (f x : Nat) : Prop := x = 0 ∧ f = 1215
def AOx (x : Nat) : Prop := x = 414
def SOm (f x : Nat) : Prop := x = 415 ∧ f = 1338
def AOm (x : Nat) : Prop := x = 436
theorem nar_d : ∀ c, c < 128 → vp_nar .byte (nI c) = nI c ∧ (nI c).toInt8.toInt32 = nI c := by decide +kernel
theorem getD_app {l : List Nat} {c k : Nat} (hk : k < l.length + 1) : (l ++ [c]).getD k 0 = if k = l.length then c else l.getD k 0 := by
  by_cases e : k = l.length
  · rw [if_pos e, e]
    simp [List.getD]
  · rw [if_neg e]
    have h : k < l.length := by omega
    simp [List.getD, List.getElem?_append_left h]
theorem x_print {w : Wd} {l : List Nat} {c : Nat} (hf : FX w) (h : OLx w l) (hl : l.length < 348) (hc : c < 128) : ∃ w', f_X12_print Kc 0 (nI c) w = some w' ∧ OLx w' (l ++ [c]) ∧ Ofi SOx AOx w w' := by
  unfold f_X12_print
  rw [x1214 hf, Option.bind_some]
  try dsimp only
  rw [h.1, if_le_f (by omega) (by omega) hl, ixa_n hl (by omega), Option.bind_some, Option.bind_some, Option.bind_some, (nar_d c hc).1, show wI (tI w 414 l.length (nI c)) 1215 0 = nI l.length from h.1, show nI l.length + 1 = nI (l.length + 1) from nI_add _ 1]
  refine ⟨_, rfl, ⟨by rw [wI_sI, if_pos ⟨rfl, rfl⟩, List.length_append]; rfl, fun k hk => ?_⟩, (ofi_tI (S := SOx) (A := AOx) rfl).trans (ofi_sI ⟨rfl, rfl⟩)⟩
  rw [List.length_append, show [c].length = 1 from rfl] at hk
  rw [aI_sI, aI_tI, getD_app hk]
  by_cases e : k = l.length
  · rw [if_pos ⟨rfl, e⟩, if_pos e]
  · rw [if_neg (fun q => e q.2), if_neg e]
    exact h.2 k (by omega)
theorem m_says {w : Wd} {l : List Nat} {c : Nat} (hf : FX w) (h : OLm w l) (hl : l.length < 348) (hc : c < 128) : ∃ w', f_X13_says Kc 415 (nI c) w = some w' ∧ OLm w' (l ++ [c]) ∧ Ofi SOm AOm w w' := by
  unfold f_X13_says
  rw [x1337 hf, Option.bind_some]
  try dsimp only
  rw [h.1, ixa_n (by omega) (by omega), Option.bind_some, Option.bind_some, Option.bind_some, (nar_d c hc).2, (nar_d c hc).1, show wI (tI w 436 l.length (nI c)) 1338 415 = nI l.length from h.1, show nI l.length + 1 = nI (l.length + 1) from nI_add _ 1]
  refine ⟨_, rfl, ⟨by rw [wI_sI, if_pos ⟨rfl, rfl⟩, List.length_append]; rfl, fun k hk => ?_⟩, (ofi_tI (S := SOm) (A := AOm) rfl).trans (ofi_sI ⟨rfl, rfl⟩)⟩
  rw [List.length_append, show [c].length = 1 from rfl] at hk
  rw [aI_sI, aI_tI, getD_app hk]
  by_cases e : k = l.length
  · rw [if_pos ⟨rfl, e⟩, if_pos e]
  · rw [if_neg (fun q => e q.2), if_neg e]
    exact h.2 k (by omega)
/-! the class's name -/
theorem lsh_k : ∀ k, k < 64 → (((nI k).toInt64.toUInt64 &&& Int64.toUInt64 63).toBitVec % 64).toNat = k := by decide +kernel
theorem lsr_nJ {P k : Nat} (hP : P < 2 ^ 63) (hk : k < 64) : lsr (nJ P) (nI k) = nJ (P / 2 ^ k) := by
  unfold lsr
  apply Int64.toBitVec_inj.mp
  show ((nJ P).toUInt64 >>> ((nI k).toInt64.toUInt64 &&& Int64.toUInt64 63)).toBitVec = _
  rw [UInt64.toBitVec_shiftRight]
  show (nJ P).toBitVec >>> (((nI k).toInt64.toUInt64 &&& Int64.toUInt64 63).toBitVec % 64) = _
  have h1 : P / 2 ^ k ≤ P := Nat.div_le_self _ _
  apply BitVec.eq_of_toNat_eq
  rw [BitVec.ushiftRight_eq', BitVec.toNat_ushiftRight, lsh_k k hk, nJ_bv, nJ_bv, BitVec.toNat_ofNat, BitVec.toNat_ofNat, Nat.mod_eq_of_lt (by omega), Nat.mod_eq_of_lt (by omega), Nat.shiftRight_eq_div_pow]
theorem toI8 {q : Nat} (h : q % 256 < 128) : (nI q).toInt8.toInt32 = nI (q % 256) := by
  have e : (nI q).toInt8 = (nI (q % 256)).toInt8 := by
    apply Int8.toBitVec_inj.mp
    apply BitVec.eq_of_getLsbD_eq
    intro i hi
    rw [Int32.toBitVec_toInt8, Int32.toBitVec_toInt8, BitVec.getLsbD_signExtend, BitVec.getLsbD_signExtend, if_pos (by omega), if_pos (by omega), nI_bv, nI_bv, BitVec.getLsbD_ofNat, BitVec.getLsbD_ofNat, show 256 = 2 ^ 8 from rfl, Nat.testBit_mod_two_pow, decide_eq_true hi]
    simp only [Bool.true_and]
  rw [e, (nar_d _ h).2]
theorem dig {j : Nat} : ∀ (n : Nat) (L : List Nat), L.length = n → (∀ c, c ∈ L → c ≤ 26) → pkG 256 96 L / 256 ^ j % 256 = if j < n then 96 + L.getD (n - 1 - j) 0 else 0 := by
  induction j with
  | zero =>
    intro n L hn hL
    rcases List.eq_nil_or_concat L with e | ⟨a, c, e⟩
    · subst e
      have : n = 0 := by simpa using hn.symm
      subst this
      rfl
    · rw [List.concat_eq_append] at e
      subst e
      have ha : a.length + 1 = n := by simpa using hn
      have hc := hL c (by simp)
      rw [pkG_snoc, Nat.pow_zero, Nat.div_one, if_pos (by omega), getD_app (by omega), if_pos (by omega)]
      omega
  | succ j ih =>
    intro n L hn hL
    rcases List.eq_nil_or_concat L with e | ⟨a, c, e⟩
    · subst e
      have : n = 0 := by simpa using hn.symm
      subst this
      rw [show pkG 256 96 [] = 0 from rfl, Nat.zero_div]
      rfl
    · rw [List.concat_eq_append] at e
      subst e
      have ha : a.length + 1 = n := by simpa using hn
      have hc := hL c (by simp)
      have h1 : pkG 256 96 (a ++ [c]) / 256 ^ (j + 1) = pkG 256 96 a / 256 ^ j := by
        rw [Nat.pow_succ, Nat.mul_comm (256 ^ j) 256, ← Nat.div_div_eq_div_mul, pkG_snoc, show (256 * pkG 256 96 a + (96 + c)) / 256 = pkG 256 96 a by omega]
      rw [h1, ih a.length a rfl (fun d hd => hL d (by simp [hd]))]
      by_cases e2 : j < a.length
      · rw [if_pos e2, if_pos (by omega), getD_app (by omega), if_neg (by omega), show n - 1 - (j + 1) = a.length - 1 - j by omega]
      · rw [if_neg e2, if_neg (by omega)]
def nmT (L : List Nat) : List Nat := L.map (96 + ·)
def shP (c : Nat) : Int32 := if c < 8 then nI (56 - 8 * c) else -nI 8
theorem take_succ' {L : List Nat} {d : Nat} (h : d < L.length) : L.take (d + 1) = L.take d ++ [L.getD d 0] := by
  rw [List.take_succ]
  simp [List.getD, h]
theorem x_nameL {w : Wd} {l L : List Nat} {u v : Int32} (hf : FX w) (h : OLx w l) (hL : NmOK L) (hl : l.length + L.length ≤ 348) : ∃ w', f_X12_printName_L21 Kc 0 (fun v1_21 v2_21 v3_21 v5_21 w7 => some w7) fu u v (nJ (pkX L)) 56 w = some w' ∧ OLx w' (l ++ nmT L) ∧ Ofi SOx AOx w w' := by
  have h8 := hL.2.1
  have h1 := hL.1
  refine loop_q (fun f c w1 => f_X12_printName_L21 Kc 0 (fun v1_21 v2_21 v3_21 v5_21 w7 => some w7) f u v (nJ (pkX L)) (shP c) w1) (fun c w1 => OLx w1 (l ++ nmT (L.take (c - (8 - L.length)))) ∧ Ofi SOx AOx w w1) (fun r => ∃ w', r = some w' ∧ OLx w' (l ++ nmT L) ∧ Ofi SOx AOx w w') 8 (fun f w1 hI => ?_) (fun f c w1 hc hI ih => ?_) fu 0 w ⟨by rw [show 0 - (8 - L.length) = 0 by omega, List.take_zero]; simpa [nmT] using h, Ofi.rf⟩ (by omega) (fu_lt (by omega))
  · try dsimp only
    rw [f_X12_printName_L21, if_pos (show shP 8 < 0 by decide)]
    refine ⟨w1, rfl, ?_, hI.2⟩
    have := hI.1
    rw [show 8 - (8 - L.length) = L.length by omega, List.take_length] at this
    exact this
  · try dsimp only at ih ⊢
    obtain ⟨i1, i2⟩ := hI
    have sc : shP c = nI (56 - 8 * c) := if_pos hc
    have sn : nI (56 - 8 * c) + (-8) = shP (c + 1) := by
      rcases (by omega : c = 0 ∨ c = 1 ∨ c = 2 ∨ c = 3 ∨ c = 4 ∨ c = 5 ∨ c = 6 ∨ c = 7) with rfl | rfl | rfl | rfl | rfl | rfl | rfl | rfl <;> decide
    have dg := dig (j := 7 - c) L.length L rfl (fun d hd => (hL.2.2 d hd).2)
    rw [show 256 ^ (7 - c) = 2 ^ (56 - 8 * c) by rw [show (256 : Nat) = 2 ^ 8 from rfl, ← Nat.pow_mul, show 8 * (7 - c) = 56 - 8 * c by omega]] at dg
    rw [f_X12_printName_L21, sc, if_neg (show ¬ nI (56 - 8 * c) < 0 from fun q => by have := lt0.mp q; rw [nI_toInt (by omega)] at this; omega), lsr_nJ hL.x63 (by omega), nJ_to, sn, pkX_G]
    by_cases e : 7 - c < L.length
    · rw [if_pos e] at dg
      have hm : L.getD (L.length - 1 - (7 - c)) 0 ∈ L := by
        have hlt : L.length - 1 - (7 - c) < L.length := by omega
        have g3 : L.getD (L.length - 1 - (7 - c)) 0 = L[L.length - 1 - (7 - c)] := by simp [List.getD, hlt]
        rw [g3]
        exact List.getElem_mem hlt
      have hr := hL.2.2 _ hm
      generalize hx : L.getD (L.length - 1 - (7 - c)) 0 = x at *
      rw [toI8 (by omega), dg, if_neg (show ¬ nI (96 + x) = 0 from fun q => by have := (nI_eq (a := 96 + x) (b := 0) (by omega) (by omega)).mp q; omega)]
      have tk : L.take (c + 1 - (8 - L.length)) = L.take (c - (8 - L.length)) ++ [x] := by
        rw [show c + 1 - (8 - L.length) = c - (8 - L.length) + 1 by omega, take_succ' (by omega), show c - (8 - L.length) = L.length - 1 - (7 - c) by omega, hx]
      have ll : (l ++ nmT (L.take (c - (8 - L.length)))).length < 348 := by
        unfold nmT
        rw [List.length_append, List.length_map, List.length_take]
        omega
      obtain ⟨w2, e2, o2, p2⟩ := x_print (i2.FX hf) i1 ll (c := 96 + x) (by omega)
      rw [e2, Option.bind_some, ← pkX_G]
      refine ih w2 ⟨?_, i2.trans p2⟩
      rw [tk]
      unfold nmT at o2 ⊢
      rw [List.map_append, ← List.append_assoc]
      exact o2
    · rw [if_neg e] at dg
      rw [toI8 (by omega), dg, if_pos (show nI 0 = 0 from rfl), ← pkX_G]
      refine ih w1 ⟨?_, i2⟩
      rw [show c + 1 - (8 - L.length) = c - (8 - L.length) by omega]
      exact i1
/-! the reference's name -/
theorem m_saysName {l : List Nat} : ∀ (m : Nat) (L : List Nat) (w : Wd) (f : Nat), L.length = m + 1 → m < f → NmOK L → FX w → OLm w l → l.length + L.length ≤ 348 → ∃ w', f_X13_saysName Kc 415 f (nJ (pkM L)) w = some w' ∧ OLm w' (l ++ nmT L) ∧ Ofi SOm AOm w w'
  | m, L, w, f, hm, hfu, hL, hf, h, hl => by
    obtain ⟨f, rfl⟩ : ∃ g, f = g + 1 := ⟨f - 1, by omega⟩
    rcases List.eq_nil_or_concat L with e | ⟨a, c, e⟩
    · subst e; simp at hm
    · rw [List.concat_eq_append] at e
      have ha : a.length = m := by
        have := hm
        rw [e] at this
        simpa using this
      have hc : 1 ≤ c ∧ c ≤ 26 := hL.2.2 c (by rw [e]; simp)
      have m63 := hL.m63
      have hp : pkM L = 27 * pkM a + c := by rw [e, pkM_G, pkM_G, pkG_snoc, Nat.zero_add]
      have h27 : (nJ (pkM L) - nJ (pkM L) / 27 * 27).toInt32 = nI c := by
        rw [show (27 : Int64) = nJ 27 from rfl, nJ_div (by omega) (by omega) (by omega), nJ_mul, nJ_sub (by omega), nJ_to, show pkM L - pkM L / 27 * 27 = c by omega]
      have hnm : nmT L = nmT a ++ [96 + c] := by
        rw [e]
        unfold nmT
        rw [List.map_append]
        rfl
      rw [f_X13_saysName, h27, show (96 : Int32) = nI 96 from rfl, nI_add]
      cases m with
      | zero =>
        have a0 : a = [] := List.eq_nil_of_length_eq_zero ha
        have p0 : pkM L = c := by rw [hp, a0]; show 27 * 0 + c = c; omega
        rw [if_pos (lgc_lt.mpr (by rw [p0, nJ_toInt (by omega), show (27 : Int64).toInt = 27 from rfl]; omega))]
        obtain ⟨w2, e2, o2, p2⟩ := m_says hf h (by omega) (c := 96 + c) (by omega)
        rw [e2, Option.bind_some]
        refine ⟨w2, rfl, ?_, p2⟩
        rw [hnm, a0]
        exact o2
      | succ m =>
        have aok : NmOK a := ⟨by omega, by have := hL.2.1; omega, fun d hd => hL.2.2 d (by rw [e]; simp [hd])⟩
        have pa : 1 ≤ pkM a := by
          rcases List.eq_nil_or_concat a with e5 | ⟨a2, c2, e5⟩
          · rw [e5] at ha; simp at ha
          · rw [List.concat_eq_append] at e5
            have := (aok.2.2 c2 (by rw [e5]; simp)).1
            rw [e5, pkM_G, pkG_snoc]
            omega
        rw [if_neg (fun q => by
          have := lgc_lt.mp q
          rw [nJ_toInt (by omega), show (27 : Int64).toInt = 27 from rfl] at this
          omega)]
        have hd : nJ (pkM L) / 27 = nJ (pkM a) := by
          rw [show (27 : Int64) = nJ 27 from rfl, nJ_div (by omega) (by omega) (by omega), show pkM L / 27 = pkM a by omega]
        obtain ⟨w2, e2, o2, p2⟩ := m_saysName m a w f ha (by omega) aok hf h (by omega)
        obtain ⟨w3, e3, o3, p3⟩ := m_says (p2.FX hf) o2 (by
          unfold nmT
          rw [List.length_append, List.length_map]
          omega) (c := 96 + c) (by omega)
        rw [hd, e2, Option.bind_some, e3, Option.bind_some]
        refine ⟨w3, rfl, ?_, p2.trans p3⟩
        rw [hnm, ← List.append_assoc]
        exact o3
