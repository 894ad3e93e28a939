variable {X : Kd}
theorem nI_of32 (v : Int32) : ∃ u, u < 2 ^ 32 ∧ v = nI u := ⟨v.toBitVec.toNat, v.toBitVec.isLt, by
  apply Int32.toBitVec_inj.mp
  rw [nI_bv, BitVec.ofNat_toNat, BitVec.setWidth_eq]⟩
theorem bit_q {u j : Nat} (hu : u < 2 ^ 32) (hj : j < 32) : ushr (nI u) (nI j) &&& nI 1 = nI (bn (u.testBit j)) := by
  have h1 : u / 2 ^ j < 2 ^ 32 := Nat.lt_of_le_of_lt (Nat.div_le_self _ _) hu
  rw [ushr_nI hu hj, and1_nI h1, Nat.testBit_eq_decide_div_mod_eq]
  have h2 : u / 2 ^ j % 2 < 2 := Nat.mod_lt _ (by omega)
  by_cases e : u / 2 ^ j % 2 = 1
  · rw [e, decide_eq_true rfl]; rfl
  · rw [show u / 2 ^ j % 2 = 0 by omega, decide_eq_false (by omega)]; rfl
theorem bit_or {v : Int32} {k j : Nat} (hk : k < 32) (hj : j < 32) : ushr (v ||| nI (2 ^ k)) (nI j) &&& nI 1 = if j = k then nI 1 else ushr v (nI j) &&& nI 1 := by
  obtain ⟨u, hu, rfl⟩ := nI_of32 v
  have hp : 2 ^ k < 2 ^ 32 := Nat.pow_lt_pow_right (by omega) hk
  rw [or_nI hu hp, bit_q (Nat.or_lt_two_pow hu hp) hj, bit_q hu hj, Nat.testBit_or, Nat.testBit_two_pow]
  by_cases e : j = k
  · subst e
    rw [if_pos rfl, decide_eq_true rfl, Bool.or_true]; rfl
  · rw [if_neg e, decide_eq_false (fun q => e q.symm), Bool.or_false]
def hoT (t : Nat → Nat) (d : Nat) : Nat → Nat := ups (ups t (2 + t 1) d) 1 (t 1 + 1)
theorem hoT_1 {t : Nat → Nat} {d : Nat} : hoT t d 1 = t 1 + 1 := ups_eq
theorem hoT_2 {t : Nat → Nat} {d : Nat} : hoT t d (2 + t 1) = d := by
  unfold hoT
  rw [ups_ne (by omega), ups_eq]
theorem hoT_ne {t : Nat → Nat} {d x : Nat} (h1 : x ≠ 1) (h2 : x ≠ 2 + t 1) : hoT t d x = t x := by
  unfold hoT
  rw [ups_ne h1, ups_ne h2]
theorem hoT_cs {t : Nat → Nat} {d i k : Nat} (h : t 1 ≤ 20) : cs (hoT t d) i k = cs t i k := hoT_ne (by omega) (by omega)
theorem hoT_hol {t : Nat → Nat} {d e : Nat} : isHol (hoT t d) e = (isHol t e || d == e) := by
  unfold isHol
  rw [hoT_1, anyF_snoc, Nat.zero_add, hoT_2]
  refine congrArg (fun z => z || d == e) ?_
  refine Bool.eq_iff_iff.mpr ?_
  rw [anyF_iff, anyF_iff]
  constructor
  · rintro ⟨k, k1, k2, k3⟩
    refine ⟨k, k1, k2, ?_⟩
    rw [hoT_ne (by omega) (by omega)] at k3
    exact k3
  · rintro ⟨k, k1, k2, k3⟩
    refine ⟨k, k1, k2, ?_⟩
    rw [hoT_ne (by omega) (by omega)]
    exact k3
theorem hoT_good {s t : Nat → Nat} (hT : GoodT s t) {d : Nat} (hd : d < 600) (h1 : t 1 < 20) (hh : isHol t d = false) : GoodT s (hoT t d) := by
  have nh : ∀ k, k < t 1 → t (2 + k) ≠ d := fun k hk e => by
    have : isHol t d = true := (anyF_iff _ _).mpr ⟨k, by omega, by omega, by simp [e]⟩
    rw [hh] at this
    cases this
  obtain ⟨g1, g2, g3, g4, g5, g6, g7⟩ := hT
  refine ⟨by rw [hoT_ne (by omega) (by omega)]; exact g1, by rw [hoT_1]; omega, fun k hk => ?_, fun j k hj hk e => ?_, fun i hi => by rw [hoT_ne (by omega) (by omega)]; exact g5 i hi, fun i hi => by rw [hoT_ne (by omega) (by omega)]; exact g6 i hi, fun i hi => ?_⟩
  · rw [hoT_1] at hk
    by_cases e : k = t 1
    · rw [e, hoT_2]; exact hd
    · rw [hoT_ne (by omega) (by omega)]; exact g3 k (by omega)
  · rw [hoT_1] at hj hk
    by_cases ej : j = t 1
    · by_cases ek : k = t 1
      · omega
      · rw [ej, hoT_2, hoT_ne (by omega) (by omega)] at e
        exact absurd e.symm (nh k (by omega))
    · by_cases ek : k = t 1
      · rw [ek, hoT_2, hoT_ne (by omega) (by omega)] at e
        exact absurd e (nh j (by omega))
      · rw [hoT_ne (by omega) (by omega), hoT_ne (by omega) (by omega)] at e
        exact g4 j k (by omega) (by omega) e
  · have hr : hrg (hoT t d) i = hrg t i := by unfold hrg; rw [hoT_cs g2]
    rw [hr, hoT_cs g2, hoT_cs g2, hoT_cs g2, hoT_cs g2, hoT_cs g2, hoT_cs g2, hoT_cs g2]
    exact g7 i hi
theorem hoT_ok {s t : Nat → Nat} (hT : GoodT s t) (h : POK s t) {d : Nat} : POK s (hoT t d) := h.csq (hoT_ne (by omega) (by omega)) (fun i k hi hk => hoT_cs hT.2.1)
theorem x_add {w : Wd} {b : Nat} {s t : Nat → Nat} (h : HX w 73 b s t) {d : Nat} (hd : d < 600) (h1 : t 1 < 20) (hh : isHol t d = false) : ∃ w', f_X2_add (Kx X) 74 (nI d) w = some w' ∧ HX w' 73 b s (hoT t d) ∧ Fr MX MA w w' := by
  have hT := h.gt
  have g2 := hT.2.1
  have ub := SU_rg h.2.1.2.1
  have e32 : ∀ x, x < 600 → x / 32 < 19 := fun x hx => by omega
  have f1 : FX (sI (tI w 75 (d / 32) (aI w 75 (d / 32) ||| nI (2 ^ (d % 32)))) 201 74 (nI (t 1 + 1))) := h.1.tI.sI
  have r1 : Fr (fun f x => x = 74 ∧ f = 201) (fun x => x = 75) w (sI (tI w 75 (d / 32) (aI w 75 (d / 32) ||| nI (2 ^ (d % 32)))) 201 74 (nI (t 1 + 1))) := (ofi_tI (S := NS) (A := fun x => x = 75) rfl).fr.mono (fun _ _ q => q.elim) (fun _ q => q) |>.trans (fr_sI ⟨rfl, rfl⟩)
  refine ⟨_, ?_, ?_, r1.mono (fun f x q => by unfold MX RG; omega) (fun x q => by unfold MA RG; omega)⟩
  · unfold f_X2_add
    rw [if_neg (fun q => by have := lt0.mp q; rw [nI_toInt (by omega)] at this; omega), show (600 : Int32) = nI 600 from rfl, if_le_f (by omega) (by omega) hd, show f_X2_contains (Kx X) 74 (nI d) w = some (isHol t d, w) from x_contains h (by omega), Option.bind_some, hh]
    try dsimp only
    rw [ib_f, show cha (Kx X) 20 (wR w 200 74) = some (75, 19) from t200 h.1 (by decide), Option.bind_some, show (32 : Int32) = nI 32 from rfl, rem_nI (by omega) (by omega) (by omega), div_nI (by omega) (by omega) (by omega)]
    try dsimp only
    rw [ixa_n (e32 d hd) (by omega), Option.bind_some, Option.bind_some, Option.bind_some, Option.bind_some, show (31 : Int32) = nI 31 from rfl, show (1 : Int32) = nI 1 from rfl, shl_nI (by omega) (by rw [Nat.one_mul]; exact Nat.pow_lt_pow_right (by omega) (by omega)), Nat.one_mul, show wI (tI w 75 (d / 32) (aI w 75 (d / 32) ||| nI (2 ^ (d % 32)))) 201 74 = nI (t 1) from h.2.2.2.1.1.2, nI_add]
  · obtain ⟨v1, v2, v3, v4, v5⟩ := h.2.2.2.1
    have wi : ∀ f x, x ≠ 74 → wI (sI (tI w 75 (d / 32) (aI w 75 (d / 32) ||| nI (2 ^ (d % 32)))) 201 74 (nI (t 1 + 1))) f x = wI w f x := fun f x hx => (r1.1 f x (fun q => hx q.1)).1
    have ai : ∀ x, x ≠ 75 → aI (sI (tI w 75 (d / 32) (aI w 75 (d / 32) ||| nI (2 ^ (d % 32)))) 201 74 (nI (t 1 + 1))) x = aI w x := fun x hx => (r1.2 x hx).1
    have hs := h.gs.1
    refine ⟨f1, h.2.1, ?_, ?_, h.gs, hoT_good hT hd h1 hh⟩
    · obtain ⟨u1, u2, u3, u4, u5, u6, u7, u8⟩ := h.2.2.1
      refine ⟨fun k hk => ?_, fun r hr => ?_, fun o ho => ?_, fun o ho k hk => ?_, fun i hi => ?_, fun i hi => ?_, fun k hk => ?_, ?_⟩
      · rw [wi _ _ (by omega)]; exact u1 k hk
      · rw [ai _ (by omega)]; exact u2 r hr
      · rw [ai _ (by omega)]; exact u3 o ho
      · rw [ai (b + 4) (by omega), ai (b + 5) (by omega)]; exact u4 o ho k hk
      · rw [ai (b + 6) (by omega), ai (b + 8) (by omega), ai (b + 9) (by omega)]; exact u5 i hi
      · rw [wi 300 _ (by omega), wi 301 _ (by omega), wi 302 _ (by omega), wi 304 _ (by omega), wi 305 _ (by omega)]; exact u6 i hi
      · rw [ai _ (by omega)]; exact u7 k hk
      · rw [wi _ _ (by omega)]; exact u8
    · refine ⟨⟨by rw [wi _ _ (by omega), hoT_ne (by omega) (by omega)]; exact v1.1, by rw [hoT_1, wI_sI, if_pos ⟨rfl, rfl⟩]⟩, fun e he => ?_, fun i hi => by rw [ai _ (by omega), hoT_ne (by omega) (by omega)]; exact v3 i hi, fun i hi => by rw [ai _ (by omega), hoT_ne (by omega) (by omega)]; exact v4 i hi, fun i hi => ?_⟩
      · rw [hoT_hol, aI_sI, aI_tI]
        by_cases e1 : e / 32 = d / 32
        · rw [if_pos ⟨rfl, e1⟩, bit_or (by omega) (by omega), ← e1]
          by_cases e2 : e % 32 = d % 32
          · have e3 : d = e := by omega
            rw [if_pos e2, e3, beq_self_eq_true, Bool.or_true]; rfl
          · have e3 : d ≠ e := fun q => e2 (by rw [q])
            rw [if_neg e2, beq_false_of_ne e3, Bool.or_false]
            exact v2 e he
        · have e3 : d ≠ e := fun q => e1 (by rw [q])
          rw [if_neg (fun q => e1 q.2), beq_false_of_ne e3, Bool.or_false]
          exact v2 e he
      · have hr : hrg (hoT t d) i = hrg t i := by unfold hrg; rw [hoT_cs g2]
        simp only [hr, hoT_cs g2]
        rw [wi 700 _ (by omega), wi 701 _ (by omega), wi 702 _ (by omega), wi 703 _ (by omega), wi 704 _ (by omega), wi 705 _ (by omega), wi 706 _ (by omega), ai _ (by omega)]
        exact v5 i hi
def E2132 (e : Nat) (c : Int32) : Prop := (e = 2 ∧ c = 1) ∨ (e = 3 ∧ c = 2)
theorem wkg_hol {t : Nat → Nat} {d : Nat} (h : wkg t d = true) : isHol t d = false := by
  unfold wkg at h
  cases e : isHol t d with
  | false => rfl
  | true => rw [e] at h; simp at h
