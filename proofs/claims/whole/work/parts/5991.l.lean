/-! The law: its start, its loop. -/
theorem stq {P : Kd × Nat × Nat × Wd → Bool} {q : Kd × Nat × Nat × Wd} (h : st0.map P = some true) (e : st0 = some q) : P q = true := by
  rw [e] at h
  exact Option.some.inj h
theorem an1 {a b : Bool} (h : (a && b) = true) : a = true ∧ b = true := by
  cases a with
  | true => exact ⟨rfl, h⟩
  | false => cases h
theorem dt {p : Prop} {d : Decidable p} (h : @decide p d = true) : p := of_decide_eq_true h
theorem Kc_out {a : Nat} (h : 439 ≤ a) : Kc a = none := List.getElem?_eq_none (by rw [show ktab.length = 439 by decide +kernel]; exact h)
theorem K_st0 {q : Kd × Nat × Nat × Wd} (e : st0 = some q) (hn : q.2.2.1 = 437) : q.1 = Kc := funext fun a => by
  by_cases h : a < 439
  · exact dt (aln_i 439 (stq st0_K e) a h)
  · rw [Kc_out (by omega)]
    exact kn_st0 e a (by omega)
theorem FX_st0 {q : Kd × Nat × Nat × Wd} (e : st0 = some q) : FX q.2.2.2 := by
  obtain ⟨h1, h2⟩ := an1 (stq st0_F e)
  exact ⟨fun p hp => dt (List.all_eq_true.mp h1 p hp), fun p hp => dt (List.all_eq_true.mp h2 p hp)⟩
theorem cs00 {i k : Nat} (hi : i < 12) (hk : k < 27) : cs t00 i k = 0 := t00_0 (by omega)
theorem hrg00 {i : Nat} (hi : i < 12) : hrg t00 i = false := by
  unfold hrg
  rw [cs00 hi (by omega)]
  rfl
theorem hol00 {d : Nat} : isHol t00 d = false := rfl
theorem POK00 : POK s00 t00 := ⟨fun i hi q => by rw [cs00 hi (by omega)] at q; exact absurd q (by decide), fun i j hi hj ij h1 => by rw [hrg00 hi] at h1; exact absurd h1 (by decide)⟩
theorem HX_st0 {q : Kd × Nat × Nat × Wd} (e : st0 = some q) : HX q.2.2.2 73 1 s00 t00 := by
  have F := FX_st0 e
  have h := stq st0_X e
  obtain ⟨x1, h⟩ := an1 h
  obtain ⟨x2, h⟩ := an1 h
  obtain ⟨x3, h⟩ := an1 h
  obtain ⟨x4, h⟩ := an1 h
  obtain ⟨x5, h⟩ := an1 h
  obtain ⟨x6, h⟩ := an1 h
  obtain ⟨x7, h⟩ := an1 h
  obtain ⟨x8, h⟩ := an1 h
  have z0 : s00 0 = 0 := rfl
  have z1 : s00 1 = 0 := rfl
  have z2 : s00 2 = 0 := rfl
  have z3 : s00 3 = 0 := rfl
  have G := GD_00 (nm := fun _ _ => [])
  refine ⟨F, ⟨by decide, by decide, dt x8⟩, ⟨fun k hk => ?_, fun r hr => by omega, fun o ho => by omega, fun o ho => by omega, fun i hi => by omega, fun i hi => by omega, fun k hk => ?_, ?_⟩, ⟨⟨?_, ?_⟩, fun d hd => ?_, fun i hi => by omega, fun i hi => ?_, fun i hi => ?_⟩, G.1, G.2.1⟩
  · rw [show 1 + 14 + 2 * k = 15 + 2 * k by omega, s00_0 (by omega) (by omega) (by omega)]
    exact dt (aln_i 4 x1 k hk)
  · exact dt (aln_i 4 x2 k hk)
  · exact dt x3
  · exact dt x4
  · exact dt x5
  · rw [hol00, show aI q.2.2.2 (73 + 2) (d / 32) = nI 0 from dt (aln_i 19 x6 (d / 32) (by omega))]
    exact ush_0 (d % 32) (Nat.mod_lt _ (by omega))
  · rw [t00_0 (by omega)]
    exact dt (aln_i 12 x7 i hi)
  · have hc := aln_i 12 h i hi
    obtain ⟨c1, hc⟩ := an1 hc
    obtain ⟨c2, hc⟩ := an1 hc
    obtain ⟨c3, hc⟩ := an1 hc
    obtain ⟨c4, hc⟩ := an1 hc
    obtain ⟨c5, hc⟩ := an1 hc
    obtain ⟨c6, c7⟩ := an1 hc
    rw [cs00 hi (by omega), cs00 hi (by omega), cs00 hi (by omega), hrg00 hi, show 73 + 6 + 2 * i = 79 + 2 * i by omega]
    exact ⟨dt c1, dt c2, dt c3, fun z => absurd z (by decide), fun _ => ⟨dt c4, dt c5, dt c6, dt c7⟩, fun k hk => by omega⟩
theorem HM_st0 {q : Kd × Nat × Nat × Wd} (e : st0 = some q) : HM q.2.2.2 s00 t00 := by
  have G := GD_00 (nm := fun _ _ => [])
  refine ⟨FX_st0 e, fun k hk => dt (aln_i 170 (stq st0_S e) k hk), fun k hk => ?_, G.1, G.2.1⟩
  rw [show aI q.2.2.2 418 k = nI 0 from dt (aln_i 370 (stq st0_T e) k hk)]
  unfold t00
  split <;> rfl
theorem Inv_st0 {q : Kd × Nat × Nat × Wd} (e : st0 = some q) : Inv q.2.2.2 := by
  have h := stq st0_O e
  obtain ⟨o1, h⟩ := an1 h
  obtain ⟨o2, h⟩ := an1 h
  obtain ⟨o3, h⟩ := an1 h
  obtain ⟨o4, h⟩ := an1 h
  obtain ⟨o5, h⟩ := an1 h
  obtain ⟨o6, h⟩ := an1 h
  obtain ⟨o7, h⟩ := an1 h
  obtain ⟨o8, h⟩ := an1 h
  obtain ⟨o9, h⟩ := an1 h
  obtain ⟨o10, h⟩ := an1 h
  obtain ⟨o11, h⟩ := an1 h
  obtain ⟨o12, o13⟩ := an1 h
  have hz : ∀ k, k < 4 → s00 k = 0 := fun k hk => s00_0 (by omega) (by omega) (by omega)
  refine ⟨1, s00, t00, ⟨HX_st0 e, HM_st0 e, POK00, dt o1⟩, ⟨0, fun _ => t00, ⟨dt o2, by omega, paN, ⟨fun i hi => ⟨dt (aln_i 8 o3 i hi), (by decide : ∀ i, i < 8 → paN i ∈ SP) i hi⟩, fun i j hi hj => (by decide : ∀ i, i < 8 → ∀ j, j < 8 → paN i = paN j → i = j) i hi j hj⟩, fun i hi => by omega⟩, dt o4, by omega, fun i hi => by omega⟩, ⟨false, t00, ⟨dt o5, fun z => absurd z (by decide)⟩, dt o6, fun z => absurd z (by decide)⟩, ⟨39, by decide, by decide, dt o7⟩, ⟨0, fun _ => 0, ⟨by omega, fun k hk => by omega⟩, ⟨dt o8, fun k hk => by omega⟩, dt o9, fun k hk => by omega⟩, ⟨0, fun _ => 0, by omega, ⟨dt o10, fun k hk => by omega⟩, dt o11, fun k hk => by omega⟩, ⟨dt o12, dt o13⟩, fun _ _ => [], fun k i hk hi => by rw [hz k hk] at hi; omega, fun k i hk hi => by rw [hz k hk] at hi; omega, fun k i hk hi => by rw [hz k hk] at hi; omega⟩
theorem law_one {w : Wd} (h : Inv w) {L i : Nat} {xs : Nat → Int32} (hi : 6 * i + 5 < L) (hL : L ≤ 3072) : ∃ w', f_law_step Kc L xs (some 0) (some 415) (some 437) (some 438) (nI (6 * i)) w = some w' ∧ Inv w' := by
  unfold f_law_step
  rw [ixa_n (show 6 * i < L by omega) (by omega), Option.bind_some]
  generalize xs (6 * i) &&& 63 = v
  by_cases z : v < 0 ∨ 42 < v
  · rw [if_pos z]
    exact ⟨w, rfl, h⟩
  rw [if_neg z]
  by_cases e0 : v = 0
  · rw [if_pos e0]
    exact case_0 h hi hL
  rw [if_neg e0]
  by_cases e1 : v = 1
  · rw [if_pos e1]
    exact case_1 h hi hL
  rw [if_neg e1]
  by_cases e2 : v = 2
  · rw [if_pos e2]
    exact case_2 h hi hL
  rw [if_neg e2]
  by_cases e3 : v = 3
  · rw [if_pos e3]
    exact case_3 h hi hL
  rw [if_neg e3]
  by_cases e4 : v = 4
  · rw [if_pos e4]
    exact case_4 h hi hL
  rw [if_neg e4]
  by_cases e5 : v = 5
  · rw [if_pos e5]
    exact case_5 h hi hL
  rw [if_neg e5]
  by_cases e6 : v = 6
  · rw [if_pos e6]
    exact case_6 h hi hL
  rw [if_neg e6]
  by_cases e7 : v = 7
  · rw [if_pos e7]
    exact case_7 h hi hL
  rw [if_neg e7]
  by_cases e8 : v = 8
  · rw [if_pos e8]
    exact case_8 h hi hL
  rw [if_neg e8]
  by_cases e9 : v = 9
  · rw [if_pos e9]
    exact case_9 h hi hL
  rw [if_neg e9]
  by_cases e10 : v = 10
  · rw [if_pos e10]
    exact case_10 h hi hL
  rw [if_neg e10]
  by_cases e11 : v = 11
  · rw [if_pos e11]
    exact case_11 h hi hL
  rw [if_neg e11]
  by_cases e12 : v = 12
  · rw [if_pos e12]
    exact case_12 h hi hL
  rw [if_neg e12]
  by_cases e13 : v = 13
  · rw [if_pos e13]
    exact case_13 h hi hL
  rw [if_neg e13]
  by_cases e14 : v = 14
  · rw [if_pos e14]
    exact case_14 h hi hL
  rw [if_neg e14]
  by_cases e15 : v = 15
  · rw [if_pos e15]
    exact case_15 h hi hL
  rw [if_neg e15]
  by_cases e16 : v = 16
  · rw [if_pos e16]
    exact case_16 h hi hL
  rw [if_neg e16]
  by_cases e17 : v = 17
  · rw [if_pos e17]
    exact case_17 h hi hL
  rw [if_neg e17]
  by_cases e18 : v = 18
  · rw [if_pos e18]
    exact case_18 h hi hL
  rw [if_neg e18]
  by_cases e19 : v = 19
  · rw [if_pos e19]
    exact case_19 h hi hL
  rw [if_neg e19]
  by_cases e20 : v = 20
  · rw [if_pos e20]
    exact case_20 h hi hL
  rw [if_neg e20]
  by_cases e21 : v = 21
  · rw [if_pos e21]
    exact case_21 h hi hL
  rw [if_neg e21]
  by_cases e22 : v = 22
  · rw [if_pos e22]
    exact case_22 h hi hL
  rw [if_neg e22]
  by_cases e23 : v = 23
  · rw [if_pos e23]
    exact case_23 h hi hL
  rw [if_neg e23]
  by_cases e24 : v = 24
  · rw [if_pos e24]
    exact case_24 h hi hL
  rw [if_neg e24]
  by_cases e25 : v = 25
  · rw [if_pos e25]
    exact case_25 h hi hL
  rw [if_neg e25]
  by_cases e26 : v = 26
  · rw [if_pos e26]
    exact case_26 h hi hL
  rw [if_neg e26]
  by_cases e27 : v = 27
  · rw [if_pos e27]
    exact case_27 h hi hL
  rw [if_neg e27]
  by_cases e28 : v = 28
  · rw [if_pos e28]
    exact case_28 h hi hL
  rw [if_neg e28]
  by_cases e29 : v = 29
  · rw [if_pos e29]
    exact case_29 h hi hL
  rw [if_neg e29]
  by_cases e30 : v = 30
  · rw [if_pos e30]
    exact case_30 h hi hL
  rw [if_neg e30]
  by_cases e31 : v = 31
  · rw [if_pos e31]
    exact case_31 h hi hL
  rw [if_neg e31]
  by_cases e32 : v = 32
  · rw [if_pos e32]
    exact case_32 h hi hL
  rw [if_neg e32]
  by_cases e33 : v = 33
  · rw [if_pos e33]
    exact case_33 h hi hL
  rw [if_neg e33]
  by_cases e34 : v = 34
  · rw [if_pos e34]
    exact case_34 h hi hL
  rw [if_neg e34]
  by_cases e35 : v = 35
  · rw [if_pos e35]
    exact case_35 h hi hL
  rw [if_neg e35]
  by_cases e36 : v = 36
  · rw [if_pos e36]
    exact case_36 h hi hL
  rw [if_neg e36]
  by_cases e37 : v = 37
  · rw [if_pos e37]
    exact case_37 h hi hL
  rw [if_neg e37]
  by_cases e38 : v = 38
  · rw [if_pos e38]
    exact case_38 h hi hL
  rw [if_neg e38]
  by_cases e39 : v = 39
  · rw [if_pos e39]
    exact case_39 h hi hL
  rw [if_neg e39]
  by_cases e40 : v = 40
  · rw [if_pos e40]
    exact case_40 h hi hL
  rw [if_neg e40]
  by_cases e41 : v = 41
  · rw [if_pos e41]
    exact case_41 h hi hL
  rw [if_neg e41]
  by_cases e42 : v = 42
  · rw [if_pos e42]
    exact case_42 h hi hL
  rw [if_neg e42]
  exfalso
  have z1 : 0 ≤ v.toInt := Int.not_lt.mp (fun q => z (Or.inl (Int32.lt_iff_toInt_lt.mpr (by rw [show (0 : Int32).toInt = 0 by decide]; exact q))))
  have z2 : v.toInt ≤ 42 := Int.not_lt.mp (fun q => z (Or.inr (Int32.lt_iff_toInt_lt.mpr (by rw [show (42 : Int32).toInt = 42 by decide]; exact q))))
  have en : ∀ k : Nat, k < 43 → v ≠ nI k → v.toInt ≠ k := fun k hk hv q => hv (Int32.toInt_inj.mp (q.trans (nI_toInt (by omega)).symm))
  have n0 := en 0 (by omega) e0
  have n1 := en 1 (by omega) e1
  have n2 := en 2 (by omega) e2
  have n3 := en 3 (by omega) e3
  have n4 := en 4 (by omega) e4
  have n5 := en 5 (by omega) e5
  have n6 := en 6 (by omega) e6
  have n7 := en 7 (by omega) e7
  have n8 := en 8 (by omega) e8
  have n9 := en 9 (by omega) e9
  have n10 := en 10 (by omega) e10
  have n11 := en 11 (by omega) e11
  have n12 := en 12 (by omega) e12
  have n13 := en 13 (by omega) e13
  have n14 := en 14 (by omega) e14
  have n15 := en 15 (by omega) e15
  have n16 := en 16 (by omega) e16
  have n17 := en 17 (by omega) e17
  have n18 := en 18 (by omega) e18
  have n19 := en 19 (by omega) e19
  have n20 := en 20 (by omega) e20
  have n21 := en 21 (by omega) e21
  have n22 := en 22 (by omega) e22
  have n23 := en 23 (by omega) e23
  have n24 := en 24 (by omega) e24
  have n25 := en 25 (by omega) e25
  have n26 := en 26 (by omega) e26
  have n27 := en 27 (by omega) e27
  have n28 := en 28 (by omega) e28
  have n29 := en 29 (by omega) e29
  have n30 := en 30 (by omega) e30
  have n31 := en 31 (by omega) e31
  have n32 := en 32 (by omega) e32
  have n33 := en 33 (by omega) e33
  have n34 := en 34 (by omega) e34
  have n35 := en 35 (by omega) e35
  have n36 := en 36 (by omega) e36
  have n37 := en 37 (by omega) e37
  have n38 := en 38 (by omega) e38
  have n39 := en 39 (by omega) e39
  have n40 := en 40 (by omega) e40
  have n41 := en 41 (by omega) e41
  have n42 := en 42 (by omega) e42
  omega
theorem law_runs {L : Nat} {xs : Nat → Int32} (hL : L ≤ 3072) : ∀ (n i : Nat) (w : Wd), Inv w → i + n = 514 → 6 * i ≤ L ∨ i = 0 → ∃ w', f_law_L28 Kc L xs (some 0) (some 415) (some 437) (some 438) n (nI (6 * i)) w = some w'
  | 0, i, w, h, hn, hi => by omega
  | n + 1, i, w, h, hn, hi => by
    have hc : nI L - 6 < nI (6 * i) ↔ L < 6 * i + 6 := by
      have e : (nI L - 6 : Int32).toInt = (L : Int) - 6 := by
        rw [Int32.toInt_sub, nI_toInt (by omega), show (6 : Int32).toInt = 6 by decide]
        exact Int.bmod_eq_of_le (by omega) (by omega)
      rw [Int32.lt_iff_toInt_lt, e, nI_toInt (by omega)]
      omega
    rw [f_law_L28]
    by_cases q : L < 6 * i + 6
    · rw [if_pos (hc.mpr q)]
      exact ⟨w, rfl⟩
    · rw [if_neg (fun z => q (hc.mp z))]
      obtain ⟨w1, e1, h1⟩ := law_one (xs := xs) h (i := i) (by omega) hL
      rw [e1, Option.bind_some, show nI (6 * i) + 6 = nI (6 * (i + 1)) by rw [show (6 : Int32) = nI 6 from rfl, nI_add]; rfl]
      exact law_runs hL n (i + 1) w1 h1 (by omega) (Or.inl (by omega))
/-- the pure part: the law as a function comes to its end -/
theorem law_total {L : Nat} {xs : Nat → Int32} (hL : L ≤ 3072) : ∃ w', f_law L xs = some w' := by
  rw [law_st0]
  have hn := st0_n
  cases e : st0 with
  | none => rw [e] at hn; cases hn
  | some q =>
    rw [e] at hn
    have hq := Option.some.inj hn
    have q1 : q.2.1 = 415 := congrArg Prod.fst hq
    have q2 : q.2.2.1 = 437 := congrArg Prod.snd hq
    rw [Option.bind_some, K_st0 e q2, q1, q2]
    exact law_runs hL 514 0 _ (Inv_st0 e) (by omega) (Or.inr rfl)
