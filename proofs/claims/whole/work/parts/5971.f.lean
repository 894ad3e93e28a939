/-! find -/
theorem NMx.g {w : Wd} {b : Nat} {s : Nat → Nat} {nm : Nat → Nat → List Nat} (h : NMx w b s nm) (hn : ∀ k i, k < 4 → i < s k → NmOK (nm k i)) {k : Nat} (hk : k < 4) : ∀ i, i < s k → aJ w (b + 15 + 2 * k) i = nJ (pkX (nm k i)) ∧ NmOK (nm k i) := fun i hi => ⟨h k i hk hi, hn k i hk hi⟩
theorem NMm.g {w : Wd} {s : Nat → Nat} {nm : Nat → Nat → List Nat} (h : NMm w s nm) (hn : ∀ k i, k < 4 → i < s k → NmOK (nm k i)) {k : Nat} (hk : k < 4) : ∀ i, i < s k → aJ w (424 + k) i = nJ (pkM (nm k i)) ∧ NmOK (nm k i) := fun i hi => ⟨h k i hk hi, hn k i hk hi⟩
theorem nmL_le {s : Nat → Nat} (hS : GoodS s) {k : Nat} (hk : k < 4) : s k ≤ nmL k ∧ nmL k ≤ 12 := by
  have hs := hS.1
  rcases (by omega : k = 0 ∨ k = 1 ∨ k = 2 ∨ k = 3) with rfl | rfl | rfl | rfl
  · exact ⟨hs.1, by decide⟩
  · exact ⟨hs.2.1, by decide⟩
  · exact ⟨hs.2.2.1, by decide⟩
  · exact ⟨hs.2.2.2, by decide⟩
/-- what is found -/
def fdV (n : Nat) (bf : Nat → Int32) (nm : Nat → List Nat) (m : Nat) : Int32 := if 1 ≤ n ∧ n ≤ 8 ∧ anyF (fun k => !ltr (cdF (bf k))) 0 n = false then oI (whN nm (lts bf 0 n) m) else -1
theorem all_ltr {n : Nat} {bf : Nat → Int32} (h : anyF (fun k => !ltr (cdF (bf k))) 0 n = false) : ∀ k, k < n → ltr (cdF (bf k)) = true := fun k hk => by
  cases e : ltr (cdF (bf k)) with
  | true => rfl
  | false =>
    have : anyF (fun k => !ltr (cdF (bf k))) 0 n = true := (anyF_iff _ _).mpr ⟨k, by omega, by omega, by rw [e]; rfl⟩
    rw [h] at this
    cases this
theorem run_all {P : Nat → Bool} : ∀ d p, (∀ k, p ≤ k → k < p + d → P k = true) → run P d p = p + d
  | 0, p, _ => rfl
  | d + 1, p, h => by
    rw [run, if_pos (h p (Nat.le_refl _) (by omega)), run_all d (p + 1) (fun k k1 k2 => h k (by omega) (by omega))]
    omega
theorem tok_one {n : Nat} {bf : Nat → Int32} : (tyT n bf 0 = 1 ∧ skT n bf 0 = 0 ∧ enT n bf 0 = n) ↔ (1 ≤ n ∧ anyF (fun k => !ltr (cdF (bf k))) 0 n = false) := by
  constructor
  · rintro ⟨h1, h2, h3⟩
    have n1 : ¬ n ≤ 0 := fun q => by
      unfold tyT at h1
      rw [h2, if_pos q] at h1
      omega
    have h4 : ltr (cdF (bf 0)) = true := by
      unfold tyT at h1
      rw [h2, if_neg n1] at h1
      cases e : ltr (cdF (bf 0)) with
      | true => rfl
      | false =>
        rw [e, if_neg (by decide)] at h1
        split at h1
        · split at h1 <;> omega
        · split at h1 <;> omega
    have h5 : run (fun k => ltr (cdF (bf k))) n 0 = n := by
      unfold enT at h3
      rw [h2, if_neg n1, if_pos h4, Nat.sub_zero] at h3
      exact h3
    refine ⟨by omega, ?_⟩
    cases e : anyF (fun k => !ltr (cdF (bf k))) 0 n with
    | false => rfl
    | true =>
      obtain ⟨k, k1, k2, k3⟩ := (anyF_iff _ _).mp e
      have := run_in (P := fun k => ltr (cdF (bf k))) n 0 k k1 (by rw [h5]; omega)
      rw [this] at k3
      cases k3
  · rintro ⟨n1, h⟩
    have hl := all_ltr h
    have h0 := hl 0 (by omega)
    have h9 : 97 ≤ cdF (bf 0) ∧ cdF (bf 0) ≤ 122 := of_decide_eq_true h0
    have sk : skT n bf 0 = 0 := by
      unfold skT
      obtain ⟨m, hm⟩ : ∃ m, n - 0 = m + 1 := ⟨n - 1, by omega⟩
      rw [hm, run, if_neg (by
        unfold spc
        intro q
        rw [Bool.or_eq_true, beq_iff_eq, beq_iff_eq] at q
        omega)]
    refine ⟨?_, sk, ?_⟩
    · unfold tyT
      rw [sk, if_neg (by omega), if_pos h0]
    · unfold enT
      rw [sk, if_neg (by omega), if_pos h0, Nat.sub_zero, run_all n 0 (fun k _ k2 => hl k (by omega)), Nat.zero_add]
theorem m_startsReading {w : Wd} {n : Nat} {bf : Nat → Int32} (hf : FX w) (hT : TX n bf) (h1 : wI w 1324 415 = nI n) (hb : ∀ k, k < n → aI w 431 k = bf k) : ∃ w', f_X13_startsReading Kc 415 w = some w' ∧ Ofi (fun f x => x = 415 ∧ 1324 ≤ f ∧ f ≤ 1330) NA w w' ∧ wI w' 1324 415 = nI 0 ∧ MT w' n bf ∧ TKm w' n bf 0 := by
  have o1 : Ofi (fun f x => x = 415 ∧ 1324 ≤ f ∧ f ≤ 1330) NA w (sI (sI (sI w 1325 415 (nI n)) 1324 415 0) 1326 415 0) := ((ofi_sI ⟨rfl, by omega, by omega⟩).trans (ofi_sI ⟨rfl, by omega, by omega⟩)).trans (ofi_sI ⟨rfl, by omega, by omega⟩)
  have M1 : MT (sI (sI (sI w 1325 415 (nI n)) 1324 415 0) 1326 415 0) n bf := ⟨by rw [wI_sI, if_neg (by omega), wI_sI, if_neg (by omega), wI_sI, if_pos ⟨rfl, rfl⟩], hb⟩
  obtain ⟨w2, e2, o2, t2⟩ := m_next (o1.FX hf) hT M1 (Nat.zero_le n) (by rw [wI_sI, if_pos ⟨rfl, rfl⟩]; rfl)
  refine ⟨w2, ?_, o1.trans (o2.mono (fun f x q => ⟨q.1, by have := q.2.1; omega, q.2.2⟩) (fun _ q => q)), by rw [o2.2.1 1324 415 (by unfold NXS; omega), wI_sI, if_neg (by omega), wI_sI, if_pos ⟨rfl, rfl⟩]; rfl, M1.ofi o2 (by unfold NXS; omega) (fun q => q), t2⟩
  unfold f_X13_startsReading
  rw [h1, Option.bind_some, Option.bind_some, Option.bind_some, e2, Option.bind_some]
theorem b_find {w : Wd} (h : Inv w) (x : Int32) : Both (f_X12_find Kc 0 x) (f_X13_find Kc 415 x) E21 w := by
  obtain ⟨b, s, t, hv⟩ := id h
  have hx := hv.1.1
  have hm := hv.1.2.1
  obtain ⟨n, bf, p0, p1, p2⟩ := hv.2.2.2.2.1
  obtain ⟨nm, n3, n4, n5⟩ := hv.2.2.2.2.2.2.2
  have hT : TX n bf := p0
  have n9 := hT.1
  have hs := hx.gs.1
  by_cases e : inR x 4
  · obtain ⟨k, hk, rfl⟩ := inR_nI e
    have nl := nmL_le hx.gs hk
    have k4 : s k ≤ nmL k ∧ nmL k ≤ 12 ∧ s k < 2 ^ 31 := ⟨nl.1, nl.2, by omega⟩
    have f1 : FX (sI w 1201 0 0) := hx.1.sI
    have r1 : Fr SB2 AB2 w (sI w 1201 0 0) := fr_sI (Or.inl ⟨rfl, rfl⟩)
    have ex : f_X12_find Kc 0 (nI k) w = some (.inl (fdV n bf (nm k) (s k)), sI w 1201 0 0) := by
      unfold f_X12_find fdV
      rw [if_neg (fun q => by have := lt0.mp q; have := e.1; omega), if_pos (show nI k < 4 from (nI_ltI (a := k) (b := 4) (by omega) (by omega)).mpr hk), x_bufferedName hx.1 hT p1.1 p1.2, Option.bind_some]
      try dsimp only
      rw [Option.bind_some]
      by_cases c1 : 1 ≤ n ∧ n ≤ 8 ∧ anyF (fun k => !ltr (cdF (bf k))) 0 n = false
      · have ok : NmOK (lts bf 0 n) := lts_ok c1.1 c1.2.1 (fun k hk => by rw [Nat.zero_add]; exact all_ltr c1.2.2 k hk)
        rw [show (if n ≤ 8 ∧ anyF (fun k => !ltr (cdF (bf k))) 0 n = false then nJ (pkX (lts bf 0 n)) else 0) = nJ (pkX (lts bf 0 n)) from if_pos ⟨c1.2.1, c1.2.2⟩, if_neg (show ¬ lg_cmp (nJ (pkX (lts bf 0 n))) 0 = 0 from fun q => pkX_pos ok ((nJ_eq ok.x63 (by omega)).mp (show nJ (pkX (lts bf 0 n)) = nJ 0 from lgc_eq.mp q))), if_pos c1, x1205 f1, Option.bind_some, show chk Kc 8 (wR (sI w 1201 0 0) 1000 73) = some b from hx.su, Option.bind_some, u900 f1 hx.2.1.2.1, Option.bind_some]
        try dsimp only
        rw [ixa_n hk (by omega), Option.bind_some, unm f1 hx.2.1.2.1 hk, Option.bind_some, x_indexOf (o := b + 14 + 2 * k) (m := b + 15 + 2 * k) (M := nmL k) (n := s k) (nm := nm k) (by
          have ub := SU_rg hx.2.1.2.1
          rw [wI_sI, if_neg (by omega)]; exact hx.2.2.1.1 k hk) (unp f1 hx.2.1.2.1 hk) nl.1 nl.2 (n4.g n3 hk) ok, Option.bind_some]
      · rw [if_neg c1]
        by_cases c2 : n ≤ 8 ∧ anyF (fun k => !ltr (cdF (bf k))) 0 n = false
        · have n0 : n = 0 := by
            by_cases q : 1 ≤ n
            · exact absurd ⟨q, c2⟩ c1
            · omega
          subst n0
          rw [show (if 0 ≤ 8 ∧ anyF (fun k => !ltr (cdF (bf k))) 0 0 = false then nJ (pkX (lts bf 0 0)) else 0) = (0 : Int64) from rfl, if_pos (show lg_cmp (0 : Int64) 0 = 0 from rfl)]
        · rw [show (if n ≤ 8 ∧ anyF (fun k => !ltr (cdF (bf k))) 0 n = false then nJ (pkX (lts bf 0 n)) else 0) = (0 : Int64) from if_neg c2, if_pos (show lg_cmp (0 : Int64) 0 = 0 from rfl)]
    refine ⟨.inl (fdV n bf (nm k) (s k)), sI w 1201 0 0, ex, fun u0 r2 => ?_⟩
    have fu0 := f437 f1 r2
    have r02 : Fr SB2 AB2 w u0 := r1.trans (r2.mono (fun _ _ q => q.elim) (fun x q => by unfold A437 at q; unfold AB2; omega))
    have H0 : HM u0 s t := hm.fr r02 fu0 (by unfold AB2; omega) (by unfold AB2; omega)
    have b24 : wI u0 1324 415 = nI n := by rw [(r2.1 1324 415 (fun q => q)).1, wI_sI, if_neg (by omega)]; exact p2.1
    have b431 : ∀ k, k < n → aI u0 431 k = bf k := fun k hk => by rw [(r2.2 431 (by unfold A437; omega)).1]; exact p2.2 k hk
    obtain ⟨u1, d1, o1, z1, M1, t1⟩ := m_startsReading (w := sI u0 1300 415 0) fu0.sI hT (by rw [tl_o (by omega)]; exact b24) b431
    have fu1 := o1.FX fu0.sI
    have r13 : Fr SB2 AB2 u0 u1 := (fr_sI (Or.inr ⟨rfl, Or.inl rfl⟩)).trans (o1.fr.mono (fun f x q => Or.inr ⟨q.1, Or.inr ⟨q.2.1, by have := q.2.2; omega⟩⟩) (fun _ q => q.elim))
    have r03 : Fr SB2 AB2 w u1 := r02.trans r13
    have H1 : HM u1 s t := H0.fr r13 fu1 (by unfold AB2; omega) (by unfold AB2; omega)
    have i1 : Inv u1 := invBuf h r03 fu1 ⟨0, bf, ⟨by omega, fun k hk => by omega⟩, ⟨by rw [o1.2.1 1201 0 (by omega), tl_o (by omega), (r2.1 1201 0 (fun q => q)).1, wI_sI, if_pos ⟨rfl, rfl⟩]; rfl, fun k hk => by omega⟩, z1, fun k hk => by omega⟩
    have g0 : wI u1 1300 415 = 0 := by rw [o1.2.1 1300 415 (by omega), tl_t]
    have j1 : aJ u1 437 = aJ u0 437 := congrFun o1.1.2.2.2.2.1 437
    have a5 : ∀ x, 424 ≤ x → x < 428 → aJ u1 x = aJ w x := fun x x1 x2 => (r03.2 x (by unfold AB2; omega)).2.1
    have n5' : NMm u1 s nm := fun k i hk hi => by rw [a5 _ (by omega) (by omega)]; exact n5 k i hk hi
    refine ⟨fdV n bf (nm k) (s k), u1, ?_, i1, j1, rfl, g0⟩
    obtain ⟨t7, t6, t8, t9, t0⟩ := t1
    unfold f_X13_find
    rw [show f_X13_isIn Kc (nI k).toInt64 0 3 u0 = some (decide (inR (nI k) 4), u0) from isIn_n (n := 4) rfl, decide_eq_true e, Option.bind_some]
    try dsimp only
    rw [m_isT, Option.bind_some]
    try dsimp only
    rw [ib_t, d1, Option.bind_some, t8, tl_o (by omega), b24, t7, t6]
    have ty4 : tyT n bf 0 ≤ 4 := by
      unfold tyT
      split
      · omega
      · split
        · omega
        · split
          · split <;> omega
          · split <;> omega
    have sr := skT_rg (bf := bf) (Nat.zero_le n)
    have er := enT_rg (bf := bf) (Nat.zero_le n)
    by_cases c1 : tyT n bf 0 = 1 ∧ skT n bf 0 = 0 ∧ enT n bf 0 = n
    · have c2 := tok_one.mp c1
      rw [if_pos (show nI (tyT n bf 0) = 1 by rw [c1.1]; rfl), if_pos (show nI (skT n bf 0) = 0 by rw [c1.2.1]; rfl), if_pos (show nI (enT n bf 0) = nI n by rw [c1.2.2])]
      by_cases c3 : n ≤ 8
      · have ok : NmOK (lts bf 0 n) := lts_ok c2.1 c3 (fun k hk => by rw [Nat.zero_add]; exact all_ltr c2.2 k hk)
        have nh := m_nameHere (st := 0) (d := n) fu1 hT M1 (by rw [t7, c1.2.1]) (by rw [t6, c1.2.2, Nat.zero_add]) (by omega) (fun k hk => by rw [Nat.zero_add]; exact all_ltr c2.2 k hk)
        have fd : fdV n bf (nm k) (s k) = oI (whN (nm k) (lts bf 0 n) (s k)) := if_pos ⟨c2.1, c3, c2.2⟩
        rw [fd, if_pos (show nI n ≤ 8 from (nI_leI (a := n) (b := 8) (by omega) (by omega)).mpr c3)]
        rcases (by omega : k = 0 ∨ k = 1 ∨ k = 2 ∨ k = 3) with rfl | rfl | rfl | rfl
        · rw [if_neg (show ¬ (nI 0 < 0 ∨ 2 < nI 0) by decide), if_pos (show nI 0 = 0 from rfl), nh, Option.bind_some]
          try dsimp only
          rw [x1301 fu1, Option.bind_some]
          try dsimp only
          rw [show ixa 0 170 = some 0 from rfl, Option.bind_some, H1.S (by omega), m_placeOf (n := s 0) (nm := nm 0) (x1311 fu1) nl.1 nl.2 (n5'.g n3 hk) ok, Option.bind_some]
        · rw [if_neg (show ¬ (nI 1 < 0 ∨ 2 < nI 1) by decide), if_neg (show ¬ nI 1 = 0 by decide), if_pos (show nI 1 = 1 from rfl), nh, Option.bind_some]
          try dsimp only
          rw [x1301 fu1, Option.bind_some]
          try dsimp only
          rw [show ixa 1 170 = some 1 from rfl, Option.bind_some, H1.S (by omega), m_placeOf (n := s 1) (nm := nm 1) (x1312 fu1) nl.1 nl.2 (n5'.g n3 hk) ok, Option.bind_some]
        · rw [if_neg (show ¬ (nI 2 < 0 ∨ 2 < nI 2) by decide), if_neg (show ¬ nI 2 = 0 by decide), if_neg (show ¬ nI 2 = 1 by decide), if_pos (show nI 2 = 2 from rfl), nh, Option.bind_some]
          try dsimp only
          rw [x1301 fu1, Option.bind_some]
          try dsimp only
          rw [show ixa 2 170 = some 2 from rfl, Option.bind_some, H1.S (by omega), m_placeOf (n := s 2) (nm := nm 2) (x1313 fu1) nl.1 nl.2 (n5'.g n3 hk) ok, Option.bind_some]
        · rw [if_pos (show (nI 3 < 0 ∨ 2 < nI 3) by decide), nh, Option.bind_some]
          try dsimp only
          rw [x1301 fu1, Option.bind_some]
          try dsimp only
          rw [show ixa 3 170 = some 3 from rfl, Option.bind_some, H1.S (by omega), m_placeOf (n := s 3) (nm := nm 3) (x1314 fu1) nl.1 nl.2 (n5'.g n3 hk) ok, Option.bind_some]
      · rw [if_neg (show ¬ nI n ≤ 8 from fun q => c3 ((nI_leI (a := n) (b := 8) (by omega) (by omega)).mp q)), show fdV n bf (nm k) (s k) = -1 from if_neg (fun q => c3 q.2.1)]
    · have fd : fdV n bf (nm k) (s k) = -1 := if_neg (fun q => c1 (tok_one.mpr ⟨q.1, q.2.2⟩))
      rw [fd]
      by_cases c2 : tyT n bf 0 = 1
      · rw [if_pos (show nI (tyT n bf 0) = 1 by rw [c2]; rfl)]
        by_cases c3 : skT n bf 0 = 0
        · rw [if_pos (show nI (skT n bf 0) = 0 by rw [c3]; rfl), if_neg (fun q => c1 ⟨c2, c3, (nI_eq (by omega) (by omega)).mp q⟩)]
        · rw [if_neg (show ¬ nI (skT n bf 0) = 0 from fun q => c3 ((nI_eq (b := 0) (by omega) (by omega)).mp q))]
      · rw [if_neg (show ¬ nI (tyT n bf 0) = 1 from fun q => c2 ((nI_eq (b := 1) (by omega) (by omega)).mp q))]
  · refine Bfail hv (e := 2) (w1 := w) ?_ Fr.rf hx.1 (fun u0 H0 G0 => ⟨0, 1, ?_, rfl, rfl⟩)
    · unfold f_X12_find
      by_cases e2 : x < 0
      · rw [if_pos e2]
      · rw [if_neg e2, if_neg (show ¬ x < 4 from fun q => e ⟨by have : ¬ x.toInt < 0 := fun z => e2 (lt0.mpr z); omega, (ltn (n := 4) (by omega)).mp q⟩)]
    · unfold f_X13_find
      rw [show f_X13_isIn Kc x.toInt64 0 3 u0 = some (decide (inR x 4), u0) from isIn_n (n := 4) rfl, decide_eq_false e, Option.bind_some]
      try dsimp only
      rw [m_isF, Option.bind_some, ib_f]
