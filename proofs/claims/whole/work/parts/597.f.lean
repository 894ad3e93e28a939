/-! Names looked for. -/
def whN (nm : Nat → List Nat) (l : List Nat) (n : Nat) : Option Nat := fstF (fun i => decide (nm i = l)) 0 n
theorem x_indexOf {w : Wd} {o m M n : Nat} {nm : Nat → List Nat} {l : List Nat} (h1 : wI w 401 o = nI n) (h2 : cha Kc 23 (wR w 400 o) = some (m, M)) (hn : n ≤ M) (hM : M ≤ 12) (h3 : ∀ i, i < n → aJ w m i = nJ (pkX (nm i)) ∧ NmOK (nm i)) (hl : NmOK l) : f_X4_indexOf Kc o (nJ (pkX l)) w = some (oI (whN nm l n), w) := by
  unfold f_X4_indexOf whN
  refine (loop_fst (fun f c => f_X4_indexOf_L2 Kc o (fun v1_2 v3_2 w1 => some ((-1), w1)) f (nJ (pkX l)) (nI c) w) (fun i => decide (nm i = l)) n (fun i => some (nI i, w)) (some (-1, w)) (fun f => ?_) (fun f c hc hp => ?_) (fun f c hc hp => ?_) n 0 fu (by omega) (fu_lt (by omega))).trans ?_
  · try dsimp only
    rw [f_X4_indexOf_L2, h1, if_le_t (by omega) (by omega) (Nat.le_refl _)]
  · have e := of_decide_eq_true hp
    try dsimp only
    rw [f_X4_indexOf_L2, h1, if_le_f (by omega) (by omega) hc, h2, Option.bind_some]
    try dsimp only
    rw [ixa_n (by omega) (by omega), Option.bind_some, (h3 c hc).1, e, if_pos (lgc_eq.mpr rfl)]
  · have e := of_decide_eq_false hp
    try dsimp only
    rw [f_X4_indexOf_L2, h1, if_le_f (by omega) (by omega) hc, h2, Option.bind_some]
    try dsimp only
    rw [ixa_n (by omega) (by omega), Option.bind_some, (h3 c hc).1, if_neg (fun q => e ((pkX_inj (h3 c hc).2 hl).mp (lgc_eq.mp q))), show nI c + 1 = nI (c + 1) from nI_add c 1]
  · cases fstF (fun i => decide (nm i = l)) 0 n <;> rfl
theorem m_placeOf {w : Wd} {v : Option Nat} {m M n : Nat} {nm : Nat → List Nat} {l : List Nat} (h2 : cha Kc 23 v = some (m, M)) (hn : n ≤ M) (hM : M ≤ 12) (h3 : ∀ i, i < n → aJ w m i = nJ (pkM (nm i)) ∧ NmOK (nm i)) (hl : NmOK l) : f_X13_placeOf Kc (nJ (pkM l)) v (nI n) w = some (oI (whN nm l n), w) := by
  unfold f_X13_placeOf whN
  refine (loop_fst (fun f c => f_X13_placeOf_L3 Kc (fun v0_3 v2_3 v3_3 v4_3 w1 => some ((-1), w1)) f (nJ (pkM l)) v (nI n) (nI c) w) (fun i => decide (nm i = l)) n (fun i => some (nI i, w)) (some (-1, w)) (fun f => ?_) (fun f c hc hp => ?_) (fun f c hc hp => ?_) n 0 fu (by omega) (fu_lt (by omega))).trans ?_
  · try dsimp only
    rw [f_X13_placeOf_L3, if_le_t (by omega) (by omega) (Nat.le_refl _)]
  · have e := of_decide_eq_true hp
    try dsimp only
    rw [f_X13_placeOf_L3, if_le_f (by omega) (by omega) hc, h2, Option.bind_some]
    try dsimp only
    rw [ixa_n (by omega) (by omega), Option.bind_some, (h3 c hc).1, e, if_pos (lgc_eq.mpr rfl)]
  · have e := of_decide_eq_false hp
    try dsimp only
    rw [f_X13_placeOf_L3, if_le_f (by omega) (by omega) hc, h2, Option.bind_some]
    try dsimp only
    rw [ixa_n (by omega) (by omega), Option.bind_some, (h3 c hc).1, if_neg (fun q => e ((pkM_inj (h3 c hc).2 hl).mp (lgc_eq.mp q))), show nI c + 1 = nI (c + 1) from nI_add c 1]
  · cases fstF (fun i => decide (nm i = l)) 0 n <;> rfl
theorem m_nameHere {w : Wd} {n st d : Nat} {bf : Nat → Int32} (hf : FX w) (hT : TX n bf) (h : MT w n bf) (h7 : wI w 1327 415 = nI st) (h6 : wI w 1326 415 = nI (st + d)) (hd : st + d ≤ n) (hl : ∀ k, k < d → ltr (cdF (bf (st + k))) = true) : f_X13_nameHere Kc 415 w = some (nJ (pkM (lts bf st d)), w) := by
  have n9 := hT.1
  unfold f_X13_nameHere
  rw [h7]
  refine loop_g (fun f c => f_X13_nameHere_L7 Kc 415 (fun v1_7 v3_7 w1 => some (v1_7, w1)) f (nJ (pkM (lts bf st c))) (nI (st + c)) w) (fun _ => some (nJ (pkM (lts bf st d)), w)) d (fun f => ?_) (fun f c hc ih => ?_) fu 0 (by omega) (fu_lt (by omega))
  · try dsimp only
    rw [f_X13_nameHere_L7, h6, if_le_t (by omega) (by omega) (Nat.le_refl _)]
  · try dsimp only at ih ⊢
    have hb := hT.2 (st + c) (by omega)
    have e9 : 97 ≤ cdF (bf (st + c)) ∧ cdF (bf (st + c)) ≤ 122 := of_decide_eq_true (hl c hc)
    have eb : bf (st + c) = nI (cdF (bf (st + c))) := (byte_cs hb).2.2.1 (by omega)
    rw [f_X13_nameHere_L7, h6, if_le_f (by omega) (by omega) (by omega), x1323 hf, Option.bind_some]
    try dsimp only
    rw [ixa_n (by omega) (by omega), Option.bind_some, h.2 _ (by omega), (congrArg Int32.toInt64 eb).trans (nJ_of (by omega)), show (27 : Int64) = nJ 27 from rfl, show (96 : Int64) = nJ 96 from rfl, nJ_mul, nJ_add, nJ_sub (by omega), show nI (st + c) + 1 = nI (st + (c + 1)) from nI_add (st + c) 1]
    rw [lts_succ, pkM_G, pkG_snoc] at ih
    rw [pkM_G]
    rw [show 27 * pkG 27 0 (lts bf st c) + cdF (bf (st + c)) - 96 = 27 * pkG 27 0 (lts bf st c) + (0 + (cdF (bf (st + c)) - 96)) by omega]
    exact ih
theorem x_bufferedName {w : Wd} {n : Nat} {bf : Nat → Int32} (hf : FX w) (hT : TX n bf) (h1 : wI w 1201 0 = nI n) (hb : ∀ k, k < n → aI w 35 k = bf k) : f_X12_bufferedName Kc 0 w = some (if n ≤ 8 ∧ anyF (fun k => !ltr (cdF (bf k))) 0 n = false then nJ (pkX (lts bf 0 n)) else 0, w) := by
  have n9 := hT.1
  unfold f_X12_bufferedName
  rw [h1, show (8 : Int32) = nI 8 from rfl]
  by_cases e8 : n ≤ 8
  · rw [if_le_t (by omega) (by omega) e8]
    have key : ∀ r c f, c + r = n → r < f → (∀ k, k < c → ltr (cdF (bf k)) = true) → f_X12_bufferedName_L15 Kc 0 (fun v1_15 v3_15 w2 => some (v1_15, w2)) f (nJ (pkX (lts bf 0 c))) (nI c) w = some (if anyF (fun k => !ltr (cdF (bf k))) c r = false then nJ (pkX (lts bf 0 n)) else 0, w) := by
      intro r
      induction r with
      | zero =>
        intro c f hc hfu hl
        obtain ⟨f, rfl⟩ : ∃ g, f = g + 1 := ⟨f - 1, by omega⟩
        have ec : c = n := by omega
        subst ec
        rw [f_X12_bufferedName_L15, h1, if_le_t (by omega) (by omega) (Nat.le_refl _)]
        rw [if_pos (show anyF (fun k => !ltr (cdF (bf k))) c 0 = false from rfl)]
      | succ r ih =>
        intro c f hc hfu hl
        obtain ⟨f, rfl⟩ : ∃ g, f = g + 1 := ⟨f - 1, by omega⟩
        have hby := hT.2 c (by omega)
        rw [f_X12_bufferedName_L15, h1, if_le_f (by omega) (by omega) (by omega), x1200' hf, Option.bind_some]
        try dsimp only
        rw [ixa_n (by omega) (by omega), Option.bind_some, hb c (by omega), x_isLetter hby, Option.bind_some]
        try dsimp only
        cases e : ltr (cdF (bf c)) with
        | true =>
          have e9 : 97 ≤ cdF (bf c) ∧ cdF (bf c) ≤ 122 := of_decide_eq_true e
          have eb : bf c = nI (cdF (bf c)) := (byte_cs hby).2.2.1 (by omega)
          have hl2 : ∀ k, k < c + 1 → ltr (cdF (bf k)) = true := fun k hk => by
            by_cases ek : k = c
            · rw [ek]; exact e
            · exact hl k (by omega)
          have ok := (lts_ok (bf := bf) (st := 0) (d := c + 1) (by omega) (by omega) (fun k hk => by rw [Nat.zero_add]; exact hl2 k hk)).x63
          rw [lts_succ, Nat.zero_add, pkX_G, pkG_snoc, show 96 + (cdF (bf c) - 96) = cdF (bf c) by omega] at ok
          have := ih (c + 1) f (by omega) (by omega) hl2
          rw [ib_t, x1200' hf, Option.bind_some]
          try dsimp only
          rw [ixa_n (by omega) (by omega), Option.bind_some, hb c (by omega), (congrArg Int32.toInt64 eb).trans (nJ_of (by omega)), show nI c + 1 = nI (c + 1) from nI_add c 1]
          rw [lts_succ, Nat.zero_add, pkX_G (lts bf 0 c ++ _), pkG_snoc, show 96 + (cdF (bf c) - 96) = cdF (bf c) by omega] at this
          rw [pkX_G (lts bf 0 c), nJ_push ok (by omega), this]
          have ea : anyF (fun k => !ltr (cdF (bf k))) c (r + 1) = anyF (fun k => !ltr (cdF (bf k))) (c + 1) r := by
            rw [anyF, e]; rfl
          rw [ea]
        | false =>
          have ea : anyF (fun k => !ltr (cdF (bf k))) c (r + 1) = true := by
            rw [anyF, e]; rfl
          rw [ib_f, ea, if_neg (by decide)]
    have := key n 0 fu (by omega) (fu_lt (by omega)) (fun k hk => by omega)
    refine this.trans ?_
    by_cases ea : anyF (fun k => !ltr (cdF (bf k))) 0 n = false
    · rw [if_pos ea, if_pos ⟨e8, ea⟩]
    · rw [if_neg ea, if_neg (fun q => ea q.2)]
  · rw [if_le_f (by omega) (by omega) (by omega), if_neg (fun q => e8 q.1)]
