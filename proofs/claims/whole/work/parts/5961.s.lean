/-! The reference's scanner. -/
def TX (n : Nat) (bf : Nat → Int32) : Prop := n ≤ 900 ∧ ∀ k, k < n → -128 ≤ (bf k).toInt ∧ (bf k).toInt ≤ 127
def MT (w : Wd) (n : Nat) (bf : Nat → Int32) : Prop := wI w 1325 415 = nI n ∧ ∀ k, k < n → aI w 431 k = bf k
def NXS (f x : Nat) : Prop := x = 415 ∧ 1326 ≤ f ∧ f ≤ 1330
theorem MT.ofi {S : Nat → Nat → Prop} {A : Nat → Prop} {w w' : Wd} {n : Nat} {bf : Nat → Int32} (h : MT w n bf) (o : Ofi S A w w') (hS : ¬ S 1325 415) (hA : ¬ A 431) : MT w' n bf := ⟨by rw [o.2.1 _ _ hS]; exact h.1, fun k hk => by rw [o.2.2 _ hA]; exact h.2 k hk⟩
def hrV (n : Nat) (bf : Nat → Int32) (k : Nat) : Int32 := if k < n then nI (cdF (bf k)) else -1
theorem m_here {w : Wd} {n k : Nat} {bf : Nat → Int32} (hf : FX w) (hT : TX n bf) (h : MT w n bf) (hk : k < 2000) : f_X13_here Kc 415 (nI k) w = some (hrV n bf k, w) := by
  have n9 := hT.1
  unfold f_X13_here hrV
  rw [h.1]
  by_cases e : k < n
  · rw [if_le_f (by omega) (by omega) e, if_pos e, x1323 hf, Option.bind_some]
    try dsimp only
    rw [ixa_n (by omega) (by omega), Option.bind_some, h.2 k e, (byte_cs (hT.2 k e)).2.1]
  · rw [if_le_t (by omega) (by omega) (by omega), if_neg e]
theorem hrV_eq {n k c : Nat} {bf : Nat → Int32} (hT : TX n bf) (hc : c < 2000) : hrV n bf k = nI c ↔ k < n ∧ cdF (bf k) = c := by
  unfold hrV
  by_cases e : k < n
  · have h1 := (byte_cs (hT.2 k e)).1
    rw [if_pos e, nI_eq (by omega) (by omega)]
    exact ⟨fun q => ⟨e, q⟩, fun q => q.2⟩
  · rw [if_neg e]
    exact ⟨fun q => absurd q (neg1_eq (a := c) (by omega)), fun q => absurd q.1 e⟩
theorem hrV_m1 {n k : Nat} {bf : Nat → Int32} (hT : TX n bf) : hrV n bf k = -1 ↔ ¬ k < n := by
  unfold hrV
  by_cases e : k < n
  · have h1 := (byte_cs (hT.2 k e)).1
    rw [if_pos e]
    exact ⟨fun q => absurd q.symm (neg1_eq (a := cdF (bf k)) (by omega)), fun q => absurd e q⟩
  · rw [if_neg e]
    exact ⟨fun _ => e, fun _ => rfl⟩
theorem hrV_in {K : Kd} {w : Wd} {n k a b : Nat} {bf : Nat → Int32} (hT : TX n bf) (ha : a < 2000) (hb : b < 2000) : f_X13_isIn K (hrV n bf k).toInt64 (nI a).toInt64 (nI b).toInt64 w = some (decide (k < n) && decide (a ≤ cdF (bf k) ∧ cdF (bf k) ≤ b), w) := by
  rw [isIn_r (by omega) (by omega)]
  refine congrArg (fun z => some (z, w)) ?_
  unfold hrV
  by_cases e : k < n
  · have h1 := (byte_cs (hT.2 k e)).1
    rw [if_pos e, nI_toInt (by omega), decide_eq_true e, Bool.true_and]
    exact decide_eq_decide.mpr ⟨fun q => by omega, fun q => by omega⟩
  · rw [if_neg e, decide_eq_false e, Bool.false_and]
    exact decide_eq_false (fun q => by
      have h1 : (-1 : Int32).toInt = -1 := by decide
      rw [h1] at q
      omega)
/-! which word stands there -/
def kwN (l : List Nat) : Option Nat := fstF (fun i => decide (kwL i = l)) 0 16
theorem wd_cmp {w : Wd} {n st d i : Nat} {bf : Nat → Int32} (hf : FX w) (hT : TX n bf) (h : MT w n bf) (h7 : wI w 1327 415 = nI st) (h6 : wI w 1326 415 = nI (st + d)) (hd : st + d ≤ n) (hl : ∀ k, k < d → ltr (cdF (bf (st + k))) = true) (hi : i < 16) {k : Int32 → Int32 → Int32 → Wd → Option (Int32 × Wd)} : ∃ j, j ≤ (kwL i).length ∧ j ≤ d ∧ (∀ u, u < j → cdF (bf (st + u)) = 96 + (kwL i).getD u 0) ∧ (j < (kwL i).length → j < d → cdF (bf (st + j)) ≠ 96 + (kwL i).getD j 0) ∧ f_X13_wordHere_L16 Kc 415 k fu (nI i) (nI (kst i)) 0 w = k (nI i) (nI (kst i)) (nI j) w := by
  have n9 := hT.1
  obtain ⟨c1, c2, c3, c4, c5, c6⟩ := ch_d i hi
  have key : ∀ r j f, j + r = (kwL i).length → r < f → j ≤ d → (∀ u, u < j → cdF (bf (st + u)) = 96 + (kwL i).getD u 0) → ∃ y, y ≤ (kwL i).length ∧ y ≤ d ∧ (∀ u, u < y → cdF (bf (st + u)) = 96 + (kwL i).getD u 0) ∧ (y < (kwL i).length → y < d → cdF (bf (st + y)) ≠ 96 + (kwL i).getD y 0) ∧ f_X13_wordHere_L16 Kc 415 k f (nI i) (nI (kst i)) (nI j) w = k (nI i) (nI (kst i)) (nI y) w := by
    intro r
    induction r with
    | zero =>
      intro j f hj hrf hjd hp
      obtain ⟨f, rfl⟩ : ∃ g, f = g + 1 := ⟨f - 1, by omega⟩
      refine ⟨j, by omega, hjd, hp, fun q => by omega, ?_⟩
      rw [f_X13_wordHere_L16, nI_add, m_charAt (by omega), Option.bind_some]
      try dsimp only
      rw [show j = (kwL i).length by omega, c2, if_pos (show nI 32 = 32 from rfl)]
    | succ r ih =>
      intro j f hj hrf hjd hp
      obtain ⟨f, rfl⟩ : ∃ g, f = g + 1 := ⟨f - 1, by omega⟩
      obtain ⟨c7, c8, c9⟩ := c1 j (by omega)
      have ne32 : ¬ nI (96 + (kwL i).getD j 0) = 32 := fun q => by
        have := (nI_eq (a := 96 + (kwL i).getD j 0) (b := 32) (by omega) (by omega)).mp q
        omega
      by_cases e1 : j = d
      · refine ⟨j, by omega, hjd, hp, fun _ q => by omega, ?_⟩
        rw [f_X13_wordHere_L16, nI_add, m_charAt (by omega), Option.bind_some]
        try dsimp only
        rw [c7, if_neg ne32, h7, h6, nI_add, if_le_t (by omega) (by omega) (by omega)]
      · have hb := h.2 (st + j) (by omega)
        have hby := byte_eq (b := bf (st + j)) (hT.2 (st + j) (by omega)) (c := 96 + (kwL i).getD j 0) (by omega)
        by_cases e2 : cdF (bf (st + j)) = 96 + (kwL i).getD j 0
        · obtain ⟨y, y1, y2, y3, y4, y5⟩ := ih (j + 1) f (by omega) (by omega) (by omega) (fun u hu => by
            by_cases eu : u = j
            · rw [eu]; exact e2
            · exact hp u (by omega))
          refine ⟨y, y1, y2, y3, y4, ?_⟩
          rw [f_X13_wordHere_L16, nI_add, m_charAt (by omega), Option.bind_some]
          try dsimp only
          rw [c7, if_neg ne32, h7, h6, nI_add, if_le_f (by omega) (by omega) (by omega), x1323 hf, Option.bind_some]
          try dsimp only
          rw [ixa_n (by omega) (by omega), Option.bind_some, m_charAt (by omega), Option.bind_some]
          try dsimp only
          rw [c7, hb, if_pos (hby.mpr e2), show nI j + 1 = nI (j + 1) from nI_add j 1]
          exact y5
        · refine ⟨j, by omega, hjd, hp, fun _ _ => e2, ?_⟩
          rw [f_X13_wordHere_L16, nI_add, m_charAt (by omega), Option.bind_some]
          try dsimp only
          rw [c7, if_neg ne32, h7, h6, nI_add, if_le_f (by omega) (by omega) (by omega), x1323 hf, Option.bind_some]
          try dsimp only
          rw [ixa_n (by omega) (by omega), Option.bind_some, m_charAt (by omega), Option.bind_some]
          try dsimp only
          rw [c7, hb, if_neg (fun q => e2 (hby.mp q))]
  exact key (kwL i).length 0 fu (by omega) (fu_lt (by omega)) (by omega) (fun u hu => by omega)
theorem wd_skip {w : Wd} {i : Nat} (hi : i < 16) {u z : Int32} {k : Int32 → Int32 → Int32 → Wd → Option (Int32 × Wd)} : f_X13_wordHere_L102 Kc 415 k fu u (nI (kst i)) z w = k u (nI (kst i + (kwL i).length)) z w := by
  obtain ⟨c1, c2, c3, c4, c5, c6⟩ := ch_d i hi
  refine loop_g (fun f c => f_X13_wordHere_L102 Kc 415 k f u (nI (kst i + c)) z w) (fun _ => k u (nI (kst i + (kwL i).length)) z w) (kwL i).length (fun f => ?_) (fun f c hc ih => ?_) fu 0 (by omega) (fu_lt (by omega))
  · try dsimp only
    rw [f_X13_wordHere_L102, m_charAt (by omega), Option.bind_some, c2]
    try dsimp only
    rw [if_pos (show nI 32 = 32 from rfl)]
  · try dsimp only at ih ⊢
    obtain ⟨c7, c8, c9⟩ := c1 c hc
    rw [f_X13_wordHere_L102, m_charAt (by omega), Option.bind_some, c7]
    try dsimp only
    rw [if_neg (fun q => by
      have := (nI_eq (a := 96 + (kwL i).getD c 0) (b := 32) (by omega) (by omega)).mp q
      omega), show nI (kst i + c) + 1 = nI (kst i + (c + 1)) from nI_add (kst i + c) 1]
    exact ih
theorem ls_eq {bf : Nat → Int32} {st d : Nat} {l : List Nat} (hl : ∀ k, k < d → ltr (cdF (bf (st + k))) = true) : l = lts bf st d ↔ l.length = d ∧ ∀ u, u < d → cdF (bf (st + u)) = 96 + l.getD u 0 := by
  have hg : ∀ k, k < d → 97 ≤ cdF (bf (st + k)) := fun k hk => by
    have := hl k hk
    unfold ltr at this
    exact (of_decide_eq_true this).1
  constructor
  · intro q
    subst q
    refine ⟨lts_len, fun u hu => ?_⟩
    rw [lts_get hu]
    have := hg u hu
    omega
  · rintro ⟨h1, h2⟩
    apply List.ext_getElem
    · rw [lts_len]; exact h1
    · intro u h3 h4
      have h5 := h2 u (by omega)
      have h6 := lts_get (bf := bf) (q := st) (d := d) (j := u) (by omega)
      have g3 : l.getD u 0 = l[u] := by simp [List.getD, h3]
      have g4 : (lts bf st d).getD u 0 = (lts bf st d)[u] := by simp [List.getD, h4]
      rw [g3] at h5
      rw [g4] at h6
      have := hg u (by omega)
      omega
theorem m_wordHere {w : Wd} {n st d : Nat} {bf : Nat → Int32} (hf : FX w) (hT : TX n bf) (h : MT w n bf) (h7 : wI w 1327 415 = nI st) (h6 : wI w 1326 415 = nI (st + d)) (hd : st + d ≤ n) (hl : ∀ k, k < d → ltr (cdF (bf (st + k))) = true) : f_X13_wordHere Kc 415 w = some (oI (kwN (lts bf st d)), w) := by
  have n9 := hT.1
  unfold f_X13_wordHere kwN
  refine (loop_fst (fun f c => f_X13_wordHere_L4 Kc 415 (fun v1_4 v2_4 w1 => some ((-1), w1)) f (nI c) (nI (kst c)) w) (fun i => decide (kwL i = lts bf st d)) 16 (fun i => some (nI i, w)) (some (-1, w)) (fun f => ?_) (fun f c hc hp => ?_) (fun f c hc hp => ?_) 16 0 fu (by omega) (fu_lt (by omega))).trans ?_
  · try dsimp only
    rw [f_X13_wordHere_L4]
    rfl
  · obtain ⟨c1, c2, c3, c4, c5, c6⟩ := ch_d c hc
    have e := of_decide_eq_true hp
    obtain ⟨e1, e2⟩ := (ls_eq hl).mp e
    rw [f_X13_wordHere_L4]
    unfold f_J0_length_8abf5
    rw [Option.bind_some]
    try dsimp only
    rw [if_neg (show ¬ (101 : Int32) >>> ((0 : Int32) &&& 31) ≤ nI (kst c) from fun q => by
      have h1 : (101 : Int32) >>> ((0 : Int32) &&& 31) = nI 101 := by decide
      rw [h1] at q
      have := (nI_leI (a := 101) (b := kst c) (by omega) (by omega)).mp q
      omega)]
    obtain ⟨y, y1, y2, y3, y4, y5⟩ := wd_cmp hf hT h h7 h6 hd hl hc (k := fun v1_16 v2_16 v3_16 w4 => (f_J0_charAt_5068e Kc (v2_16 + v3_16) w4).bind fun q12 => if q12.1 = 32 then (if ((wI q12.2 1327 415) + v3_16) = (wI q12.2 1326 415) then (some (v1_16, q12.2)) else (f_X13_wordHere_L102 Kc 415 (fun v1_102 v2_102 v3_102 w18 => f_X13_wordHere_L4 Kc 415 (fun v1_4 v2_4 w1 => some ((-1), w1)) f (v1_102 + 1) (v2_102 + 1) w18) fu v1_16 v2_16 v3_16 q12.2)) else (f_X13_wordHere_L102 Kc 415 (fun v1_102 v2_102 v3_102 w14 => f_X13_wordHere_L4 Kc 415 (fun v1_4 v2_4 w1 => some ((-1), w1)) f (v1_102 + 1) (v2_102 + 1) w14) fu v1_16 v2_16 v3_16 q12.2))
    have ey : y = d := by
      by_cases q : y < d
      · exact absurd (e2 y q) (y4 (by omega) q)
      · omega
    refine y5.trans ?_
    rw [nI_add, m_charAt (by omega), Option.bind_some]
    try dsimp only
    rw [ey, ← e1, c2, if_pos (show nI 32 = 32 from rfl), h7, h6, nI_add, e1, if_eq_t rfl]
  · obtain ⟨c1, c2, c3, c4, c5, c6⟩ := ch_d c hc
    have e := of_decide_eq_false hp
    rw [f_X13_wordHere_L4]
    unfold f_J0_length_8abf5
    rw [Option.bind_some]
    try dsimp only
    rw [if_neg (show ¬ (101 : Int32) >>> ((0 : Int32) &&& 31) ≤ nI (kst c) from fun q => by
      have h1 : (101 : Int32) >>> ((0 : Int32) &&& 31) = nI 101 := by decide
      rw [h1] at q
      have := (nI_leI (a := 101) (b := kst c) (by omega) (by omega)).mp q
      omega)]
    obtain ⟨y, y1, y2, y3, y4, y5⟩ := wd_cmp hf hT h h7 h6 hd hl hc (k := fun v1_16 v2_16 v3_16 w4 => (f_J0_charAt_5068e Kc (v2_16 + v3_16) w4).bind fun q12 => if q12.1 = 32 then (if ((wI q12.2 1327 415) + v3_16) = (wI q12.2 1326 415) then (some (v1_16, q12.2)) else (f_X13_wordHere_L102 Kc 415 (fun v1_102 v2_102 v3_102 w18 => f_X13_wordHere_L4 Kc 415 (fun v1_4 v2_4 w1 => some ((-1), w1)) f (v1_102 + 1) (v2_102 + 1) w18) fu v1_16 v2_16 v3_16 q12.2)) else (f_X13_wordHere_L102 Kc 415 (fun v1_102 v2_102 v3_102 w14 => f_X13_wordHere_L4 Kc 415 (fun v1_4 v2_4 w1 => some ((-1), w1)) f (v1_102 + 1) (v2_102 + 1) w14) fu v1_16 v2_16 v3_16 q12.2))
    refine y5.trans ?_
    have nx : f_X13_wordHere_L102 Kc 415 (fun v1_102 v2_102 v3_102 w18 => f_X13_wordHere_L4 Kc 415 (fun v1_4 v2_4 w1 => some ((-1), w1)) f (v1_102 + 1) (v2_102 + 1) w18) fu (nI c) (nI (kst c)) (nI y) w = f_X13_wordHere_L4 Kc 415 (fun v1_4 v2_4 w1 => some ((-1), w1)) f (nI (c + 1)) (nI (kst (c + 1))) w := by
      rw [wd_skip hc, c3]
      rw [show nI c + 1 = nI (c + 1) from nI_add c 1, show nI (kst c + (kwL c).length) + 1 = nI (kst c + (kwL c).length + 1) from nI_add _ 1]
    rw [nI_add, m_charAt (by omega), Option.bind_some]
    try dsimp only
    by_cases e1 : y = (kwL c).length
    · rw [e1, c2, if_pos (show nI 32 = 32 from rfl), h7, h6, nI_add, if_eq_f (by omega) (by omega) (fun q => e ((ls_eq hl).mpr ⟨by omega, fun u hu => y3 u (by omega)⟩)), ← e1]
      exact nx
    · obtain ⟨c7, c8, c9⟩ := c1 y (by omega)
      rw [c7, if_neg (fun q => by
        have := (nI_eq (a := 96 + (kwL c).getD y 0) (b := 32) (by omega) (by omega)).mp q
        omega)]
      exact nx
  · cases fstF (fun i => decide (kwL i = lts bf st d)) 0 16 <;> rfl
