/-! printDay -/
def onS (t : Nat → Nat) (d q r c : Nat) : Bool := hrg t c && (cs t c 3 == d && (cs t c 4 == q && cs t c 5 == r))
theorem onS_iff {t : Nat → Nat} {d q r c : Nat} : onS t d q r c = true ↔ hrg t c = true ∧ cs t c 3 = d ∧ cs t c 4 = q ∧ cs t c 5 = r := by
  unfold onS
  simp only [Bool.and_eq_true, beq_iff_eq]
def pcL (t : Nat → Nat) (nm : Nat → Nat → List Nat) (d q r n : Nat) : List Nat := match fstF (onS t d q r) 0 n with
  | some c => lnT t nm c
  | none => []
def prR (s t : Nat → Nat) (nm : Nat → Nat → List Nat) (d q : Nat) : Nat → List Nat
  | 0 => []
  | r + 1 => prR s t nm d q r ++ pcL t nm d q r (s 3)
def prA (s t : Nat → Nat) (nm : Nat → Nat → List Nat) (d : Nat) : Nat → List Nat
  | 0 => []
  | q + 1 => prA s t nm d q ++ prR s t nm d q (s 0)
theorem fst_snoc {p : Nat → Bool} : ∀ n c, fstF p c (n + 1) = match fstF p c n with
    | some x => some x
    | none => if p (c + n) = true then some (c + n) else none
  | 0, c => by simp [fstF]
  | n + 1, c => by
    rw [fstF, fst_snoc n (c + 1)]
    by_cases e : p c = true
    · rw [if_pos e, fstF, if_pos e]
    · rw [if_neg e, fstF, if_neg e, show c + 1 + n = c + (n + 1) by omega]
theorem fst_none {p : Nat → Bool} {n c : Nat} (h : fstF p c n = none) {k : Nat} (h1 : c ≤ k) (h2 : k < c + n) : p k = false := by
  induction n generalizing c with
  | zero => omega
  | succ n ih =>
    rw [fstF] at h
    by_cases e : p c = true
    · rw [if_pos e] at h; cases h
    · rw [if_neg e] at h
      by_cases ek : k = c
      · rw [ek]
        cases q : p c with
        | true => exact absurd q e
        | false => rfl
      · exact ih h (by omega) (by omega)
/-- one case alone is in a room at a slot -/
theorem one_tkn {s t : Nat → Nat} (hS : GoodS s) (hT : GoodT s t) (hR : RmOK s t) {d q r c c' : Nat} (h : tkn s t r d q c = true) (h' : tkn s t r d q c' = true) (hc : c < s 3) (hc' : c' < s 3) : c = c' := by
  have h12 := hS.1.2.2.2
  unfold tkn at h h'
  simp only [Bool.and_eq_true, beq_iff_eq, decide_eq_true_eq] at h h'
  obtain ⟨⟨⟨a1, a2⟩, a3⟩, a4, a5⟩ := h
  obtain ⟨⟨⟨b1, b2⟩, b3⟩, b4, b5⟩ := h'
  by_cases e : c = c'
  · exact e
  · have := hR c c' (by omega) (by omega) e a1 b1 (by rw [a3, b3]) (by rw [a2, b2])
    omega
theorem onS_tkn {s t : Nat → Nat} (hS : GoodS s) {d q r c : Nat} (hc : c < s 3) (h : onS t d q r c = true) : tkn s t r d q c = true := by
  obtain ⟨h1, h2, h3, h4⟩ := onS_iff.mp h
  have := (hS.ln hc).1
  unfold tkn
  simp only [Bool.and_eq_true, beq_iff_eq, decide_eq_true_eq]
  exact ⟨⟨⟨h1, h4⟩, h2⟩, by omega, by omega⟩
theorem tkn_onS {s t : Nat → Nat} {d q r c : Nat} (h : tkn s t r d q c = true) (h4 : cs t c 4 = q) : onS t d q r c = true := by
  unfold tkn at h
  simp only [Bool.and_eq_true, beq_iff_eq, decide_eq_true_eq] at h
  obtain ⟨⟨⟨a1, a2⟩, a3⟩, a4, a5⟩ := h
  exact onS_iff.mpr ⟨a1, a3, h4, a2⟩
/-! how much is printed -/
def bef (t : Nat → Nat) (d q r c : Nat) : Bool := hrg t c && (cs t c 3 == d && (decide (cs t c 4 < q) || (cs t c 4 == q && decide (cs t c 5 < r))))
theorem bef_iff {t : Nat → Nat} {d q r c : Nat} : bef t d q r c = true ↔ hrg t c = true ∧ cs t c 3 = d ∧ (cs t c 4 < q ∨ (cs t c 4 = q ∧ cs t c 5 < r)) := by
  unfold bef
  simp only [Bool.and_eq_true, Bool.or_eq_true, beq_iff_eq, decide_eq_true_eq]
theorem cntM {P Q : Nat → Bool} : ∀ n, (∀ i, i < n → P i = true → Q i = true) → cnt P n ≤ cnt Q n
  | 0, _ => Nat.le_refl _
  | n + 1, h => by
    have ih := cntM n (fun i hi => h i (by omega))
    have hn := h n (by omega)
    rw [cnt_succ, cnt_succ]
    cases e : P n with
    | false =>
      have := bn_le (Q n)
      show cnt P n + bn false ≤ _
      unfold bn
      simp only [Bool.false_eq_true, if_false]
      omega
    | true => rw [hn e]; omega
theorem cntL {P Q : Nat → Bool} {c : Nat} : ∀ n, (∀ i, i < n → P i = true → Q i = true) → c < n → P c = false → Q c = true → cnt P n + 1 ≤ cnt Q n
  | 0, _, hc, _, _ => by omega
  | n + 1, h, hc, hp, hq => by
    rw [cnt_succ, cnt_succ]
    by_cases e : c = n
    · have ih := cntM n (fun i hi => h i (by omega))
      subst e
      rw [hp, hq]
      unfold bn
      simp only [Bool.false_eq_true, if_false, if_true]
      omega
    · have ih := cntL n (fun i hi => h i (by omega)) (by omega) hp hq
      have hn := h n (by omega)
      cases e2 : P n with
      | false =>
        unfold bn
        simp only [Bool.false_eq_true, if_false]
        omega
      | true => rw [hn e2]; omega
theorem pr_len {s t : Nat → Nat} {nm : Nat → Nat → List Nat} (hS : GoodS s) (hT : GoodT s t) (hn : ∀ k i, k < 4 → i < s k → NmOK (nm k i)) {d : Nat} : ∀ q r, (prA s t nm d q ++ prR s t nm d q r).length ≤ 29 * cnt (bef t d q r) (s 3)
  | 0, 0 => by simp [prA, prR]
  | q + 1, 0 => by
    have ih := pr_len hS hT hn (d := d) q (s 0)
    have := cntM (P := bef t d q (s 0)) (Q := bef t d (q + 1) 0) (s 3) (fun i hi h => by
      obtain ⟨h1, h2, h3⟩ := bef_iff.mp h
      exact bef_iff.mpr ⟨h1, h2, by omega⟩)
    rw [prA, prR, List.append_nil]
    omega
  | q, r + 1 => by
    have ih := pr_len hS hT hn (d := d) q r
    have mono : ∀ i, i < s 3 → bef t d q r i = true → bef t d q (r + 1) i = true := fun i hi h => by
      obtain ⟨h1, h2, h3⟩ := bef_iff.mp h
      exact bef_iff.mpr ⟨h1, h2, by omega⟩
    rw [prR, ← List.append_assoc, List.length_append]
    unfold pcL
    cases e : fstF (onS t d q r) 0 (s 3) with
    | none =>
      have := cntM (s 3) mono
      show (prA s t nm d q ++ prR s t nm d q r).length + 0 ≤ _
      omega
    | some c =>
      obtain ⟨p1, p2, p3⟩ := fstF_p _ _ _ e
      obtain ⟨o1, o2, o3, o4⟩ := onS_iff.mp p3
      have hc : c < s 3 := by omega
      have h12 := hS.1.2.2.2
      have g := hT.hr (i := c) (by omega) o1
      have := cntL (c := c) (s 3) mono hc (by
        cases eb : bef t d q r c with
        | false => rfl
        | true =>
          have := (bef_iff.mp eb).2.2
          omega) (bef_iff.mpr ⟨o1, o2, by omega⟩)
      have ll := lnT_len (t := t) (nm := nm) (c := c) (hn 0 _ (by omega) g.2.2.2.1).2.1 (hn 3 _ (by omega) hc).2.1 (hn 1 _ (by omega) g.2.2.2.2).2.1
      show (prA s t nm d q ++ prR s t nm d q r).length + (lnT t nm c).length ≤ _
      omega
theorem pr_room {s t : Nat → Nat} {nm : Nat → Nat → List Nat} (hS : GoodS s) (hT : GoodT s t) (hn : ∀ k i, k < 4 → i < s k → NmOK (nm k i)) {d q r c : Nat} (hc : c < s 3) (h : onS t d q r c = true) : (prA s t nm d q ++ prR s t nm d q r).length + 29 ≤ 348 := by
  have h1 := pr_len hS hT hn (d := d) q r
  obtain ⟨o1, o2, o3, o4⟩ := onS_iff.mp h
  have := cntL (P := bef t d q r) (Q := bef t d q (r + 1)) (c := c) (s 3) (fun i hi h => by
    obtain ⟨h1, h2, h3⟩ := bef_iff.mp h
    exact bef_iff.mpr ⟨h1, h2, by omega⟩) hc (by
      cases eb : bef t d q r c with
      | false => rfl
      | true =>
        have := (bef_iff.mp eb).2.2
        omega) (bef_iff.mpr ⟨o1, o2, by omega⟩)
  have h3 := cnt_le (p := bef t d q (r + 1)) (s 3)
  have := hS.1.2.2.2
  omega
/-! the class's loops -/
theorem x_roomsL {w : Wd} {b : Nat} {s t : Nat → Nat} {nm : Nat → Nat → List Nat} (h : PX w b s t nm) (hR : RmOK s t) (hn : ∀ k i, k < 4 → i < s k → NmOK (nm k i)) {d q : Nat} (hd : d < 600) (hq : q < 8) (ho : OLx w (prA s t nm d q)) {k : Int32 → Int32 → Int32 → Wd → Option ((Int32 ⊕ Nat) × Wd)} : ∃ w', f_X12_printDay_L20 Kc 0 k fu (nI d) (nI q) (nI 0) w = k (nI d) (nI q) (nI (s 0)) w' ∧ OLx w' (prA s t nm d (q + 1)) ∧ Ofi SOx AOx w w' := by
  have hS := h.1.gs
  have hT := h.1.gt
  have h03 := hS.1.1
  have h12 := hS.1.2.2.2
  refine loop_q (fun f r w1 => f_X12_printDay_L20 Kc 0 k f (nI d) (nI q) (nI r) w1) (fun r w1 => OLx w1 (prA s t nm d q ++ prR s t nm d q r) ∧ Ofi SOx AOx w w1) (fun z => ∃ w', z = k (nI d) (nI q) (nI (s 0)) w' ∧ OLx w' (prA s t nm d (q + 1)) ∧ Ofi SOx AOx w w') (s 0) (fun f w1 hI => ?_) (fun f r w1 hr hI ih => ?_) fu 0 w ⟨by rw [prR, List.append_nil]; exact ho, Ofi.rf⟩ (by omega) (fu_lt (by omega))
  · try dsimp only
    have hx := (h.ofi hI.2).1
    rw [f_X12_printDay_L20, x1205 hx.1, Option.bind_some, hx.su, Option.bind_some, show f_X9_size Kc b 0 w1 = some (nI (s 0), w1) from x_size hx (k := 0) (by omega), Option.bind_some]
    try dsimp only
    rw [if_le_t (by omega) (by omega) (Nat.le_refl _)]
    exact ⟨w1, rfl, hI.1, hI.2⟩
  · try dsimp only at ih ⊢
    have h1 := h.ofi hI.2
    have hx := h1.1
    rw [f_X12_printDay_L20, x1205 hx.1, Option.bind_some, hx.su, Option.bind_some, show f_X9_size Kc b 0 w1 = some (nI (s 0), w1) from x_size hx (k := 0) (by omega), Option.bind_some]
    try dsimp only
    rw [if_le_f (by omega) (by omega) hr, x1205 hx.1, Option.bind_some, x_caseTaking hx (r := r) (d := d) (q := q) (by omega) (by omega) (by omega), Option.bind_some, show nI r + 1 = nI (r + 1) from nI_add r 1]
    try dsimp only
    cases e : fstF (tkn s t r d q) 0 (s 3) with
    | none =>
      have e2 : fstF (onS t d q r) 0 (s 3) = none := by
        cases e3 : fstF (onS t d q r) 0 (s 3) with
        | none => rfl
        | some c =>
          obtain ⟨p1, p2, p3⟩ := fstF_p _ _ _ e3
          have := fst_none e (k := c) (by omega) (by omega)
          rw [onS_tkn hS (by omega) p3] at this
          cases this
      rw [show oI none = -1 from rfl, if_pos rfl]
      refine ih w1 ⟨?_, hI.2⟩
      rw [prR]
      unfold pcL
      rw [e2, List.append_nil]
      exact hI.1
    | some c =>
      obtain ⟨p1, p2, p3⟩ := fstF_p _ _ _ e
      have hc : c < s 3 := by omega
      have hrg' : hrg t c = true := by
        unfold tkn at p3
        simp only [Bool.and_eq_true] at p3
        exact p3.1.1.1
      have g := hT.hr (i := c) (by omega) hrg'
      have l1 := hS.ln hc
      rw [show oI (some c) = nI c from rfl, if_neg (show ¬ nI c = -1 from fun z => neg1_eq (a := c) (by omega) z.symm), x1205 hx.1, Option.bind_some, hx.pg, Option.bind_some]
      try dsimp only
      rw [ixa_n (by omega) (by omega), Option.bind_some, hx.pe (by omega), Option.bind_some, hx.p3 (by omega) hrg']
      by_cases e4 : cs t c 4 = q
      · have on := tkn_onS p3 e4
        have e2 : fstF (onS t d q r) 0 (s 3) = some c := by
          cases e3 : fstF (onS t d q r) 0 (s 3) with
          | none =>
            have := fst_none e3 (k := c) (by omega) (by omega)
            rw [on] at this
            cases this
          | some c' =>
            obtain ⟨y1, y2, y3⟩ := fstF_p _ _ _ e3
            rw [one_tkn hS hT hR (onS_tkn hS (by omega) y3) p3 (by omega) hc]
        obtain ⟨w2, z2, o2, t2⟩ := x_printHearing h1 hn hI.1 hc hrg' (pr_room hS hT hn hc on)
        rw [if_eq_t e4, z2, Option.bind_some]
        refine ih w2 ⟨?_, hI.2.trans t2⟩
        rw [prR]
        unfold pcL
        rw [e2, ← List.append_assoc]
        exact o2
      · have e2 : fstF (onS t d q r) 0 (s 3) = none := by
          cases e3 : fstF (onS t d q r) 0 (s 3) with
          | none => rfl
          | some c' =>
            obtain ⟨y1, y2, y3⟩ := fstF_p _ _ _ e3
            have := one_tkn hS hT hR (onS_tkn hS (by omega) y3) p3 (by omega) hc
            rw [← this] at e4
            exact absurd (onS_iff.mp y3).2.2.1 e4
        rw [if_eq_f (by omega) (by omega) e4]
        refine ih w1 ⟨?_, hI.2⟩
        rw [prR]
        unfold pcL
        rw [e2, List.append_nil]
        exact hI.1
theorem x_slotsL {w : Wd} {b : Nat} {s t : Nat → Nat} {nm : Nat → Nat → List Nat} (h : PX w b s t nm) (hR : RmOK s t) (hn : ∀ k i, k < 4 → i < s k → NmOK (nm k i)) {d : Nat} (hd : d < 600) (ho : OLx w []) : ∃ w', f_X12_printDay_L12 Kc 0 (fun v1_12 v2_12 w4 => some (.inl (wI w4 1215 0), w4)) fu (nI d) (nI 0) w = some (.inl (nI (prA s t nm d 8).length), w') ∧ OLx w' (prA s t nm d 8) ∧ Ofi SOx AOx w w' := by
  refine loop_q (fun f q w1 => f_X12_printDay_L12 Kc 0 (fun v1_12 v2_12 w4 => some (.inl (wI w4 1215 0), w4)) f (nI d) (nI q) w1) (fun q w1 => OLx w1 (prA s t nm d q) ∧ Ofi SOx AOx w w1) (fun z => ∃ w', z = some (.inl (nI (prA s t nm d 8).length), w') ∧ OLx w' (prA s t nm d 8) ∧ Ofi SOx AOx w w') 8 (fun f w1 hI => ?_) (fun f q w1 hq hI ih => ?_) fu 0 w ⟨ho, Ofi.rf⟩ (by omega) (fu_lt (by omega))
  · try dsimp only
    rw [f_X12_printDay_L12, show (8 : Int32) = nI 8 from rfl, if_le_t (by omega) (by omega) (Nat.le_refl _)]
    exact ⟨w1, by rw [hI.1.1], hI.1, hI.2⟩
  · try dsimp only at ih ⊢
    obtain ⟨w2, e2, o2, t2⟩ := x_roomsL (h.ofi hI.2) hR hn hd hq hI.1 (k := fun v1_20 v2_20 v3_20 w6 => f_X12_printDay_L12 Kc 0 (fun v1_12 v2_12 w4 => some (.inl (wI w4 1215 0), w4)) f v1_20 (v2_20 + 1) w6)
    rw [f_X12_printDay_L12, show (8 : Int32) = nI 8 from rfl, if_le_f (by omega) (by omega) hq, show (0 : Int32) = nI 0 from rfl, e2, show nI q + 1 = nI (q + 1) from nI_add q 1]
    exact ih w2 ⟨o2, hI.2.trans t2⟩
