variable {X : Kd}
def cdF (b : Int32) : Nat := if b.toInt < 0 then (b.toInt + 256).toNat else b.toInt.toNat
theorem neg_d : ∀ m, m < 129 → 1 ≤ m → ((-nI m) &&& 255 = nI (256 - m) ∧ (-nI m : Int32).toInt = -(m : Int)) := by decide +kernel
theorem pos_d : ∀ m, m < 128 → (nI m &&& 255 = nI m) := by decide +kernel
theorem byte_cs {b : Int32} (h : -128 ≤ b.toInt ∧ b.toInt ≤ 127) : cdF b < 256 ∧ b &&& 255 = nI (cdF b) ∧ (cdF b < 128 → b = nI (cdF b)) ∧ (128 ≤ cdF b → b.toInt < 0) := by
  unfold cdF
  by_cases e : b.toInt < 0
  · rw [if_pos e]
    have hm : b = -nI (-b.toInt).toNat := by
      apply Int32.toInt_inj.mp
      have := (neg_d (-b.toInt).toNat (by omega) (by omega)).2
      rw [this]
      omega
    have h2 := (neg_d (-b.toInt).toNat (by omega) (by omega)).1
    refine ⟨by omega, ?_, fun q => by omega, fun _ => e⟩
    rw [← hm] at h2
    rw [h2, show 256 - (-b.toInt).toNat = (b.toInt + 256).toNat by omega]
  · rw [if_neg e]
    have hm : b = nI b.toInt.toNat := by
      apply Int32.toInt_inj.mp
      rw [nI_toInt (by omega)]
      omega
    have h2 := pos_d b.toInt.toNat (by omega)
    refine ⟨by omega, ?_, fun _ => hm, fun q => by omega⟩
    rw [← hm] at h2 ⊢
    exact h2
theorem byte_eq {b : Int32} (h : -128 ≤ b.toInt ∧ b.toInt ≤ 127) {c : Nat} (hc : c < 128) : b = nI c ↔ cdF b = c := by
  obtain ⟨h1, h2, h3, h4⟩ := byte_cs h
  constructor
  · intro q
    have : b.toInt = (c : Int) := by rw [q, nI_toInt (by omega)]
    unfold cdF
    rw [if_neg (by omega)]
    omega
  · intro q
    rw [h3 (by omega), q]
def ltr (c : Nat) : Bool := decide (97 ≤ c ∧ c ≤ 122)
def dgt (c : Nat) : Bool := decide (48 ≤ c ∧ c ≤ 57)
def spc (c : Nat) : Bool := c == 32 || c == 10
theorem x_isLetter {K : Kd} {w : Wd} {b : Int32} (h : -128 ≤ b.toInt ∧ b.toInt ≤ 127) : f_X12_isLetter K b w = some (ltr (cdF b), w) := by
  obtain ⟨h1, h2, h3, h4⟩ := byte_cs h
  unfold f_X12_isLetter ltr
  by_cases e1 : b < 97
  · have := (ltn (n := 97) (by omega)).mp e1
    rw [if_pos e1, decide_eq_false (fun q => by
      by_cases e : cdF b < 128
      · have q2 := congrArg Int32.toInt (h3 e)
        rw [nI_toInt (by omega)] at q2
        omega
      · omega)]
  · have e2 : ¬ b.toInt < ((97 : Nat) : Int) := fun q => e1 ((ltn (n := 97) (by omega)).mpr q)
    have e3 : cdF b < 128 := by
      by_cases e : cdF b < 128
      · exact e
      · have := h4 (by omega); omega
    have e4 : b.toInt = (cdF b : Int) := by
      have := h3 e3
      have q := congrArg Int32.toInt this
      rw [nI_toInt (by omega)] at q
      exact q
    rw [if_neg e1]
    by_cases e5 : 122 < b
    · have := (nlt (n := 122) (by omega)).mp e5
      rw [if_pos e5, decide_eq_false (by omega)]
    · have e6 : ¬ ((122 : Nat) : Int) < b.toInt := fun q => e5 ((nlt (n := 122) (by omega)).mpr q)
      rw [if_neg e5, decide_eq_true (by omega)]
theorem x_isDigit {K : Kd} {w : Wd} {b : Int32} (h : -128 ≤ b.toInt ∧ b.toInt ≤ 127) : f_X8_isDigit K b w = some (dgt (cdF b), w) := by
  obtain ⟨h1, h2, h3, h4⟩ := byte_cs h
  unfold f_X8_isDigit dgt
  by_cases e1 : b < 48
  · have := (ltn (n := 48) (by omega)).mp e1
    rw [if_pos e1, decide_eq_false (fun q => by
      by_cases e : cdF b < 128
      · have q2 := congrArg Int32.toInt (h3 e)
        rw [nI_toInt (by omega)] at q2
        omega
      · omega)]
  · have e2 : ¬ b.toInt < ((48 : Nat) : Int) := fun q => e1 ((ltn (n := 48) (by omega)).mpr q)
    have e3 : cdF b < 128 := by
      by_cases e : cdF b < 128
      · exact e
      · have := h4 (by omega); omega
    have e4 : b.toInt = (cdF b : Int) := by
      have := h3 e3
      have q := congrArg Int32.toInt this
      rw [nI_toInt (by omega)] at q
      exact q
    rw [if_neg e1]
    by_cases e5 : 57 < b
    · have := (nlt (n := 57) (by omega)).mp e5
      rw [if_pos e5, decide_eq_false (by omega)]
    · have e6 : ¬ ((57 : Nat) : Int) < b.toInt := fun q => e5 ((nlt (n := 57) (by omega)).mpr q)
      rw [if_neg e5, decide_eq_true (by omega)]
/-- as far as something holds -/
def run (P : Nat → Bool) : Nat → Nat → Nat
  | 0, p => p
  | d + 1, p => if P p = true then run P d (p + 1) else p
theorem run_ge {P : Nat → Bool} : ∀ d p, p ≤ run P d p ∧ run P d p ≤ p + d
  | 0, p => ⟨Nat.le_refl _, Nat.le_refl _⟩
  | d + 1, p => by
    have := run_ge (P := P) d (p + 1)
    rw [run]
    split <;> omega
theorem run_in {P : Nat → Bool} : ∀ d p k, p ≤ k → k < run P d p → P k = true
  | 0, p, k, h1, h2 => by rw [run] at h2; omega
  | d + 1, p, k, h1, h2 => by
    rw [run] at h2
    by_cases e : P p = true
    · rw [if_pos e] at h2
      by_cases ek : k = p
      · rw [ek]; exact e
      · exact run_in d (p + 1) k (by omega) h2
    · rw [if_neg e] at h2; omega
theorem run_out {P : Nat → Bool} : ∀ d p, run P d p < p + d → P (run P d p) = false
  | 0, p, h => by rw [run] at h; omega
  | d + 1, p, h => by
    rw [run] at h ⊢
    by_cases e : P p = true
    · rw [if_pos e] at h ⊢
      exact run_out d (p + 1) (by omega)
    · rw [if_neg e]
      cases q : P p with
      | true => exact absurd q e
      | false => rfl
/-- where a token starts and ends -/
def skT (n : Nat) (bf : Nat → Int32) (p : Nat) : Nat := run (fun k => spc (cdF (bf k))) (n - p) p
def enT (n : Nat) (bf : Nat → Int32) (p : Nat) : Nat :=
  if n ≤ skT n bf p then skT n bf p else if ltr (cdF (bf (skT n bf p))) = true then run (fun k => ltr (cdF (bf k))) (n - skT n bf p) (skT n bf p)
  else if dgt (cdF (bf (skT n bf p))) = true then run (fun k => dgt (cdF (bf k))) (n - skT n bf p) (skT n bf p) else skT n bf p + 1
theorem skT_rg {n p : Nat} {bf : Nat → Int32} (hp : p ≤ n) : p ≤ skT n bf p ∧ skT n bf p ≤ n := by
  have := run_ge (P := fun k => spc (cdF (bf k))) (n - p) p
  unfold skT
  omega
theorem enT_rg {n p : Nat} {bf : Nat → Int32} (hp : p ≤ n) : skT n bf p ≤ enT n bf p ∧ enT n bf p ≤ n := by
  have h := skT_rg (bf := bf) hp
  have h1 := run_ge (P := fun k => ltr (cdF (bf k))) (n - skT n bf p) (skT n bf p)
  have h2 := run_ge (P := fun k => dgt (cdF (bf k))) (n - skT n bf p) (skT n bf p)
  unfold enT
  split
  · omega
  · split
    · omega
    · split <;> omega
/-- the letters from a place on -/
def lts (bf : Nat → Int32) (q d : Nat) : List Nat := (List.range d).map (fun j => cdF (bf (q + j)) - 96)
theorem lts_len {bf : Nat → Int32} {q d : Nat} : (lts bf q d).length = d := by unfold lts; simp
theorem lts_get {bf : Nat → Int32} {q d j : Nat} (h : j < d) : (lts bf q d).getD j 0 = cdF (bf (q + j)) - 96 := by
  unfold lts
  simp [List.getD, h]
theorem lts_succ {bf : Nat → Int32} {q d : Nat} : lts bf q (d + 1) = lts bf q d ++ [cdF (bf (q + d)) - 96] := by
  unfold lts
  rw [List.range_succ, List.map_append]
  rfl
def kwT : List (List Nat) := [[8, 15, 12, 9, 4, 1, 25], [18, 15, 15, 13], [19, 12, 15, 20, 19], [15, 6, 6, 9, 3, 5, 18], [15, 6, 6], [23, 9, 20, 14, 5, 19, 19], [4, 1, 25, 19], [3, 1, 19, 5], [6, 9, 12, 5, 4], [12, 9, 13, 9, 20], [3, 21, 19, 20, 15, 4, 25], [14, 5, 5, 4, 19], [2, 1, 18], [3, 15, 14, 6, 12, 9, 3, 20], [12, 5, 14, 7, 20, 8, 5, 14], [3, 1, 16]]
def kwL (i : Nat) : List Nat := kwT.getD i []
def kst (i : Nat) : Nat := ([0, 8, 13, 19, 27, 31, 39, 44, 49, 55, 61, 69, 75, 79, 88, 97, 101] : List Nat).getD i 0
theorem ch_d : ∀ i, i < 16 → (∀ j, j < (kwL i).length → True ∧ 1 ≤ (kwL i).getD j 0 ∧ (kwL i).getD j 0 ≤ 26) ∧ True ∧ kst (i + 1) = kst i + (kwL i).length + 1 ∧ kst i + (kwL i).length < 101 ∧ 1 ≤ (kwL i).length ∧ (kwL i).length ≤ 8 := by decide +kernel
