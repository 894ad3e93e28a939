variable {X : Kd}
def anyF (p : Nat → Bool) : Nat → Nat → Bool
  | _, 0 => false
  | c, d + 1 => p c || anyF p (c + 1) d
theorem anyF_iff {p : Nat → Bool} : ∀ d c, anyF p c d = true ↔ ∃ k, c ≤ k ∧ k < c + d ∧ p k = true
  | 0, c => by simp [anyF]; intro k h1 h2; omega
  | d + 1, c => by
    simp only [anyF, Bool.or_eq_true, anyF_iff d (c + 1)]
    constructor
    · rintro (h | ⟨k, h1, h2, h3⟩)
      · exact ⟨c, Nat.le_refl _, by omega, h⟩
      · exact ⟨k, by omega, by omega, h3⟩
    · rintro ⟨k, h1, h2, h3⟩
      by_cases e : k = c
      · subst e; exact Or.inl h3
      · exact Or.inr ⟨k, by omega, by omega, h3⟩
def fstF (p : Nat → Bool) : Nat → Nat → Option Nat
  | _, 0 => none
  | c, d + 1 => if p c = true then some c else fstF p (c + 1) d
theorem loop_any {α : Type _} (F : Nat → Nat → α) (p : Nat → Bool) (n : Nat) (R1 R0 : α) (hz : ∀ f, F (f + 1) n = R0) (h1 : ∀ f c, c < n → p c = true → F (f + 1) c = R1) (h2 : ∀ f c, c < n → p c = false → F (f + 1) c = F f (c + 1)) : ∀ d c f, c + d = n → d < f → F f c = if anyF p c d = true then R1 else R0 := by
  intro d
  induction d with
  | zero => intro c f hc hf; obtain ⟨g, rfl⟩ : ∃ g, f = g + 1 := ⟨f - 1, by omega⟩; rw [show c = n by omega, hz]; simp [anyF]
  | succ d ih =>
    intro c f hc hf
    obtain ⟨g, rfl⟩ : ∃ g, f = g + 1 := ⟨f - 1, by omega⟩
    cases e : p c with
    | true => rw [h1 g c (by omega) e]; simp [anyF, e]
    | false => rw [h2 g c (by omega) e, ih (c + 1) g (by omega) (by omega)]; simp [anyF, e]
theorem loop_fst {α : Type _} (F : Nat → Nat → α) (p : Nat → Bool) (n : Nat) (R1 : Nat → α) (R0 : α) (hz : ∀ f, F (f + 1) n = R0) (h1 : ∀ f c, c < n → p c = true → F (f + 1) c = R1 c) (h2 : ∀ f c, c < n → p c = false → F (f + 1) c = F f (c + 1)) : ∀ d c f, c + d = n → d < f → F f c = (match fstF p c d with | some i => R1 i | none => R0) := by
  intro d
  induction d with
  | zero => intro c f hc hf; obtain ⟨g, rfl⟩ : ∃ g, f = g + 1 := ⟨f - 1, by omega⟩; rw [show c = n by omega, hz]; simp [fstF]
  | succ d ih =>
    intro c f hc hf
    obtain ⟨g, rfl⟩ : ∃ g, f = g + 1 := ⟨f - 1, by omega⟩
    cases e : p c with
    | true => rw [h1 g c (by omega) e]; simp [fstF, e]
    | false => rw [h2 g c (by omega) e, ih (c + 1) g (by omega) (by omega)]; simp [fstF, e]
/-- a field of a case -/
def cs (t : Nat → Nat) (i k : Nat) : Nat := t (46 + 27 * i + k)
def isHol (t : Nat → Nat) (d : Nat) : Bool := anyF (fun k => t (2 + k) == d) 0 (t 1)
def wkg (t : Nat → Nat) (d : Nat) : Bool := decide (d % 7 < 5) && !isHol t d
def hrg (t : Nat → Nat) (i : Nat) : Bool := cs t i 0 == 1 || cs t i 0 == 2
def wkIn (t : Nat → Nat) (a : Nat) : Nat → Nat := sm (fun i => bn (wkg t (a + i)))
def GoodS (s : Nat → Nat) : Prop := (s 0 ≤ 3 ∧ s 1 ≤ 6 ∧ s 2 ≤ 12 ∧ s 3 ≤ 12) ∧ (∀ r, r < s 0 → s (4 + r) ≤ s (7 + r) ∧ s (7 + r) ≤ 7) ∧
  (∀ o, o < s 1 → s (10 + o) ≤ 3 ∧ ∀ k, k < s (10 + o) → s (16 + 6 * o + 2 * k) ≤ s (17 + 6 * o + 2 * k) ∧ s (17 + 6 * o + 2 * k) ≤ 599) ∧
  (∀ i, i < s 2 → s (52 + i) ≤ 599 ∧ s (64 + i) ≤ s (76 + i) ∧ s (76 + i) ≤ 7) ∧
  (∀ i, i < s 3 → s (88 + i) ≤ 99 ∧ (1 ≤ s (100 + i) ∧ s (100 + i) ≤ 4) ∧ (1 ≤ s (112 + i) ∧ s (112 + i) ≤ 60) ∧ s (124 + i) ≤ 1 ∧ s (136 + i) < 2 ^ s 2 ∧ s (148 + i) < 2 ^ s 3 ∧ (s (148 + i)).testBit i = false) ∧
  (∀ i j, i < s 3 → j < s 3 → (s (148 + i)).testBit j = (s (148 + j)).testBit i) ∧ (∀ k, k < 4 → s (160 + k) ≤ 30) ∧ s 164 ≤ 60
def GoodT (s t : Nat → Nat) : Prop := t 0 < 600 ∧ t 1 ≤ 20 ∧ (∀ k, k < t 1 → t (2 + k) < 600) ∧ (∀ j k, j < t 1 → k < t 1 → t (2 + j) = t (2 + k) → j = k) ∧ (∀ i, i < 12 → t (22 + i) ≤ 600) ∧ (∀ i, i < 12 → t (34 + i) < 2 ^ s 1) ∧
  (∀ i, i < 12 → cs t i 0 ≤ 3 ∧ cs t i 1 ≤ 30 * cs t i 2 ∧ cs t i 2 ≤ 5 ∧ (hrg t i = true → i < s 3 ∧ cs t i 3 < 600 ∧ cs t i 4 + s (100 + i) ≤ 8 ∧ cs t i 5 < s 0 ∧ cs t i 6 < s 1))
/-- a room's slots -/
def msk (lo hi : Nat) : Nat := 2 ^ (hi + 1) - 2 ^ lo
/-- the class's setup at b -/
def RepU (w : Wd) (b : Nat) (s : Nat → Nat) : Prop := (∀ k, k < 4 → wI w 401 (b + 14 + 2 * k) = nI (s k)) ∧ (∀ r, r < s 0 → aI w (b + 2) r = nI (msk (s (4 + r)) (s (7 + r)))) ∧ (∀ o, o < s 1 → aI w (b + 3) o = nI (s (10 + o))) ∧
  (∀ o, o < s 1 → ∀ k, k < s (10 + o) → aI w (b + 4) (3 * o + k) = nI (s (16 + 6 * o + 2 * k)) ∧ aI w (b + 5) (3 * o + k) = nI (s (17 + 6 * o + 2 * k))) ∧
  (∀ i, i < s 2 → aI w (b + 6) i = nI (s (52 + i)) ∧ aI w (b + 8) i = nI (s (64 + i)) ∧ aI w (b + 9) i = nI (s (76 + i))) ∧
  (∀ i, i < s 3 → wI w 300 (b + 22 + i) = nI (s (88 + i)) ∧ wI w 301 (b + 22 + i) = nI (s (100 + i)) ∧ wI w 302 (b + 22 + i) = nI (s (112 + i)) ∧ wZ w 303 (b + 22 + i) = (s (124 + i) == 1) ∧ wI w 304 (b + 22 + i) = nI (s (136 + i)) ∧ wI w 305 (b + 22 + i) = nI (s (148 + i))) ∧
  (∀ k, k < 4 → aI w (b + 13) k = nI (s (160 + k))) ∧ wI w 913 b = nI (s 164)
/-- the class's state at a -/
def RepX (w : Wd) (a : Nat) (s t : Nat → Nat) : Prop := (wI w 1001 a = nI (t 0) ∧ wI w 201 (a + 1) = nI (t 1)) ∧ (∀ d, d < 600 → ushr (aI w (a + 2) (d / 32)) (nI (d % 32)) &&& nI 1 = nI (bn (isHol t d))) ∧ (∀ i, i < s 2 → aI w (a + 3) i = nI (t (22 + i)) - nI 1) ∧ (∀ i, i < 12 → aI w (a + 4) i = nI (t (34 + i))) ∧
  (∀ i, i < 12 → wI w 700 (a + 6 + 2 * i) = nI (cs t i 0) ∧ wI w 701 (a + 6 + 2 * i) = nI (cs t i 1) ∧ wI w 706 (a + 6 + 2 * i) = nI (cs t i 2) ∧
    (hrg t i = true → wI w 702 (a + 6 + 2 * i) = nI (cs t i 3) ∧ wI w 703 (a + 6 + 2 * i) = nI (cs t i 4) ∧ wI w 704 (a + 6 + 2 * i) = nI (cs t i 5) ∧ wI w 705 (a + 6 + 2 * i) = nI (cs t i 6)) ∧
    (hrg t i = false → wI w 702 (a + 6 + 2 * i) = -nI 1 ∧ wI w 703 (a + 6 + 2 * i) = -nI 1 ∧ wI w 704 (a + 6 + 2 * i) = -nI 1 ∧ wI w 705 (a + 6 + 2 * i) = -nI 1) ∧
    (∀ k, k < 4 * cs t i 2 → aI w (a + 7 + 2 * i) k = nI (cs t i (7 + k))))
def HX (w : Wd) (a b : Nat) (s t : Nat → Nat) : Prop := FX w ∧ (a ∈ SA ∧ b ∈ SU ∧ wR w 1000 a = some b) ∧ RepU w b s ∧ RepX w a s t ∧ GoodS s ∧ GoodT s t
theorem HX.su {w : Wd} {a b : Nat} {s t : Nat → Nat} (h : HX w a b s t) : chk (Kx X) 8 (wR w 1000 a) = some b := ck h.2.1.2.2 (kSU h.2.1.2.1)
