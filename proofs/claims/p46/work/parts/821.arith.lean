variable {X : Kd}
theorem il (n : Nat) : (@OfNat.ofNat Int32 n _) = nI (@OfNat.ofNat Nat n (instOfNatNat n)) := congrArg Int32.ofNat (Eq.refl n)
theorem if_le_t {α : Sort _} {a b : Nat} {x y : α} (ha : a < 2 ^ 31) (hb : b < 2 ^ 31) (h : a ≤ b) : (if nI a ≤ nI b then x else y) = x := if_pos ((nI_leI ha hb).mpr h)
theorem if_le_f {α : Sort _} {a b : Nat} {x y : α} (ha : a < 2 ^ 31) (hb : b < 2 ^ 31) (h : b < a) : (if nI a ≤ nI b then x else y) = y := if_neg (fun q => absurd ((nI_leI ha hb).mp q) (Nat.not_le.mpr h))
theorem if_lt_t {α : Sort _} {a b : Nat} {x y : α} (ha : a < 2 ^ 31) (hb : b < 2 ^ 31) (h : a < b) : (if nI a < nI b then x else y) = x := if_pos ((nI_ltI ha hb).mpr h)
theorem if_lt_f {α : Sort _} {a b : Nat} {x y : α} (ha : a < 2 ^ 31) (hb : b < 2 ^ 31) (h : b ≤ a) : (if nI a < nI b then x else y) = y := if_neg (fun q => absurd ((nI_ltI ha hb).mp q) (Nat.not_lt.mpr h))
theorem if_eq_t {α : Sort _} {a b : Nat} {x y : α} (h : a = b) : (if nI a = nI b then x else y) = x := if_pos (by rw [h])
theorem if_eq_f {α : Sort _} {a b : Nat} {x y : α} (ha : a < 2 ^ 31) (hb : b < 2 ^ 31) (h : a ≠ b) : (if nI a = nI b then x else y) = y := if_neg (fun q => h ((nI_eq ha hb).mp q))
theorem b2i_t : b2i true = 1 := rfl
theorem b2i_f : b2i false = 0 := rfl
theorem ifb {α : Sort _} {b : Bool} {x y : α} : (if b2i b = 0 then x else y) = if b = true then y else x := by cases b <;> rfl
theorem ifb' {α : Sort _} {b : Bool} {x y : α} : (if b2i b = nI 0 then x else y) = if b = true then y else x := by cases b <;> rfl
theorem ixa_n {n N : Nat} (h : n < N) (hN : N < 2 ^ 31) : ixa (nI n) N = some n := by
  unfold ixa
  rw [if_neg (nI_in h hN), nI_clamp (by omega)]
theorem neg1_eq {a : Nat} (h : a < 2 ^ 31) : ¬ (-nI 1 = nI a) := by
  intro q
  have h1 := congrArg Int32.toInt q
  rw [nI_toInt h] at h1
  have h2 : (-nI 1 : Int32).toInt = -1 := by decide
  omega
theorem neg1_lt {a : Nat} (h : a < 2 ^ 31) : -nI 1 < nI a := by
  rw [Int32.lt_iff_toInt_lt, nI_toInt h]
  have h2 : (-nI 1 : Int32).toInt = -1 := by decide
  omega
theorem neg1_nle {a : Nat} (h : a < 2 ^ 31) : ¬ nI a ≤ -nI 1 := by
  rw [Int32.le_iff_toInt_le, nI_toInt h]
  have h2 : (-nI 1 : Int32).toInt = -1 := by decide
  omega
theorem nI_m1 (n : Nat) : nI (n + 1) + -nI 1 = nI n := pk_m1 n
theorem nI_sub1 {n : Nat} (h : 0 < n) : nI n + -nI 1 = nI (n - 1) := by
  obtain ⟨k, rfl⟩ : ∃ k, n = k + 1 := ⟨n - 1, by omega⟩
  exact nI_m1 k
theorem sub_nI {a b : Nat} (h : b ≤ a) : nI a - nI b = nI (a - b) := pk_sub h
theorem rem_nI {a d : Nat} (ha : a < 2 ^ 31) (h0 : 0 < d) (hd : d < 2 ^ 31) : nI a - nI a / nI d * nI d = nI (a % d) := pk_rem ha h0 hd
theorem div_nI {a d : Nat} (ha : a < 2 ^ 31) (h0 : 0 < d) (hd : d < 2 ^ 31) : nI a / nI d = nI (a / d) := pk_div ha h0 hd
/-- a loop that counts up -/
theorem loop_g {α : Type _} (F : Nat → Nat → α) (G : Nat → α) (n : Nat) (hz : ∀ f, F (f + 1) n = G n) (hs : ∀ f c, c < n → (F f (c + 1) = G (c + 1)) → F (f + 1) c = G c) : ∀ f c, c ≤ n → n - c < f → F f c = G c := by
  intro f
  induction f with
  | zero => intro c _ h; omega
  | succ f ih =>
    intro c hc hf
    by_cases e : c = n
    · subst e; exact hz f
    · exact hs f c (by omega) (ih (c + 1) (by omega) (by omega))
theorem fu_lt {n : Nat} (h : n < 1000000) : n < fu := h
/-- a sum, a count -/
def sm (g : Nat → Nat) : Nat → Nat
  | 0 => 0
  | n + 1 => sm g n + g n
theorem sm_le {g : Nat → Nat} {M : Nat} (h : ∀ i, g i ≤ M) : ∀ n, sm g n ≤ n * M
  | 0 => by simp [sm]
  | n + 1 => by have := sm_le h n; have := h n; simp only [sm]; rw [Nat.succ_mul]; omega
theorem sm_le' {g : Nat → Nat} {M : Nat} : ∀ n, (∀ i, i < n → g i ≤ M) → sm g n ≤ n * M
  | 0, _ => by simp [sm]
  | n + 1, h => by have := sm_le' n (fun i hi => h i (by omega)); have := h n (by omega); simp only [sm]; rw [Nat.succ_mul]; omega
theorem sm_congr {g g' : Nat → Nat} : ∀ n, (∀ i, i < n → g i = g' i) → sm g n = sm g' n
  | 0, _ => rfl
  | n + 1, h => by simp only [sm]; rw [sm_congr n (fun i hi => h i (by omega)), h n (by omega)]
def bn (b : Bool) : Nat := if b then 1 else 0
/-- the memory is the same but at some addresses -/
def Off (P : Nat → Prop) (w w' : Wd) : Prop := wR w' = wR w ∧ aR w' = aR w ∧ ∀ x, ¬ P x → (∀ f, wI w' f x = wI w f x) ∧ (∀ f, wZ w' f x = wZ w f x) ∧ (∀ f, wJ w' f x = wJ w f x) ∧ aI w' x = aI w x ∧ aJ w' x = aJ w x ∧ aD w' x = aD w x
theorem Off.rf {P : Nat → Prop} {w : Wd} : Off P w w := ⟨rfl, rfl, fun _ _ => ⟨fun _ => rfl, fun _ => rfl, fun _ => rfl, rfl, rfl, rfl⟩⟩
theorem Off.trans {P : Nat → Prop} {w w1 w2 : Wd} (h : Off P w w1) (h2 : Off P w1 w2) : Off P w w2 := ⟨h2.1.trans h.1, h2.2.1.trans h.2.1, fun x hx => by
  obtain ⟨a1, a2, a3, a4, a5, a6⟩ := h.2.2 x hx
  obtain ⟨b1, b2, b3, b4, b5, b6⟩ := h2.2.2 x hx
  exact ⟨fun f => (b1 f).trans (a1 f), fun f => (b2 f).trans (a2 f), fun f => (b3 f).trans (a3 f), b4.trans a4, b5.trans a5, b6.trans a6⟩⟩
theorem Off.mono {P P' : Nat → Prop} {w w1 : Wd} (h : Off P w w1) (hp : ∀ x, P x → P' x) : Off P' w w1 := ⟨h.1, h.2.1, fun x hx => h.2.2 x (fun q => hx (hp x q))⟩
theorem Off.FX {P : Nat → Prop} {w w1 : Wd} (h : Off P w w1) (hF : FX w) : FX w1 := hF.of h.1 h.2.1
theorem off_sI {P : Nat → Prop} {w : Wd} {f a : Nat} {v : Int32} (h : P a) : Off P w (sI w f a v) := ⟨rfl, rfl, fun x hx => by
  have e : x ≠ a := fun q => hx (q ▸ h)
  refine ⟨fun g => ?_, fun _ => rfl, fun _ => rfl, rfl, rfl, rfl⟩
  simp [wI, sI, up2, e]⟩
theorem off_sZ {P : Nat → Prop} {w : Wd} {f a : Nat} {v : Bool} (h : P a) : Off P w (sZ w f a v) := ⟨rfl, rfl, fun x hx => by
  have e : x ≠ a := fun q => hx (q ▸ h)
  refine ⟨fun _ => rfl, fun g => ?_, fun _ => rfl, rfl, rfl, rfl⟩
  simp [wZ, sZ, up2, e]⟩
theorem off_sJ {P : Nat → Prop} {w : Wd} {f a : Nat} {v : Int64} (h : P a) : Off P w (sJ w f a v) := ⟨rfl, rfl, fun x hx => by
  have e : x ≠ a := fun q => hx (q ▸ h)
  refine ⟨fun _ => rfl, fun _ => rfl, fun g => ?_, rfl, rfl, rfl⟩
  simp [wJ, sJ, up2, e]⟩
theorem off_tI {P : Nat → Prop} {w : Wd} {a i : Nat} {v : Int32} (h : P a) : Off P w (tI w a i v) := ⟨rfl, rfl, fun x hx => by
  have e : x ≠ a := fun q => hx (q ▸ h)
  refine ⟨fun _ => rfl, fun _ => rfl, fun _ => rfl, ?_, rfl, rfl⟩
  funext g
  simp [aI, tI, up2, e]⟩
theorem off_tJ {P : Nat → Prop} {w : Wd} {a i : Nat} {v : Int64} (h : P a) : Off P w (tJ w a i v) := ⟨rfl, rfl, fun x hx => by
  have e : x ≠ a := fun q => hx (q ▸ h)
  refine ⟨fun _ => rfl, fun _ => rfl, fun _ => rfl, rfl, ?_, rfl⟩
  funext g
  simp [aJ, tJ, up2, e]⟩
theorem off_tD {P : Nat → Prop} {w : Wd} {a i : Nat} {v : UInt64} (h : P a) : Off P w (tD w a i v) := ⟨rfl, rfl, fun x hx => by
  have e : x ≠ a := fun q => hx (q ▸ h)
  refine ⟨fun _ => rfl, fun _ => rfl, fun _ => rfl, rfl, rfl, ?_⟩
  funext g
  simp [aD, tD, up2, e]⟩
theorem off_tA {P : Nat → Prop} {w : Wd} {a : Nat} {g : Nat → Int32} (h : P a) : Off P w (tA w a g) := ⟨rfl, rfl, fun x hx => by
  have e : x ≠ a := fun q => hx (q ▸ h)
  refine ⟨fun _ => rfl, fun _ => rfl, fun _ => rfl, ?_, rfl, rfl⟩
  simp [aI, tA, e]⟩
theorem wI_sI {w : Wd} {f a g x : Nat} {v : Int32} : wI (sI w f a v) g x = if g = f ∧ x = a then v else wI w g x := rfl
theorem wI_tI {w : Wd} {a i g x : Nat} {v : Int32} : wI (tI w a i v) g x = wI w g x := rfl
theorem wI_tA {w : Wd} {a g x : Nat} {f : Nat → Int32} : wI (tA w a f) g x = wI w g x := rfl
theorem aI_sI {w : Wd} {f a x : Nat} {v : Int32} : aI (sI w f a v) x = aI w x := rfl
theorem aI_tI {w : Wd} {a i x j : Nat} {v : Int32} : aI (tI w a i v) x j = if x = a ∧ j = i then v else aI w x j := rfl
theorem aI_tA' {w : Wd} {a x : Nat} {g : Nat → Int32} : aI (tA w a g) x = if x = a then g else aI w x := rfl

