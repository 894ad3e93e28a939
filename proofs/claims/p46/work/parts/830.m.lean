variable {X : Kd}
theorem loop_q {σ : Type} (F : Nat → Nat → Wd → Option σ) (I : Nat → Wd → Prop) (Q : Option σ → Prop) (n : Nat) (hz : ∀ f w, I n w → Q (F (f + 1) n w)) (hs : ∀ f c w, c < n → I c w → (∀ w', I (c + 1) w' → Q (F f (c + 1) w')) → Q (F (f + 1) c w)) : ∀ f c w, I c w → c ≤ n → n - c < f → Q (F f c w) := by
  intro f
  induction f with
  | zero => intro c w _ _ h; omega
  | succ f ih =>
    intro c w hI hc hf
    by_cases e : c = n
    · subst e; exact hz f w hI
    · exact hs f c w (by omega) hI (fun w' h' => ih (c + 1) w' h' (by omega) (by omega))
/-- integer fields and integer arrays alone differ, and only there -/
def Ofi (S : Nat → Nat → Prop) (A : Nat → Prop) (w w' : Wd) : Prop := (wR w' = wR w ∧ aR w' = aR w ∧ wZ w' = wZ w ∧ wJ w' = wJ w ∧ aJ w' = aJ w ∧ aD w' = aD w) ∧ (∀ f x, ¬ S f x → wI w' f x = wI w f x) ∧ ∀ x, ¬ A x → aI w' x = aI w x
theorem Ofi.rf {S : Nat → Nat → Prop} {A : Nat → Prop} {w : Wd} : Ofi S A w w := ⟨⟨rfl, rfl, rfl, rfl, rfl, rfl⟩, fun _ _ _ => rfl, fun _ _ => rfl⟩
theorem Ofi.trans {S : Nat → Nat → Prop} {A : Nat → Prop} {w w1 w2 : Wd} (h : Ofi S A w w1) (k : Ofi S A w1 w2) : Ofi S A w w2 := ⟨⟨k.1.1.trans h.1.1, k.1.2.1.trans h.1.2.1, k.1.2.2.1.trans h.1.2.2.1, k.1.2.2.2.1.trans h.1.2.2.2.1, k.1.2.2.2.2.1.trans h.1.2.2.2.2.1, k.1.2.2.2.2.2.trans h.1.2.2.2.2.2⟩, fun f x q => (k.2.1 f x q).trans (h.2.1 f x q), fun x q => (k.2.2 x q).trans (h.2.2 x q)⟩
theorem Ofi.mono {S S' : Nat → Nat → Prop} {A A' : Nat → Prop} {w w1 : Wd} (h : Ofi S A w w1) (hS : ∀ f x, S f x → S' f x) (hA : ∀ x, A x → A' x) : Ofi S' A' w w1 := ⟨h.1, fun f x q => h.2.1 f x (fun z => q (hS f x z)), fun x q => h.2.2 x (fun z => q (hA x z))⟩
theorem ofi_sI {S : Nat → Nat → Prop} {A : Nat → Prop} {w : Wd} {f a : Nat} {v : Int32} (h : S f a) : Ofi S A w (sI w f a v) := ⟨⟨rfl, rfl, rfl, rfl, rfl, rfl⟩, fun g x q => by
  have e : ¬ (g = f ∧ x = a) := fun z => q (z.1 ▸ z.2 ▸ h)
  rw [wI_sI, if_neg e], fun _ _ => rfl⟩
theorem ofi_tI {S : Nat → Nat → Prop} {A : Nat → Prop} {w : Wd} {a i : Nat} {v : Int32} (h : A a) : Ofi S A w (tI w a i v) := ⟨⟨rfl, rfl, rfl, rfl, rfl, rfl⟩, fun _ _ _ => rfl, fun x q => by
  have e : x ≠ a := fun z => q (z ▸ h)
  funext j
  rw [aI_tI, if_neg (fun z => e z.1)]⟩
theorem Ofi.FX {S : Nat → Nat → Prop} {A : Nat → Prop} {w w' : Wd} (h : Ofi S A w w') (k : FX w) : FX w' := k.of h.1.1 h.1.2.1
theorem HX.same {w w' : Wd} {a b : Nat} {s t : Nat → Nat} (h : HX w a b s t) (h1 : wR w' = wR w) (h2 : aR w' = aR w) (h3 : ∀ x, x < 404 → (∀ f, wI w' f x = wI w f x) ∧ (∀ f, wZ w' f x = wZ w f x) ∧ aI w' x = aI w x) : HX w' a b s t := by
  have ha : a ≤ 374 := (by decide : ∀ a, a ∈ SA → a ≤ 374) a h.2.1.1
  have hb : b ≤ 39 := (by decide : ∀ b, b ∈ SU → b ≤ 39) b h.2.1.2.1
  have hs := h.gs.1
  refine ⟨h.1.of h1 h2, ⟨h.2.1.1, h.2.1.2.1, by rw [h1]; exact h.2.1.2.2⟩, ?_, ?_, h.2.2.2.2⟩
  · obtain ⟨u1, u2, u3, u4, u5, u6, u7, u8⟩ := h.2.2.1
    refine ⟨fun k hk => ?_, fun r hr => ?_, fun o ho => ?_, fun o ho k hk => ?_, fun i hi => ?_, fun i hi => ?_, fun k hk => ?_, ?_⟩
    · rw [(h3 _ (by omega)).1]; exact u1 k hk
    · rw [(h3 _ (by omega)).2.2]; exact u2 r hr
    · rw [(h3 _ (by omega)).2.2]; exact u3 o ho
    · rw [(h3 (b + 4) (by omega)).2.2, (h3 (b + 5) (by omega)).2.2]; exact u4 o ho k hk
    · rw [(h3 (b + 6) (by omega)).2.2, (h3 (b + 8) (by omega)).2.2, (h3 (b + 9) (by omega)).2.2]; exact u5 i hi
    · rw [(h3 (b + 22 + i) (by omega)).1, (h3 (b + 22 + i) (by omega)).1, (h3 (b + 22 + i) (by omega)).1, (h3 (b + 22 + i) (by omega)).2.1, (h3 (b + 22 + i) (by omega)).1, (h3 (b + 22 + i) (by omega)).1]; exact u6 i hi
    · rw [(h3 _ (by omega)).2.2]; exact u7 k hk
    · rw [(h3 _ (by omega)).1]; exact u8
  · obtain ⟨v1, v2, v3, v4, v5⟩ := h.2.2.2.1
    refine ⟨⟨?_, ?_⟩, fun d hd => ?_, fun i hi => ?_, fun i hi => ?_, fun i hi => ?_⟩
    · rw [(h3 _ (by omega)).1]; exact v1.1
    · rw [(h3 _ (by omega)).1]; exact v1.2
    · rw [(h3 _ (by omega)).2.2]; exact v2 d hd
    · rw [(h3 _ (by omega)).2.2]; exact v3 i hi
    · rw [(h3 _ (by omega)).2.2]; exact v4 i hi
    · simp only [(h3 (a + 6 + 2 * i) (by omega)).1]
      rw [(h3 (a + 7 + 2 * i) (by omega)).2.2]
      exact v5 i hi
theorem Off.HX {P : Nat → Prop} {w w' : Wd} {a b : Nat} {s t : Nat → Nat} (h : Off P w w') (k : HX w a b s t) (hP : ∀ x, P x → 404 ≤ x) : HX w' a b s t := k.same h.1 h.2.1 (fun x hx => by
  obtain ⟨b1, b2, b3, b4, b5, b6⟩ := h.2.2 x (fun q => by have := hP x q; omega)
  exact ⟨b1, b2, b4⟩)
theorem Ofi.HX {S : Nat → Nat → Prop} {A : Nat → Prop} {w w' : Wd} {a b : Nat} {s t : Nat → Nat} (h : Ofi S A w w') (k : HX w a b s t) (hS : ∀ f x, S f x → 404 ≤ x) (hA : ∀ x, A x → 404 ≤ x) : HX w' a b s t := k.same h.1.1 h.1.2.1 (fun x hx => ⟨fun f => h.2.1 f x (fun q => by have := hS f x q; omega), fun f => by rw [h.1.2.2.1], h.2.2 x (fun q => by have := hA x q; omega)⟩)
theorem oI_none : oI none = -nI 1 := rfl
theorem oI_some {n : Nat} : oI (some n) = nI n := rfl
/-- the officer with the least load -/
def lst (ok : Nat → Bool) (ld : Nat → Nat) : Nat → Option Nat
  | 0 => none
  | n + 1 => match lst ok ld n with
    | none => if ok n = true then some n else none
    | some b => if ld n < ld b then (if ok n = true then some n else some b) else some b
theorem lst_some {ok : Nat → Bool} {ld : Nat → Nat} : ∀ n b, lst ok ld n = some b → b < n ∧ ok b = true
  | 0, b, h => by simp [lst] at h
  | n + 1, b, h => by
    rw [lst] at h
    cases e : lst ok ld n with
    | none =>
      rw [e] at h
      cases e2 : ok n with
      | false => simp [e2] at h
      | true => simp [e2] at h; subst h; exact ⟨by omega, e2⟩
    | some c =>
      rw [e] at h
      have i1 := lst_some n c e
      by_cases e3 : ld n < ld c
      · cases e2 : ok n with
        | false => simp [e2, e3] at h; subst h; exact ⟨by omega, i1.2⟩
        | true => simp [e2, e3] at h; subst h; exact ⟨by omega, e2⟩
      · simp [e3] at h; subst h; exact ⟨by omega, i1.2⟩
theorem lst_congr {ok ok' : Nat → Bool} {ld ld' : Nat → Nat} : ∀ n, (∀ o, o < n → ok o = ok' o) → (∀ o, o < n → ld o = ld' o) → lst ok ld n = lst ok' ld' n
  | 0, _, _ => rfl
  | n + 1, h, k => by
    rw [lst, lst, lst_congr n (fun o ho => h o (by omega)) (fun o ho => k o (by omega)), h n (by omega)]
    cases e : lst ok' ld' n with
    | none => rfl
    | some c =>
      have i1 := lst_some n c e
      dsimp only
      rw [k n (by omega), k c (by omega)]
theorem lst_none {ok : Nat → Bool} {ld : Nat → Nat} : ∀ n, (∀ o, o < n → ok o = false) → lst ok ld n = none
  | 0, _ => rfl
  | n + 1, h => by
    rw [lst, lst_none n (fun o ho => h o (by omega)), h n (by omega)]
    rfl
def ldN (s t : Nat → Nat) (o : Nat) : Nat := loadN s t o (s 3)
def bst (s t : Nat → Nat) (G : Int32) (i d q r : Nat) : Nat → Option Nat := lst (fun o => pbN s t G i d q r o == 0) (ldN s t)
theorem bst_succ {s t : Nat → Nat} {G : Int32} {i d q r n : Nat} : bst s t G i d q r (n + 1) = (match bst s t G i d q r n with
    | none => if (pbN s t G i d q r n == 0) = true then some n else none
    | some b => if ldN s t n < ldN s t b then (if (pbN s t G i d q r n == 0) = true then some n else some b) else some b) := rfl
def rmF (s t : Nat → Nat) (G : Int32) (i d q : Nat) : Option Nat := fstF (fun r => (bst s t G i d q r (s 1)).isSome) 0 (s 0)
def qF (s t : Nat → Nat) (G : Int32) (i d : Nat) : Option Nat := fstF (fun q => (rmF s t G i d q).isSome) 0 (9 - s (100 + i))
/-- the first slot, room and officer of a day -/
def fo (s t : Nat → Nat) (G : Int32) (i d : Nat) : Option (Nat × Nat × Nat) := match qF s t G i d with
  | some q => (match rmF s t G i d q with
    | some r => some (q, r, (bst s t G i d q r (s 1)).getD 0)
    | none => none)
  | none => none
theorem fstF_p {p : Nat → Bool} : ∀ d c k, fstF p c d = some k → c ≤ k ∧ k < c + d ∧ p k = true
  | 0, c, k, h => by simp [fstF] at h
  | d + 1, c, k, h => by
    rw [fstF] at h
    cases e : p c with
    | true => simp [e] at h; subst h; exact ⟨by omega, by omega, e⟩
    | false =>
      simp [e] at h
      have := fstF_p d (c + 1) k h
      exact ⟨by omega, by omega, this.2.2⟩
theorem fo_some {s t : Nat → Nat} {G : Int32} {i d q r o : Nat} (h : fo s t G i d = some (q, r, o)) : q + s (100 + i) < 9 ∧ r < s 0 ∧ o < s 1 ∧ pbN s t G i d q r o = 0 := by
  unfold fo at h
  cases e : qF s t G i d with
  | none => simp [e] at h
  | some q' =>
    have h1 := fstF_p _ _ _ e
    obtain ⟨r', er⟩ := Option.isSome_iff_exists.mp h1.2.2
    have h2 := fstF_p _ _ _ er
    obtain ⟨o', eo⟩ := Option.isSome_iff_exists.mp h2.2.2
    have h3 := lst_some _ _ eo
    simp [e, er, eo] at h
    obtain ⟨rfl, rfl, rfl⟩ := h
    have h4 := h3.2
    simp at h4
    exact ⟨by omega, by omega, h3.1, h4⟩
def opn (s t : Nat → Nat) (G : Int32) (i d : Nat) : Bool := !dyO s t i d && (fo s t G i d).isSome
/-- the first opening -/
def faL (s t : Nat → Nat) (G : Int32) (i L : Nat) : Option (Nat × Nat × Nat × Nat) := match fstF (opn s t G i) (t 0) (L + 1 - t 0) with
  | some d => (match fo s t G i d with
    | some (q, r, o) => some (d, q, r, o)
    | none => none)
  | none => none
def fa (s t : Nat → Nat) (G : Int32) (i : Nat) : Option (Nat × Nat × Nat × Nat) := faL s t G i (limD s t i)
theorem faL_some {s t : Nat → Nat} {G : Int32} {i d q r o : Nat} {L : Nat} (h : faL s t G i L = some (d, q, r, o)) : (t 0 ≤ d ∧ d ≤ L ∧ dyO s t i d = false) ∧ q + s (100 + i) < 9 ∧ r < s 0 ∧ o < s 1 ∧ pbN s t G i d q r o = 0 := by
  unfold faL at h
  cases e : fstF (opn s t G i) (t 0) (L + 1 - t 0) with
  | none => simp [e] at h
  | some d' =>
    have h1 := fstF_p _ _ _ e
    have h2 := h1.2.2
    simp only [opn, Bool.and_eq_true, Bool.not_eq_true'] at h2
    obtain ⟨⟨q', r', o'⟩, eo⟩ := Option.isSome_iff_exists.mp h2.2
    simp [e, eo] at h
    obtain ⟨rfl, rfl, rfl, rfl⟩ := h
    exact ⟨⟨h1.1, by omega, h2.1⟩, fo_some eo⟩
