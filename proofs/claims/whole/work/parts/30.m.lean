/-! The reference's search for a hearing. -/
theorem loop_q {σ : Type} (F : Nat → Nat → Wd → Option σ) (I : Nat → Wd → Prop) (Q : Option σ → Prop) (n : Nat) (hz : ∀ f w, I n w → Q (F (f + 1) n w)) (hs : ∀ f c w, c < n → I c w → (∀ w', I (c + 1) w' → Q (F f (c + 1) w')) → Q (F (f + 1) c w)) : ∀ f c w, I c w → c ≤ n → n - c < f → Q (F f c w) := by
  intro f
  induction f with
  | zero => intro c w _ _ h; omega
  | succ f ih =>
    intro c w hI hc hf
    by_cases e : c = n
    · subst e; exact hz f w hI
    · exact hs f c w (by omega) hI (fun w' h' => ih (c + 1) w' h' (by omega) (by omega))
/-- integer fields and integer arrays alone differ, and only there -/
def Ofi (S : Nat → Nat → Prop) (A : Nat → Prop) (w w' : Wd) : Prop := (wR w' = wR w ∧ aR w' = aR w ∧ wZ w' = wZ w ∧ wJ w' = wJ w ∧ aJ w' = aJ w ∧ aD w' = aD w) ∧ (∀ f x, ¬ S f x → wI w' f x = wI w f x) ∧ ∀ x, ¬ A x → aI w' x = aI w x
theorem Ofi.rf {S : Nat → Nat → Prop} {A : Nat → Prop} {w : Wd} : Ofi S A w w := ⟨⟨rfl, rfl, rfl, rfl, rfl, rfl⟩, fun _ _ _ => rfl, fun _ _ => rfl⟩
theorem Ofi.trans {S : Nat → Nat → Prop} {A : Nat → Prop} {w w1 w2 : Wd} (h : Ofi S A w w1) (k : Ofi S A w1 w2) : Ofi S A w w2 := ⟨⟨k.1.1.trans h.1.1, k.1.2.1.trans h.1.2.1, k.1.2.2.1.trans h.1.2.2.1, k.1.2.2.2.1.trans h.1.2.2.2.1, k.1.2.2.2.2.1.trans h.1.2.2.2.2.1, k.1.2.2.2.2.2.trans h.1.2.2.2.2.2⟩, fun f x q => (k.2.1 f x q).trans (h.2.1 f x q), fun x q => (k.2.2 x q).trans (h.2.2 x q)⟩
theorem Ofi.mono {S S' : Nat → Nat → Prop} {A A' : Nat → Prop} {w w1 : Wd} (h : Ofi S A w w1) (hS : ∀ f x, S f x → S' f x) (hA : ∀ x, A x → A' x) : Ofi S' A' w w1 := ⟨h.1, fun f x q => h.2.1 f x (fun z => q (hS f x z)), fun x q => h.2.2 x (fun z => q (hA x z))⟩
theorem ofi_sI {S : Nat → Nat → Prop} {A : Nat → Prop} {w : Wd} {f a : Nat} {v : Int32} (h : S f a) : Ofi S A w (sI w f a v) := ⟨⟨rfl, rfl, rfl, rfl, rfl, rfl⟩, fun g x q => by
  have e : ¬ (g = f ∧ x = a) := fun z => q (z.1 ▸ z.2 ▸ h)
  rw [wI_sI, if_neg e], fun _ _ => rfl⟩
theorem ofi_tI {S : Nat → Nat → Prop} {A : Nat → Prop} {w : Wd} {a i : Nat} {v : Int32} (h : A a) : Ofi S A w (tI w a i v) := ⟨⟨rfl, rfl, rfl, rfl, rfl, rfl⟩, fun _ _ _ => rfl, fun x q => by
  have e : x ≠ a := fun z => q (z ▸ h)
  funext j
  rw [aI_tI, if_neg (fun z => e z.1)]⟩
theorem Ofi.FX {S : Nat → Nat → Prop} {A : Nat → Prop} {w w' : Wd} (h : Ofi S A w w') (k : FX w) : FX w' := k.of h.1.1 h.1.2.1
theorem Ofi.HM {S : Nat → Nat → Prop} {A : Nat → Prop} {w w' : Wd} {s t : Nat → Nat} (h : Ofi S A w w') (k : HM w s t) (h1 : ¬ A 416) (h2 : ¬ A 418) : HM w' s t := ⟨h.FX k.1, by rw [h.2.2 416 h1]; exact k.2.1, by rw [h.2.2 418 h2]; exact k.2.2.1, k.2.2.2⟩
theorem HX.same {w w' : Wd} {a b : Nat} {s t : Nat → Nat} (h : HX w a b s t) (h1 : wR w' = wR w) (h2 : aR w' = aR w) (h3 : ∀ x, x < 404 → (∀ f, wI w' f x = wI w f x) ∧ (∀ f, wZ w' f x = wZ w f x) ∧ aI w' x = aI w x) : HX w' a b s t := by
  have ha : a ≤ 374 := (by decide : ∀ a, a ∈ SA → a ≤ 374) a h.2.1.1
  have hb : b ≤ 39 := (by decide : ∀ b, b ∈ SU → b ≤ 39) b h.2.1.2.1
  have hs := h.gs.1
  refine ⟨h.1.of h1 h2, ⟨h.2.1.1, h.2.1.2.1, by rw [h1]; exact h.2.1.2.2⟩, ?_, ?_, h.2.2.2.2⟩
  · obtain ⟨u1, u2, u3, u4, u5, u6, u7, u8⟩ := h.2.2.1
    refine ⟨fun k hk => ?_, fun r hr => ?_, fun o ho => ?_, fun o ho k hk => ?_, fun i hi => ?_, fun i hi => ?_, fun k hk => ?_, ?_⟩
    · rw [(h3 _ (by omega)).1]; exact u1 k hk
    · rw [(h3 _ (by omega)).2.2]; exact u2 r hr
    · rw [(h3 _ (by omega)).2.2]; exact u3 o ho
    · rw [(h3 (b + 4) (by omega)).2.2, (h3 (b + 5) (by omega)).2.2]; exact u4 o ho k hk
    · rw [(h3 (b + 6) (by omega)).2.2, (h3 (b + 8) (by omega)).2.2, (h3 (b + 9) (by omega)).2.2]; exact u5 i hi
    · rw [(h3 (b + 22 + i) (by omega)).1, (h3 (b + 22 + i) (by omega)).1, (h3 (b + 22 + i) (by omega)).1, (h3 (b + 22 + i) (by omega)).2.1, (h3 (b + 22 + i) (by omega)).1, (h3 (b + 22 + i) (by omega)).1]; exact u6 i hi
    · rw [(h3 _ (by omega)).2.2]; exact u7 k hk
    · rw [(h3 _ (by omega)).1]; exact u8
  · obtain ⟨v1, v2, v3, v4, v5⟩ := h.2.2.2.1
    refine ⟨⟨?_, ?_⟩, fun d hd => ?_, fun i hi => ?_, fun i hi => ?_, fun i hi => ?_⟩
    · rw [(h3 _ (by omega)).1]; exact v1.1
    · rw [(h3 _ (by omega)).1]; exact v1.2
    · rw [(h3 _ (by omega)).2.2]; exact v2 d hd
    · rw [(h3 _ (by omega)).2.2]; exact v3 i hi
    · rw [(h3 _ (by omega)).2.2]; exact v4 i hi
    · simp only [(h3 (a + 6 + 2 * i) (by omega)).1]
      rw [(h3 (a + 7 + 2 * i) (by omega)).2.2]
      exact v5 i hi
theorem Off.HX {P : Nat → Prop} {w w' : Wd} {a b : Nat} {s t : Nat → Nat} (h : Off P w w') (k : HX w a b s t) (hP : ∀ x, P x → 404 ≤ x) : HX w' a b s t := k.same h.1 h.2.1 (fun x hx => by
  obtain ⟨b1, b2, b3, b4, b5, b6⟩ := h.2.2 x (fun q => by have := hP x q; omega)
  exact ⟨b1, b2, b4⟩)
theorem Ofi.HX {S : Nat → Nat → Prop} {A : Nat → Prop} {w w' : Wd} {a b : Nat} {s t : Nat → Nat} (h : Ofi S A w w') (k : HX w a b s t) (hS : ∀ f x, S f x → 404 ≤ x) (hA : ∀ x, A x → 404 ≤ x) : HX w' a b s t := k.same h.1.1 h.1.2.1 (fun x hx => ⟨fun f => h.2.1 f x (fun q => by have := hS f x q; omega), fun f => by rw [h.1.2.2.1], h.2.2 x (fun q => by have := hA x q; omega)⟩)
theorem oI_none : oI none = -nI 1 := rfl
theorem oI_some {n : Nat} : oI (some n) = nI n := rfl
/-- the officer with the least load -/
def lst (ok : Nat → Bool) (ld : Nat → Nat) : Nat → Option Nat
  | 0 => none
  | n + 1 => match lst ok ld n with
    | none => if ok n = true then some n else none
    | some b => if ld n < ld b then (if ok n = true then some n else some b) else some b
theorem lst_some {ok : Nat → Bool} {ld : Nat → Nat} : ∀ n b, lst ok ld n = some b → b < n ∧ ok b = true
  | 0, b, h => by simp [lst] at h
  | n + 1, b, h => by
    rw [lst] at h
    cases e : lst ok ld n with
    | none =>
      rw [e] at h
      cases e2 : ok n with
      | false => simp [e2] at h
      | true => simp [e2] at h; subst h; exact ⟨by omega, e2⟩
    | some c =>
      rw [e] at h
      have i1 := lst_some n c e
      by_cases e3 : ld n < ld c
      · cases e2 : ok n with
        | false => simp [e2, e3] at h; subst h; exact ⟨by omega, i1.2⟩
        | true => simp [e2, e3] at h; subst h; exact ⟨by omega, e2⟩
      · simp [e3] at h; subst h; exact ⟨by omega, i1.2⟩
theorem lst_congr {ok ok' : Nat → Bool} {ld ld' : Nat → Nat} : ∀ n, (∀ o, o < n → ok o = ok' o) → (∀ o, o < n → ld o = ld' o) → lst ok ld n = lst ok' ld' n
  | 0, _, _ => rfl
  | n + 1, h, k => by
    rw [lst, lst, lst_congr n (fun o ho => h o (by omega)) (fun o ho => k o (by omega)), h n (by omega)]
    cases e : lst ok' ld' n with
    | none => rfl
    | some c =>
      have i1 := lst_some n c e
      dsimp only
      rw [k n (by omega), k c (by omega)]
theorem lst_none {ok : Nat → Bool} {ld : Nat → Nat} : ∀ n, (∀ o, o < n → ok o = false) → lst ok ld n = none
  | 0, _ => rfl
  | n + 1, h => by
    rw [lst, lst_none n (fun o ho => h o (by omega)), h n (by omega)]
    rfl
def ldN (s t : Nat → Nat) (o : Nat) : Nat := loadN s t o (s 3)
def bst (s t : Nat → Nat) (G : Int32) (i d q r : Nat) : Nat → Option Nat := lst (fun o => pbN s t G i d q r o == 0) (ldN s t)
theorem bst_succ {s t : Nat → Nat} {G : Int32} {i d q r n : Nat} : bst s t G i d q r (n + 1) = (match bst s t G i d q r n with
    | none => if (pbN s t G i d q r n == 0) = true then some n else none
    | some b => if ldN s t n < ldN s t b then (if (pbN s t G i d q r n == 0) = true then some n else some b) else some b) := rfl
theorem m_officerFor {w : Wd} {s t : Nat → Nat} (h : HM w s t) {G : Int32} (hg : wI w 1315 415 = G) {i d q r : Nat} (hi : i < s 3) (hd : d < 2 ^ 31) (hq : q < 2000) (hr : r < s 0) : f_X13_officerFor Kc 415 (nI i) (nI d) (nI q) (nI r) w = some (oI (bst s t G i d q r (s 1)), w) := by
  have h6 := h.gs.1.2.1
  unfold f_X13_officerFor
  simp only [il]
  refine loop_g (fun f c => f_X13_officerFor_L6 Kc 415 (fun v1_6 v2_6 v3_6 v4_6 v5_6 v6_6 w1 => some (v5_6, w1)) f (nI i) (nI d) (nI q) (nI r) (oI (bst s t G i d q r c)) (nI c) w) (fun _ => some (oI (bst s t G i d q r (s 1)), w)) (s 1) (fun f => ?_) (fun f c hc ih => ?_) fu 0 (by omega) (fu_lt (by omega))
  · try dsimp only
    rw [f_X13_officerFor_L6]
    simp (disch := first | omega | assumption) only [il, Option.bind_some, ixa_n, nI_add, pk_mul, if_le_t, if_le_f, if_lt_t, if_lt_f, if_eq_t, if_eq_f, ↓ifb', x1301 h.1, x1303 h.1, h.S, h.T, m_of h, m_hasHearing h]
  · try dsimp only at ih ⊢
    have hp := pbN_le (s := s) (t := t) (G := G) (i := i) (d := d) (q := q) (r := r) (o := c)
    have hl := loadN_le (t := t) h.gs c (Nat.le_refl (s 3))
    rw [bst_succ] at ih
    cases e : bst s t G i d q r c with
    | none =>
      rw [e] at ih
      rw [f_X13_officerFor_L6]
      by_cases e2 : pbN s t G i d q r c = 0
      · simp (disch := first | omega | assumption) only [il, Option.bind_some, ixa_n, nI_add, pk_mul, if_le_t, if_le_f, if_lt_t, if_lt_f, if_eq_t, if_eq_f, ↓ifb', x1301 h.1, x1303 h.1, h.S, h.T, m_of h, m_hasHearing h, oI_none, if_true, m_problemOn h hg]
        simpa [e2, oI] using ih
      · simp (disch := first | omega | assumption) only [il, Option.bind_some, ixa_n, nI_add, pk_mul, if_le_t, if_le_f, if_lt_t, if_lt_f, if_eq_t, if_eq_f, ↓ifb', x1301 h.1, x1303 h.1, h.S, h.T, m_of h, m_hasHearing h, oI_none, if_true, m_problemOn h hg]
        simpa [e2, oI] using ih
    | some b =>
      rw [e] at ih
      rw [f_X13_officerFor_L6]
      have i1 := lst_some c b e
      have hl2 := loadN_le (t := t) h.gs b (Nat.le_refl (s 3))
      have e4 : ¬ (nI b = -nI 1) := fun q => neg1_eq (a := b) (by omega) q.symm
      by_cases e3 : loadN s t c (s 3) < loadN s t b (s 3)
      · by_cases e2 : pbN s t G i d q r c = 0
        · simp (disch := first | omega | assumption) only [il, Option.bind_some, ixa_n, nI_add, pk_mul, if_le_t, if_le_f, if_lt_t, if_lt_f, if_eq_t, if_eq_f, ↓ifb', x1301 h.1, x1303 h.1, h.S, h.T, m_of h, m_hasHearing h, oI_some, if_neg e4, m_problemOn h hg, m_loadOf h]
          simpa [e2, e3, ldN, oI] using ih
        · simp (disch := first | omega | assumption) only [il, Option.bind_some, ixa_n, nI_add, pk_mul, if_le_t, if_le_f, if_lt_t, if_lt_f, if_eq_t, if_eq_f, ↓ifb', x1301 h.1, x1303 h.1, h.S, h.T, m_of h, m_hasHearing h, oI_some, if_neg e4, m_problemOn h hg, m_loadOf h]
          simpa [e2, e3, ldN, oI] using ih
      · simp (disch := first | omega | assumption) only [il, Option.bind_some, ixa_n, nI_add, pk_mul, if_le_t, if_le_f, if_lt_t, if_lt_f, if_eq_t, if_eq_f, ↓ifb', x1301 h.1, x1303 h.1, h.S, h.T, m_of h, m_hasHearing h, oI_some, if_neg e4, m_problemOn h hg, m_loadOf h]
        simpa [e3, ldN, oI] using ih
def setF (w : Wd) (d q r o : Nat) : Wd := sI (sI (sI (sI w 1316 415 (nI d)) 1317 415 (nI q)) 1318 415 (nI r)) 1319 415 (nI o)
def rmF (s t : Nat → Nat) (G : Int32) (i d q : Nat) : Option Nat := fstF (fun r => (bst s t G i d q r (s 1)).isSome) 0 (s 0)
theorem m_findsOnR {w : Wd} {s t : Nat → Nat} (h : HM w s t) {G : Int32} (hg : wI w 1315 415 = G) {i d q : Nat} (hi : i < s 3) (hd : d < 2 ^ 31) (hq : q < 2000) {k : Int32 → Int32 → Int32 → Int32 → Wd → Option (Bool × Wd)} : f_X13_findsOn_L21 Kc 415 k fu (nI i) (nI d) (nI q) (nI 0) w = (match rmF s t G i d q with
    | some r => some (true, setF w d q r ((bst s t G i d q r (s 1)).getD 0))
    | none => k (nI i) (nI d) (nI q) (nI (s 0)) w) := by
  have h3 := h.gs.1.1
  refine (loop_fst (fun f c => f_X13_findsOn_L21 Kc 415 k f (nI i) (nI d) (nI q) (nI c) w) (fun r => (bst s t G i d q r (s 1)).isSome) (s 0) (fun r => some (true, setF w d q r ((bst s t G i d q r (s 1)).getD 0))) (k (nI i) (nI d) (nI q) (nI (s 0)) w) (fun f => ?_) (fun f c hc hp => ?_) (fun f c hc hp => ?_) (s 0) 0 fu (by omega) (fu_lt (by omega)))
  · try dsimp only
    rw [f_X13_findsOn_L21]
    simp (disch := first | omega | assumption) only [il, Option.bind_some, ixa_n, nI_add, pk_mul, if_le_t, if_le_f, if_lt_t, if_lt_f, if_eq_t, if_eq_f, ↓ifb', x1301 h.1, x1303 h.1, h.S, h.T, m_of h, m_hasHearing h]
  · try dsimp only
    have h6 := h.gs.1.2.1
    obtain ⟨o, eo⟩ := Option.isSome_iff_exists.mp hp
    have i1 := lst_some _ _ eo
    have e4 : ¬ (nI o = -nI 1) := fun q => neg1_eq (a := o) (by omega) q.symm
    rw [f_X13_findsOn_L21]
    simp (disch := first | omega | assumption) only [il, Option.bind_some, ixa_n, nI_add, pk_mul, if_le_t, if_le_f, if_lt_t, if_lt_f, if_eq_t, if_eq_f, ↓ifb', x1301 h.1, x1303 h.1, h.S, h.T, m_of h, m_hasHearing h, m_officerFor h hg, eo, oI_some, if_neg e4]
    rfl
  · try dsimp only
    have eo : bst s t G i d q c (s 1) = none := by simpa using hp
    rw [f_X13_findsOn_L21]
    simp (disch := first | omega | assumption) only [il, Option.bind_some, ixa_n, nI_add, pk_mul, if_le_t, if_le_f, if_lt_t, if_lt_f, if_eq_t, if_eq_f, ↓ifb', x1301 h.1, x1303 h.1, h.S, h.T, m_of h, m_hasHearing h, m_officerFor h hg, eo, oI_none, if_true]
def qF (s t : Nat → Nat) (G : Int32) (i d : Nat) : Option Nat := fstF (fun q => (rmF s t G i d q).isSome) 0 (9 - s (100 + i))
/-- the first slot, room and officer of a day -/
def fo (s t : Nat → Nat) (G : Int32) (i d : Nat) : Option (Nat × Nat × Nat) := match qF s t G i d with
  | some q => (match rmF s t G i d q with
    | some r => some (q, r, (bst s t G i d q r (s 1)).getD 0)
    | none => none)
  | none => none
def foR (w : Wd) (d : Nat) : Option (Nat × Nat × Nat) → Option (Bool × Wd)
  | some (q, r, o) => some (true, setF w d q r o)
  | none => some (false, w)
theorem fstF_p {p : Nat → Bool} : ∀ d c k, fstF p c d = some k → c ≤ k ∧ k < c + d ∧ p k = true
  | 0, c, k, h => by simp [fstF] at h
  | d + 1, c, k, h => by
    rw [fstF] at h
    cases e : p c with
    | true => simp [e] at h; subst h; exact ⟨by omega, by omega, e⟩
    | false =>
      simp [e] at h
      have := fstF_p d (c + 1) k h
      exact ⟨by omega, by omega, this.2.2⟩
theorem fo_some {s t : Nat → Nat} {G : Int32} {i d q r o : Nat} (h : fo s t G i d = some (q, r, o)) : q + s (100 + i) < 9 ∧ r < s 0 ∧ o < s 1 ∧ pbN s t G i d q r o = 0 := by
  unfold fo at h
  cases e : qF s t G i d with
  | none => simp [e] at h
  | some q' =>
    have h1 := fstF_p _ _ _ e
    obtain ⟨r', er⟩ := Option.isSome_iff_exists.mp h1.2.2
    have h2 := fstF_p _ _ _ er
    obtain ⟨o', eo⟩ := Option.isSome_iff_exists.mp h2.2.2
    have h3 := lst_some _ _ eo
    simp [e, er, eo] at h
    obtain ⟨rfl, rfl, rfl⟩ := h
    have h4 := h3.2
    simp at h4
    exact ⟨by omega, by omega, h3.1, h4⟩
theorem m_findsOn {w : Wd} {s t : Nat → Nat} (h : HM w s t) {G : Int32} (hg : wI w 1315 415 = G) {i d : Nat} (hi : i < s 3) (hd : d < 2 ^ 31) : f_X13_findsOn Kc 415 (nI i) (nI d) w = foR w d (fo s t G i d) := by
  have l1 := h.gs.ln hi
  have h12 := h.gs.1.2.2.2
  unfold f_X13_findsOn
  simp only [il]
  refine (loop_fst (fun f c => f_X13_findsOn_L2 Kc 415 (fun v1_2 v2_2 v3_2 w1 => some (false, w1)) f (nI i) (nI d) (nI c) w) (fun q => (rmF s t G i d q).isSome) (9 - s (100 + i)) (fun q => match rmF s t G i d q with
    | some r => some (true, setF w d q r ((bst s t G i d q r (s 1)).getD 0))
    | none => none) (some (false, w)) (fun f => ?_) (fun f c hc hp => ?_) (fun f c hc hp => ?_) (9 - s (100 + i)) 0 fu (by omega) (fu_lt (by omega))).trans ?_
  · try dsimp only
    rw [f_X13_findsOn_L2]
    simp (disch := first | omega | assumption) only [il, Option.bind_some, ixa_n, nI_add, pk_mul, if_le_t, if_le_f, if_lt_t, if_lt_f, if_eq_t, if_eq_f, ↓ifb', x1301 h.1, x1303 h.1, h.S, h.T, m_of h, m_hasHearing h]
  · try dsimp only
    obtain ⟨r, er⟩ := Option.isSome_iff_exists.mp hp
    rw [f_X13_findsOn_L2]
    simp (disch := first | omega | assumption) only [il, Option.bind_some, ixa_n, nI_add, pk_mul, if_le_t, if_le_f, if_lt_t, if_lt_f, if_eq_t, if_eq_f, ↓ifb', x1301 h.1, x1303 h.1, h.S, h.T, m_of h, m_hasHearing h, m_findsOnR h hg hi hd (show c < 2000 by omega), er]
  · try dsimp only
    have er : rmF s t G i d c = none := by simpa using hp
    rw [f_X13_findsOn_L2]
    simp (disch := first | omega | assumption) only [il, Option.bind_some, ixa_n, nI_add, pk_mul, if_le_t, if_le_f, if_lt_t, if_lt_f, if_eq_t, if_eq_f, ↓ifb', x1301 h.1, x1303 h.1, h.S, h.T, m_of h, m_hasHearing h, m_findsOnR h hg hi hd (show c < 2000 by omega), er]
  · unfold fo qF
    cases e : fstF (fun q => (rmF s t G i d q).isSome) 0 (9 - s (100 + i)) with
    | none => rfl
    | some q =>
      obtain ⟨r, er⟩ := Option.isSome_iff_exists.mp (fstF_p _ _ _ e).2.2
      simp [er, foR]
theorem m_lastDay {w : Wd} {s t : Nat → Nat} (h : HM w s t) {i : Nat} (hi : i < s 3) : f_X13_lastDay Kc 415 (nI i) w = some (nI (limD s t i), w) := by
  have l3 := limD_le h.gs h.gt hi
  unfold f_X13_lastDay
  simp (disch := first | omega | assumption) only [il, Option.bind_some, ixa_n, nI_add, pk_mul, if_le_t, if_le_f, if_lt_t, if_lt_f, if_eq_t, if_eq_f, ↓ifb', x1301 h.1, x1303 h.1, h.S, h.T, m_of h, m_hasHearing h, m_limitDay h hi]
def opn (s t : Nat → Nat) (G : Int32) (i d : Nat) : Bool := !dyO s t i d && (fo s t G i d).isSome
/-- the first opening -/
def faL (s t : Nat → Nat) (G : Int32) (i L : Nat) : Option (Nat × Nat × Nat × Nat) := match fstF (opn s t G i) (t 0) (L + 1 - t 0) with
  | some d => (match fo s t G i d with
    | some (q, r, o) => some (d, q, r, o)
    | none => none)
  | none => none
def fa (s t : Nat → Nat) (G : Int32) (i : Nat) : Option (Nat × Nat × Nat × Nat) := faL s t G i (limD s t i)
def faR (w : Wd) : Option (Nat × Nat × Nat × Nat) → Option (Bool × Wd)
  | some (d, q, r, o) => some (true, setF w d q r o)
  | none => some (false, w)
theorem faL_some {s t : Nat → Nat} {G : Int32} {i d q r o : Nat} {L : Nat} (h : faL s t G i L = some (d, q, r, o)) : (t 0 ≤ d ∧ d ≤ L ∧ dyO s t i d = false) ∧ q + s (100 + i) < 9 ∧ r < s 0 ∧ o < s 1 ∧ pbN s t G i d q r o = 0 := by
  unfold faL at h
  cases e : fstF (opn s t G i) (t 0) (L + 1 - t 0) with
  | none => simp [e] at h
  | some d' =>
    have h1 := fstF_p _ _ _ e
    have h2 := h1.2.2
    simp only [opn, Bool.and_eq_true, Bool.not_eq_true'] at h2
    obtain ⟨⟨q', r', o'⟩, eo⟩ := Option.isSome_iff_exists.mp h2.2
    simp [e, eo] at h
    obtain ⟨rfl, rfl, rfl, rfl⟩ := h
    exact ⟨⟨h1.1, by omega, h2.1⟩, fo_some eo⟩
theorem m_findsL {w : Wd} {s t : Nat → Nat} (h : HM w s t) {G : Int32} (hg : wI w 1315 415 = G) {i L : Nat} (hi : i < s 3) (l3 : L ≤ 421) : f_X13_finds_L13 Kc 415 (fun v1_13 v2_13 v3_13 w4 => some (false, w4)) fu (nI i) (nI L) (nI (t 0)) w = faR w (faL s t G i L) := by
  have h0 := h.gt.1
  by_cases e0 : t 0 ≤ L + 1
  · refine (loop_fst (fun f c => f_X13_finds_L13 Kc 415 (fun v1_13 v2_13 v3_13 w4 => some (false, w4)) f (nI i) (nI (L)) (nI c) w) (opn s t G i) (L + 1) (fun d => foR w d (fo s t G i d)) (some (false, w)) (fun f => ?_) (fun f c hc hp => ?_) (fun f c hc hp => ?_) (L + 1 - t 0) (t 0) fu (by omega) (fu_lt (by omega))).trans ?_
    · try dsimp only
      rw [f_X13_finds_L13]
      simp (disch := first | omega | assumption) only [il, Option.bind_some, ixa_n, nI_add, pk_mul, if_le_t, if_le_f, if_lt_t, if_lt_f, if_eq_t, if_eq_f, ↓ifb', x1301 h.1, x1303 h.1, h.S, h.T, m_of h, m_hasHearing h]
    · try dsimp only
      simp only [opn, Bool.and_eq_true, Bool.not_eq_true'] at hp
      obtain ⟨⟨q, r, o⟩, eo⟩ := Option.isSome_iff_exists.mp hp.2
      rw [f_X13_finds_L13]
      simp (disch := first | omega | assumption) only [il, Option.bind_some, ixa_n, nI_add, pk_mul, if_le_t, if_le_f, if_lt_t, if_lt_f, if_eq_t, if_eq_f, ↓ifb', x1301 h.1, x1303 h.1, h.S, h.T, m_of h, m_hasHearing h, m_isDayOut h, hp.1, m_findsOn h hg, eo, foR, Bool.false_eq_true, if_false, if_true]
    · try dsimp only
      rw [f_X13_finds_L13]
      cases e1 : dyO s t i c
      · have eo : fo s t G i c = none := by simpa [opn, e1] using hp
        simp (disch := first | omega | assumption) only [il, Option.bind_some, ixa_n, nI_add, pk_mul, if_le_t, if_le_f, if_lt_t, if_lt_f, if_eq_t, if_eq_f, ↓ifb', x1301 h.1, x1303 h.1, h.S, h.T, m_of h, m_hasHearing h, m_isDayOut h, e1, m_findsOn h hg, eo, foR, Bool.false_eq_true, if_false]
      · simp (disch := first | omega | assumption) only [il, Option.bind_some, ixa_n, nI_add, pk_mul, if_le_t, if_le_f, if_lt_t, if_lt_f, if_eq_t, if_eq_f, ↓ifb', x1301 h.1, x1303 h.1, h.S, h.T, m_of h, m_hasHearing h, m_isDayOut h, e1, if_true]
    · unfold faL
      cases e : fstF (opn s t G i) (t 0) (L + 1 - t 0) with
      | none => rfl
      | some d =>
        have h2 := (fstF_p _ _ _ e).2.2
        simp only [opn, Bool.and_eq_true] at h2
        obtain ⟨⟨q, r, o⟩, eo⟩ := Option.isSome_iff_exists.mp h2.2
        simp [eo, foR, faR]
  · have e1 : faL s t G i L = none := by
      unfold faL
      rw [show L + 1 - t 0 = 0 by omega]
      rfl
    obtain ⟨g, eg⟩ : ∃ g, fu = g + 1 := ⟨fu - 1, by have := fu_lt (n := 5) (by omega); omega⟩
    rw [e1, eg, f_X13_finds_L13]
    simp (disch := first | omega | assumption) only [il, Option.bind_some, ixa_n, nI_add, pk_mul, if_le_t, if_le_f, if_lt_t, if_lt_f, if_eq_t, if_eq_f, ↓ifb', x1301 h.1, x1303 h.1, h.S, h.T, m_of h, m_hasHearing h]
    rfl

theorem m_finds {w : Wd} {s t : Nat → Nat} (h : HM w s t) {G : Int32} (hg : wI w 1315 415 = G) {i : Nat} (hi : i < s 3) : f_X13_finds Kc 415 (nI i) w = faR w (fa s t G i) := by
  have l3 := limD_le h.gs h.gt hi
  have e := m_findsL h hg hi l3
  have e1 : aI w 418 0 = nI (t 0) := h.T (by omega) (by omega)
  have e2 : ixa 0 370 = some 0 := ixa_n (n := 0) (by omega) (by omega)
  have e3 := m_lastDay h hi
  unfold f_X13_finds fa
  generalize limD s t i = L at *
  refine obd e3 (obd (x1303 h.1) (obd e2 ?_))
  rw [e1]
  exact e
