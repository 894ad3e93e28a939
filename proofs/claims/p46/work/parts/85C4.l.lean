/-! The drawn text, token by token. -/
variable {X : Kd}
theorem run_at {P : Nat → Bool} {q : Nat} : ∀ d p, p ≤ q → q ≤ p + d → (∀ k, p ≤ k → k < q → P k = true) → (q = p + d ∨ P q = false) → run P d p = q
  | 0, p, h1, h2, _, _ => by rw [run]; omega
  | d + 1, p, h1, h2, h3, h4 => by
    rw [run]
    by_cases e : p = q
    · have e2 : P p = false := by
        rcases h4 with h4 | h4
        · omega
        · rw [e]; exact h4
      rw [if_neg (by rw [e2]; simp), e]
    · rw [if_pos (h3 p (Nat.le_refl _) (by omega))]
      exact run_at d (p + 1) (by omega) (by omega) (fun k k1 k2 => h3 k (by omega) k2) (h4.elim (fun z => Or.inl (by omega)) Or.inr)
/-- a piece of the text: behind a space or not; a word, a number or a semicolon; its letters -/
abbrev Pc := Bool × Nat × List Nat
def wsP (x : Pc) : List Nat := if x.1 then [32] else []
def pcT : List Pc → List Nat
  | [] => []
  | x :: r => wsP x ++ (x.2.2 ++ pcT r)
def okB (x : Pc) : Prop := (x.2.1 = 0 ∧ 1 ≤ x.2.2.length ∧ x.2.2.length ≤ 8 ∧ ∀ c, c ∈ x.2.2 → ltr c = true) ∨ (x.2.1 = 1 ∧ 1 ≤ x.2.2.length ∧ x.2.2.length ≤ 3 ∧ ∀ c, c ∈ x.2.2 → dgt c = true) ∨ (x.2.1 = 2 ∧ x.2.2 = [59])
def okP : List Pc → Prop
  | [] => True
  | [x] => okB x ∧ x.2.1 = 2
  | x :: y :: r => okB x ∧ (y.1 = true ∨ y.2.1 = 2 ∨ x.2.1 = 2) ∧ okP (y :: r)
def dvN (b : List Nat) : Nat := b.foldl (fun v c => 10 * v + (c - 48)) 0
def tkP (x : Pc) : Nat × Nat × List Nat := if x.2.1 = 0 then (kwI (x.2.2.map (fun c => c - 96)), 0, x.2.2.map (fun c => c - 96)) else if x.2.1 = 1 then (17, dvN x.2.2, []) else (18, 0, [])
/-- the tokens from p on -/
def Tks (n : Nat) (bf : Nat → Int32) : Nat → List (Nat × Nat × List Nat) → Prop
  | _, [] => True
  | p, x :: r => ktT n bf p = x.1 ∧ (x.1 = 17 → nuA n bf p = x.2.1) ∧ (x.1 = 16 → nmA n bf p = x.2.2) ∧ Tks n bf (enT n bf p) r
theorem ltr_sp : ltr 32 = false := by decide
theorem dgt_sp : dgt 32 = false := by decide
theorem dgN_f {bf : Nat → Int32} {q : Nat} (b : List Nat) : ∀ (l : List Nat) (v : Nat) (d : Nat), (∀ j, j < l.length → cdF (bf (q + d + j)) = l.getD j 0) → v = dgN bf q d → l.foldl (fun v c => 10 * v + (c - 48)) v = dgN bf q (d + l.length)
  | [], v, d, _, hv => hv
  | c :: l, v, d, h, hv => by
    rw [List.foldl_cons, dgN_f b l (10 * v + (c - 48)) (d + 1) (fun j hj => by
      have := h (j + 1) (by simpa using hj)
      rw [show q + d + (j + 1) = q + (d + 1) + j by omega] at this
      simpa using this) (by
      rw [dgN, hv]
      have := h 0 (by simp)
      rw [Nat.add_zero] at this
      rw [this]
      rfl)]
    simp only [List.length_cons]
    rw [show d + 1 + l.length = d + (l.length + 1) by omega]
theorem tok_pc {n : Nat} {bf : Nat → Int32} {p : Nat} {x : Pc} (hx : okB x) (hp : p + ((wsP x).length + x.2.2.length) ≤ n) (h : ∀ j, j < (wsP x).length + x.2.2.length → cdF (bf (p + j)) = (wsP x ++ x.2.2).getD j 0) (hn : p + ((wsP x).length + x.2.2.length) = n ∨ ((x.2.1 = 0 → ltr (cdF (bf (p + ((wsP x).length + x.2.2.length)))) = false) ∧ (x.2.1 = 1 → dgt (cdF (bf (p + ((wsP x).length + x.2.2.length)))) = false))) : enT n bf p = p + ((wsP x).length + x.2.2.length) ∧ ktT n bf p = (tkP x).1 ∧ ((tkP x).1 = 17 → nuA n bf p = (tkP x).2.1) ∧ ((tkP x).1 = 16 → nmA n bf p = (tkP x).2.2) := by
  obtain ⟨sp, kk, b⟩ := x
  have hb1 : 1 ≤ b.length := by
    rcases hx with ⟨_, h1, _⟩ | ⟨_, h1, _⟩ | ⟨_, h1⟩
    · exact h1
    · exact h1
    · simp only at h1
      rw [h1]; simp
  have hws : (wsP (sp, kk, b)).length ≤ 1 := by unfold wsP; split <;> simp
  have hw : ∀ j, j < (wsP (sp, kk, b)).length → cdF (bf (p + j)) = 32 := fun j hj => by
    rw [h j (by omega), List.getD_eq_getElem?_getD, List.getElem?_append_left hj]
    unfold wsP at hj ⊢
    cases sp with
    | true =>
      simp at hj
      subst hj
      rfl
    | false => simp at hj
  have hb : ∀ j, j < b.length → cdF (bf (p + (wsP (sp, kk, b)).length + j)) = b.getD j 0 := fun j hj => by
    rw [Nat.add_assoc, h _ (show (wsP (sp, kk, b)).length + j < _ by simp only; omega), List.getD_eq_getElem?_getD, List.getElem?_append_right (by omega), Nat.add_sub_cancel_left, ← List.getD_eq_getElem?_getD]
  have hm : ∀ j, j < b.length → b.getD j 0 ∈ b := fun j hj => by
    rw [List.getD_eq_getElem?_getD, List.getElem?_eq_getElem hj]
    exact List.getElem_mem hj
  generalize hu : (wsP (sp, kk, b)).length = u at *
  simp only at hp hn h
  have b0 := hb 0 (by omega)
  rw [Nat.add_zero] at b0
  have sk : skT n bf p = p + u := by
    unfold skT
    refine run_at _ _ (by omega) (by omega) (fun k k1 k2 => ?_) (Or.inr ?_)
    · try dsimp only
      rw [show k = p + (k - p) by omega, hw (k - p) (by omega)]
      rfl
    · try dsimp only
      rw [b0]
      rcases hx with ⟨_, _, _, h3⟩ | ⟨_, _, _, h3⟩ | ⟨_, h3⟩
      · have := h3 _ (hm 0 (by omega))
        unfold ltr at this
        unfold spc
        simp only [decide_eq_true_eq] at this
        rw [beq_false_of_ne (by omega), beq_false_of_ne (by omega)]
        rfl
      · have := h3 _ (hm 0 (by omega))
        unfold dgt at this
        unfold spc
        simp only [decide_eq_true_eq] at this
        rw [beq_false_of_ne (by omega), beq_false_of_ne (by omega)]
        rfl
      · simp only at h3
        rw [h3]
        rfl
  have n0 : ¬ n ≤ p + u := by omega
  rcases hx with ⟨k0, h1, h2, h3⟩ | ⟨k0, h1, h2, h3⟩ | ⟨k0, h3⟩
  · simp only at k0 h1 h2 h3
    subst k0
    have l0 : ltr (cdF (bf (p + u))) = true := by rw [b0]; exact h3 _ (hm 0 (by omega))
    have en : enT n bf p = p + (u + b.length) := by
      unfold enT
      rw [sk, if_neg n0, if_pos l0]
      refine run_at _ _ (by omega) (by omega) (fun k k1 k2 => ?_) (hn.elim (fun z => Or.inl (by omega)) (fun z => Or.inr (z.1 rfl)))
      try dsimp only
      rw [show k = p + u + (k - (p + u)) by omega, hb _ (by omega)]
      exact h3 _ (hm _ (by omega))
    have nm : nmA n bf p = b.map (fun c => c - 96) := by
      unfold nmA lts
      rw [sk, en, show p + (u + b.length) - (p + u) = b.length by omega]
      refine List.ext_getElem (by simp) (fun j j1 j2 => ?_)
      simp only [List.getElem_map, List.getElem_range]
      simp only [List.length_map, List.length_range] at j1
      rw [hb j j1, List.getD_eq_getElem?_getD, List.getElem?_eq_getElem j1]
      rfl
    refine ⟨en, ?_, fun q => ?_, fun q => nm⟩
    · unfold ktT
      rw [sk, if_neg n0, if_pos l0, en, if_pos (by omega)]
      unfold nmA at nm
      rw [sk, en] at nm
      rw [nm]
      rfl
    · exfalso
      have : kwI (b.map (fun c => c - 96)) ≤ 16 := kwI_le _
      have q2 : kwI (b.map (fun c => c - 96)) = 17 := q
      omega
  · simp only at k0 h1 h2 h3
    subst k0
    have g0 : dgt (cdF (bf (p + u))) = true := by rw [b0]; exact h3 _ (hm 0 (by omega))
    have l0 : ltr (cdF (bf (p + u))) = false := by
      unfold dgt at g0
      unfold ltr
      simp only [decide_eq_true_eq] at g0
      exact decide_eq_false (by omega)
    have en : enT n bf p = p + (u + b.length) := by
      unfold enT
      rw [sk, if_neg n0, if_neg (by rw [l0]; simp), if_pos g0]
      refine run_at _ _ (by omega) (by omega) (fun k k1 k2 => ?_) (hn.elim (fun z => Or.inl (by omega)) (fun z => Or.inr (z.2 rfl)))
      try dsimp only
      rw [show k = p + u + (k - (p + u)) by omega, hb _ (by omega)]
      exact h3 _ (hm _ (by omega))
    refine ⟨en, ?_, fun q => ?_, fun q => ?_⟩
    · unfold ktT
      rw [sk, if_neg n0, if_neg (by rw [l0]; simp), if_pos g0, en, if_pos (by omega)]
      rfl
    · unfold nuA
      rw [sk, en, show p + (u + b.length) - (p + u) = 0 + b.length by omega]
      refine (dgN_f b b 0 0 (fun j hj => ?_) rfl).symm
      rw [Nat.add_zero]
      exact hb j hj
    · exact absurd (show (17 : Nat) = 16 from q) (by omega)
  · simp only at k0 h3
    subst k0
    subst h3
    have c0 : cdF (bf (p + u)) = 59 := b0
    have en : enT n bf p = p + (u + 1) := by
      unfold enT
      rw [sk, if_neg n0, c0, if_neg (by decide), if_neg (by decide)]
      omega
    refine ⟨en, ?_, fun q => ?_, fun q => ?_⟩
    · unfold ktT
      rw [sk, if_neg n0, c0, if_neg (by decide), if_neg (by decide), if_pos rfl]
      rfl
    · exact absurd (show (18 : Nat) = 17 from q) (by omega)
    · exact absurd (show (18 : Nat) = 16 from q) (by omega)
theorem okP.b {x : Pc} {r : List Pc} (h : okP (x :: r)) : okB x := by
  cases r with
  | nil => exact h.1
  | cons y r => exact h.1
theorem okP.t {x : Pc} {r : List Pc} (h : okP (x :: r)) : okP r := by
  cases r with
  | nil => trivial
  | cons y r => exact h.2.2
theorem lex {n : Nat} {bf : Nat → Int32} {C : List Nat} (hn : n = C.length) (hc : ∀ k, k < n → cdF (bf k) = C.getD k 0) : ∀ (ps : List Pc) (pre : List Nat), okP ps → C = pre ++ pcT ps → Tks n bf pre.length (ps.map tkP ++ [(19, 0, [])])
  | [], pre, _, e => by
    have : n = pre.length := by rw [hn, e]; simp [pcT]
    refine ⟨?_, fun q => absurd (show (19 : Nat) = 17 from q) (by omega), fun q => absurd (show (19 : Nat) = 16 from q) (by omega), trivial⟩
    have sk := (skT_rg (n := n) (bf := bf) (p := pre.length) (by omega)).1
    unfold ktT
    rw [if_pos (by omega)]
  | x :: r, pre, ok, e => by
    have e2 : C = (pre ++ (wsP x ++ x.2.2)) ++ pcT r := by rw [e, pcT, List.append_assoc, List.append_assoc]
    have len : C.length = pre.length + ((wsP x).length + x.2.2.length) + (pcT r).length := by rw [e2]; simp; omega
    have at_ : ∀ j, j < (wsP x ++ x.2.2 ++ pcT r).length → cdF (bf (pre.length + j)) = (wsP x ++ x.2.2 ++ pcT r).getD j 0 := fun j hj => by
      have hj2 : j < (wsP x).length + x.2.2.length + (pcT r).length := by
        simp only [List.length_append] at hj
        exact hj
      rw [hc _ (by omega), e2, List.append_assoc pre, List.getD_eq_getElem?_getD, List.getElem?_append_right (by omega), Nat.add_sub_cancel_left, ← List.getD_eq_getElem?_getD]
    have tp := tok_pc (n := n) (bf := bf) (p := pre.length) ok.b (by omega) (fun j hj => by
      rw [at_ j (by simp; omega), List.getD_eq_getElem?_getD, List.getElem?_append_left (by simpa using hj), ← List.getD_eq_getElem?_getD]) (by
      cases r with
      | nil => exact Or.inl (by rw [hn, len]; simp [pcT])
      | cons y r =>
        refine Or.inr ?_
        have c1 := at_ ((wsP x).length + x.2.2.length) (by
          have : 1 ≤ (pcT (y :: r)).length := by
            rcases ok.t.b with ⟨_, h1, _⟩ | ⟨_, h1, _⟩ | ⟨_, h1⟩
            · simp [pcT]; omega
            · simp [pcT]; omega
            · simp [pcT, h1]; omega
          simp only [List.length_append]
          omega)
        rw [List.getD_eq_getElem?_getD, List.getElem?_append_right (by simp), show (wsP x).length + x.2.2.length - (wsP x ++ x.2.2).length = 0 by simp, ← List.getD_eq_getElem?_getD] at c1
        rw [c1]
        have y1 := ok.2.1
        have first : (pcT (y :: r)).getD 0 0 = 32 ∨ (pcT (y :: r)).getD 0 0 = 59 ∨ x.2.1 = 2 := by
          rcases y1 with y1 | y1 | y1
          · left
            unfold pcT wsP
            rw [y1]
            rfl
          · by_cases ys : y.1 = true
            · left
              unfold pcT wsP
              rw [ys]
              rfl
            · right; left
              rcases ok.t.b with ⟨h0, _⟩ | ⟨h0, _⟩ | ⟨_, h1⟩
              · omega
              · omega
              · unfold pcT wsP
                rw [if_neg ys, h1]
                rfl
          · exact Or.inr (Or.inr y1)
        rcases first with f | f | f
        · rw [f]; exact ⟨fun _ => rfl, fun _ => rfl⟩
        · rw [f]; exact ⟨fun _ => rfl, fun _ => rfl⟩
        · exact ⟨fun q => by omega, fun q => by omega⟩)
    obtain ⟨t1, t2, t3, t4⟩ := tp
    refine ⟨t2, t3, t4, ?_⟩
    rw [t1]
    have ih := lex hn hc r (pre ++ (wsP x ++ x.2.2)) ok.t e2
    rw [show (pre ++ (wsP x ++ x.2.2)).length = pre.length + ((wsP x).length + x.2.2.length) by simp] at ih
    exact ih
