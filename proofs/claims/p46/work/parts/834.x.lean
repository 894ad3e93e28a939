variable {X : Kd}
def okl (s t : Nat → Nat) (G : Int32) (i d q : Nat) : Nat → Option Nat := lst (okO s t G i d q) (ldN s t)
theorem okl_succ {s t : Nat → Nat} {G : Int32} {i d q n : Nat} : okl s t G i d q (n + 1) = (match okl s t G i d q n with
    | none => if okO s t G i d q n = true then some n else none
    | some b => if ldN s t n < ldN s t b then (if okO s t G i d q n = true then some n else some b) else some b) := rfl
theorem bst_okl {s t : Nat → Nat} {G : Int32} {i d q r n : Nat} : bst s t G i d q r n = if (okR s t i d q r && okW s t i d q) = true then okl s t G i d q n else none := by
  unfold bst okl
  cases e : (okR s t i d q r && okW s t i d q)
  · rw [if_neg (by decide)]
    refine lst_none n (fun o ho => ?_)
    have h : ¬ pbN s t G i d q r o = 0 := fun q0 => by
      have := pbN_0.mp q0
      rw [e] at this
      cases this
    simpa using h
  · rw [if_pos rfl]
    refine lst_congr n (fun o ho => ?_) (fun o ho => rfl)
    have h : pbN s t G i d q r o = 0 ↔ okO s t G i d q o = true := by rw [pbN_0, e, Bool.true_and]
    cases e2 : okO s t G i d q o with
    | true => have := h.mpr e2; simp [this]
    | false =>
      have : ¬ pbN s t G i d q r o = 0 := fun q0 => by have := h.mp q0; rw [e2] at this; cases this
      simp [this]
theorem fstF_congr {p p' : Nat → Bool} : ∀ d c, (∀ k, c ≤ k → k < c + d → p k = p' k) → fstF p c d = fstF p' c d
  | 0, c, _ => rfl
  | d + 1, c, h => by rw [fstF, fstF, h c (by omega) (by omega), fstF_congr d (c + 1) (fun k h1 h2 => h k (by omega) (by omega))]
theorem fstF_none {p : Nat → Bool} : ∀ d c, (∀ k, c ≤ k → k < c + d → p k = false) → fstF p c d = none
  | 0, c, _ => rfl
  | d + 1, c, h => by
    rw [fstF, h c (by omega) (by omega), fstF_none d (c + 1) (fun k h1 h2 => h k (by omega) (by omega))]
    rfl
theorem fstF_at {p : Nat → Bool} : ∀ d c k, c ≤ k → k < c + d → p k = true → (∀ j, c ≤ j → j < k → p j = false) → fstF p c d = some k
  | 0, c, k, h1, h2, _, _ => by omega
  | d + 1, c, k, h1, h2, h3, h4 => by
    rw [fstF]
    by_cases e : c = k
    · subst e; rw [if_pos h3]
    · rw [h4 c (by omega) (by omega), if_neg (by decide)]
      exact fstF_at d (c + 1) k (by omega) (by omega) h3 (fun j j1 j2 => h4 j (by omega) j2)
theorem rmF_okl {s t : Nat → Nat} {G : Int32} {i d q : Nat} : rmF s t G i d q = if (okW s t i d q && (okl s t G i d q (s 1)).isSome) = true then fstF (okR s t i d q) 0 (s 0) else none := by
  unfold rmF
  cases e : (okW s t i d q && (okl s t G i d q (s 1)).isSome)
  · rw [if_neg (by decide)]
    refine fstF_none _ _ (fun k h1 h2 => ?_)
    rw [bst_okl]
    cases e1 : okW s t i d q
    · simp
    · rw [e1, Bool.true_and] at e
      cases okR s t i d q k
      · simp
      · simp only [Bool.and_self, if_true]; exact e
  · rw [if_pos rfl]
    refine fstF_congr _ _ (fun k h1 h2 => ?_)
    simp only [Bool.and_eq_true] at e
    rw [bst_okl, e.1]
    cases okR s t i d q k
    · simp
    · simp only [Bool.and_self, if_true]; exact e.2
theorem or_z {a x y : Nat} : a &&& (x ||| y) = 0 ↔ a &&& x = 0 ∧ a &&& y = 0 := by
  rw [and_z, and_z, and_z]
  constructor
  · intro H
    refine ⟨fun k hk => ?_, fun k hk => ?_⟩
    · have := H k hk
      rw [Nat.testBit_or, Bool.or_eq_false_iff] at this
      exact this.1
    · have := H k hk
      rw [Nat.testBit_or, Bool.or_eq_false_iff] at this
      exact this.2
  · intro H k hk
    rw [Nat.testBit_or, H.1 k hk, H.2 k hk]
    rfl
theorem x_leastLoaded {w : Wd} {a b : Nat} {s t : Nat → Nat} (h : HX w a b s t) {G : Int32} {i d q ab : Nat} (hi : i < s 3) (hd : d < 2 ^ 31) (hq : q + s (100 + i) < 9) (hab : AB s G ab) (hO : LO w s t i) (hD : LD w s t i d ab (s 3)) : f_X6_leastLoaded (Kx X) 404 (nI (s 1)) (nI (sset q (s (100 + i)))) w = some (oI (okl s t G i d q (s 1)), w) := by
  have h6 := h.gs.1.2.1
  have bs : sset q (s (100 + i)) < 4096 := sset_lt (by omega)
  have b605 := hab.lt (d := d) h6
  have b604 : brN s t i < 64 := brN_lt h.gs h.gt hi
  unfold f_X6_leastLoaded
  simp only [il]
  refine loop_g (fun f c => f_X6_leastLoaded_L5 (Kx X) 404 (fun v1_5 v2_5 v3_5 v4_5 w1 => some (v3_5, w1)) f (nI (s 1)) (nI (sset q (s (100 + i)))) (oI (okl s t G i d q c)) (nI c) w) (fun _ => some (oI (okl s t G i d q (s 1)), w)) (s 1) (fun f => ?_) (fun f c hc ih => ?_) fu 0 (by omega) (fu_lt (by omega))
  · try dsimp only
    rw [f_X6_leastLoaded_L5]
    simp (disch := first | omega | assumption) only [il, Option.bind_some, ixa_n, nI_add, pk_mul, if_le_t, if_le_f, if_lt_t, if_lt_f, if_eq_t, if_eq_f, ↓ifb', h.su, x_size h, h.pg, h.pe, h.mt, h.me, h.p0, h.p1, h.p6, h.p2, h.p3, h.p4, h.p5, h.n2, h.n3, h.n4, h.n5, h.f0, h.f1, h.f2, h.f4, h.f5, h.dy]
  · try dsimp only at ih ⊢
    have bb : brN s t i ||| (ab ||| awN s d (s 1)) < 64 := Nat.or_lt_two_pow (n := 6) b604 b605
    have bF : ofN s t i d c (s 3) < 2 ^ 12 := tkG_lt h.gs h.gt (by omega)
    have z1 : (nI (sset q (s (100 + i))) &&& nI (ofN s t i d c (s 3)) = nI 0) ↔ ofT s t i d q c = false := (zN (by omega) (by omega)).trans (tkG_z h.gs hi)
    have v601 : aI w 406 c = nI (ofN s t i d c (s 3)) := hD.2.2.2.2 c (by omega)
    have v602 : aI w 407 c = nI (ldN s t c) := hO.2 c hc
    have hl : ldN s t c ≤ 48 := loadN_le h.gs c (Nat.le_refl (s 3))
    rw [f_X6_leastLoaded_L5]
    rw [okl_succ] at ih
    have eb : (brN s t i ||| (ab ||| awN s d (s 1))).testBit c = (brd s t c i || offS s G c d) := by rw [Nat.testBit_or, brN_bit, hab.off hc]
    have eO : okO s t G i d q c = (!(brd s t c i || offS s G c d) && !ofT s t i d q c) := by
      unfold okO
      cases brd s t c i <;> cases offS s G c d <;> cases ofT s t i d q c <;> rfl
    cases e1 : (brd s t c i || offS s G c d)
    · cases e2 : ofT s t i d q c
      · cases e : okl s t G i d q c with
        | none =>
          rw [e] at ih
          simp (disch := first | omega | assumption) only [il, Option.bind_some, ixa_n, nI_add, pk_mul, if_le_t, if_le_f, if_lt_t, if_lt_f, if_eq_t, if_eq_f, ↓ifb', h.su, x_size h, h.pg, h.pe, h.mt, h.me, h.p0, h.p1, h.p6, h.p2, h.p3, h.p4, h.p5, h.n2, h.n3, h.n4, h.n5, h.f0, h.f1, h.f2, h.f4, h.f5, h.dy, hO.1, hD.1, or_nI, x_has, eb, e1, Bool.false_eq_true, if_false, x601 h.1, v601, z1, if_pos e2, oI_none, if_true]
          simpa [eO, e1, e2, oI] using ih
        | some m =>
          have i1 := lst_some c m e
          have hl2 : ldN s t m ≤ 48 := loadN_le h.gs m (Nat.le_refl (s 3))
          have v6 : aI w 407 m = nI (ldN s t m) := hO.2 m (by omega)
          have e4 : ¬ (nI m = -nI 1) := fun q => neg1_eq (a := m) (by omega) q.symm
          rw [e] at ih
          by_cases e3 : ldN s t c < ldN s t m
          · simp (disch := first | omega | assumption) only [il, Option.bind_some, ixa_n, nI_add, pk_mul, if_le_t, if_le_f, if_lt_t, if_lt_f, if_eq_t, if_eq_f, ↓ifb', h.su, x_size h, h.pg, h.pe, h.mt, h.me, h.p0, h.p1, h.p6, h.p2, h.p3, h.p4, h.p5, h.n2, h.n3, h.n4, h.n5, h.f0, h.f1, h.f2, h.f4, h.f5, h.dy, hO.1, hD.1, or_nI, x_has, eb, e1, Bool.false_eq_true, if_false, x601 h.1, x602 h.1, v601, v602, v6, z1, if_pos e2, oI_some, if_neg e4]
            simpa [eO, e1, e2, e3, oI] using ih
          · simp (disch := first | omega | assumption) only [il, Option.bind_some, ixa_n, nI_add, pk_mul, if_le_t, if_le_f, if_lt_t, if_lt_f, if_eq_t, if_eq_f, ↓ifb', h.su, x_size h, h.pg, h.pe, h.mt, h.me, h.p0, h.p1, h.p6, h.p2, h.p3, h.p4, h.p5, h.n2, h.n3, h.n4, h.n5, h.f0, h.f1, h.f2, h.f4, h.f5, h.dy, hO.1, hD.1, or_nI, x_has, eb, e1, Bool.false_eq_true, if_false, x601 h.1, x602 h.1, v601, v602, v6, z1, if_pos e2, oI_some, if_neg e4]
            simpa [eO, e1, e2, e3, oI] using ih
      · have e3 : ¬ (ofT s t i d q c = false) := by rw [e2]; decide
        simp (disch := first | omega | assumption) only [il, Option.bind_some, ixa_n, nI_add, pk_mul, if_le_t, if_le_f, if_lt_t, if_lt_f, if_eq_t, if_eq_f, ↓ifb', h.su, x_size h, h.pg, h.pe, h.mt, h.me, h.p0, h.p1, h.p6, h.p2, h.p3, h.p4, h.p5, h.n2, h.n3, h.n4, h.n5, h.f0, h.f1, h.f2, h.f4, h.f5, h.dy, hO.1, hD.1, or_nI, x_has, eb, e1, Bool.false_eq_true, if_false, x601 h.1, v601, z1, if_neg e3]
        cases e : okl s t G i d q c with
        | none => rw [e] at ih; simpa [eO, e1, e2] using ih
        | some m => rw [e] at ih; simpa [eO, e1, e2] using ih
    · simp (disch := first | omega | assumption) only [il, Option.bind_some, ixa_n, nI_add, pk_mul, if_le_t, if_le_f, if_lt_t, if_lt_f, if_eq_t, if_eq_f, ↓ifb', h.su, x_size h, h.pg, h.pe, h.mt, h.me, h.p0, h.p1, h.p6, h.p2, h.p3, h.p4, h.p5, h.n2, h.n3, h.n4, h.n5, h.f0, h.f1, h.f2, h.f4, h.f5, h.dy, hO.1, hD.1, or_nI, x_has, eb, e1, if_true]
      cases e : okl s t G i d q c with
      | none => rw [e] at ih; simpa [eO, e1] using ih
      | some m => rw [e] at ih; simpa [eO, e1] using ih
theorem x_findIn {w : Wd} {a b : Nat} {s t : Nat → Nat} (h : HX w a b s t) {G : Int32} {i d q ab : Nat} (hi : i < s 3) (hd : d < 2 ^ 31) (hq : q + s (100 + i) < 9) (hab : AB s G ab) (hO : LO w s t i) (hD : LD w s t i d ab (s 3)) : f_X6_findIn (Kx X) 404 (wR w 1000 a) (nI (sset q (s (100 + i)))) w = (match okl s t G i d q (s 1), fstF (okR s t i d q) 0 (s 0) with
    | some o, some r => some (true, sI (sI w 610 404 (nI r)) 611 404 (nI o))
    | _, _ => some (false, w)) := by
  have h6 := h.gs.1.2.1
  have h3 := h.gs.1.1
  have bs : sset q (s (100 + i)) < 4096 := sset_lt (by omega)
  unfold f_X6_findIn
  rw [h.su, Option.bind_some, show (1 : Int32) = nI 1 from rfl, x_size h (by omega), Option.bind_some, x_leastLoaded h hi hd hq hab hO hD, Option.bind_some]
  try dsimp only
  cases e : okl s t G i d q (s 1) with
  | none =>
    obtain ⟨g, eg⟩ : ∃ g, fu = g + 1 := ⟨fu - 1, by have := fu_lt (n := 5) (by omega); omega⟩
    rw [eg, f_X6_findIn_L14]
    by_cases e0 : s 0 = 0
    · simp (disch := first | omega | assumption) only [il, Option.bind_some, ixa_n, nI_add, pk_mul, if_le_t, if_le_f, if_lt_t, if_lt_f, if_eq_t, if_eq_f, ↓ifb', h.su, x_size h, h.pg, h.pe, h.mt, h.me, h.p0, h.p1, h.p6, h.p2, h.p3, h.p4, h.p5, h.n2, h.n3, h.n4, h.n5, h.f0, h.f1, h.f2, h.f4, h.f5, h.dy]
    · simp (disch := first | omega | assumption) only [il, Option.bind_some, ixa_n, nI_add, pk_mul, if_le_t, if_le_f, if_lt_t, if_lt_f, if_eq_t, if_eq_f, ↓ifb', h.su, x_size h, h.pg, h.pe, h.mt, h.me, h.p0, h.p1, h.p6, h.p2, h.p3, h.p4, h.p5, h.n2, h.n3, h.n4, h.n5, h.f0, h.f1, h.f2, h.f4, h.f5, h.dy, oI_none, if_true]
  | some o =>
    have i1 := lst_some _ _ e
    have e4 : ¬ (nI o = -nI 1) := fun q => neg1_eq (a := o) (by omega) q.symm
    try dsimp only
    refine (loop_fst (fun f c => f_X6_findIn_L14 (Kx X) 404 (fun v1_14 v2_14 v3_14 v4_14 w4 => some (false, w4)) f (wR w 1000 a) (nI (sset q (s (100 + i)))) (oI (some o)) (nI c) w) (okR s t i d q) (s 0) (fun r => some (true, sI (sI w 610 404 (nI r)) 611 404 (nI o))) (some (false, w)) (fun f => ?_) (fun f c hc hp => ?_) (fun f c hc hp => ?_) (s 0) 0 fu (by omega) (fu_lt (by omega))).trans ?_
    · try dsimp only
      rw [f_X6_findIn_L14]
      simp (disch := first | omega | assumption) only [il, Option.bind_some, ixa_n, nI_add, pk_mul, if_le_t, if_le_f, if_lt_t, if_lt_f, if_eq_t, if_eq_f, ↓ifb', h.su, x_size h, h.pg, h.pe, h.mt, h.me, h.p0, h.p1, h.p6, h.p2, h.p3, h.p4, h.p5, h.n2, h.n3, h.n4, h.n5, h.f0, h.f1, h.f2, h.f4, h.f5, h.dy]
    · try dsimp only
      have bm := msk_lt (lo := s (4 + c)) (hi := s (7 + c)) (h.gs.2.1 c hc).2
      have bO : rmN s t i d c (s 3) < 2 ^ 12 := tkG_lt h.gs h.gt (by omega)
      have zz : 4294967295 ^^^ msk (s (4 + c)) (s (7 + c)) < 2 ^ 32 := Nat.xor_lt_two_pow (by decide) (by omega)
      have zo : rmN s t i d c (s 3) ||| (4294967295 ^^^ msk (s (4 + c)) (s (7 + c))) < 2 ^ 32 := Nat.or_lt_two_pow (n := 32) (by omega) zz
      have v600 : aI w 405 c = nI (rmN s t i d c (s 3)) := hD.2.2.2.1 c (by omega)
      have z0 : (nI (sset q (s (100 + i))) &&& nI (rmN s t i d c (s 3) ||| (4294967295 ^^^ msk (s (4 + c)) (s (7 + c)))) = nI 0) ↔ okR s t i d q c = true := by
        rw [zN (by omega) zo, or_z, roomZ h.gs hi hc (by omega), rmN, tkG_z h.gs hi]
        unfold okR rmT
        rw [Bool.and_eq_true, Bool.not_eq_true', decide_eq_true_eq]
        exact and_comm
      rw [f_X6_findIn_L14]
      simp (disch := first | omega | assumption) only [il, Option.bind_some, ixa_n, nI_add, pk_mul, if_le_t, if_le_f, if_lt_t, if_lt_f, if_eq_t, if_eq_f, ↓ifb', h.su, x_size h, h.pg, h.pe, h.mt, h.me, h.p0, h.p1, h.p6, h.p2, h.p3, h.p4, h.p5, h.n2, h.n3, h.n4, h.n5, h.f0, h.f1, h.f2, h.f4, h.f5, h.dy, oI_some, if_neg e4, x600 h.1, u901 h.1 h.2.1.2.1, v600, RU2 h hc, not_nI, or_nI, z0, if_pos hp]
    · try dsimp only
      have bm := msk_lt (lo := s (4 + c)) (hi := s (7 + c)) (h.gs.2.1 c hc).2
      have bO : rmN s t i d c (s 3) < 2 ^ 12 := tkG_lt h.gs h.gt (by omega)
      have zz : 4294967295 ^^^ msk (s (4 + c)) (s (7 + c)) < 2 ^ 32 := Nat.xor_lt_two_pow (by decide) (by omega)
      have zo : rmN s t i d c (s 3) ||| (4294967295 ^^^ msk (s (4 + c)) (s (7 + c))) < 2 ^ 32 := Nat.or_lt_two_pow (n := 32) (by omega) zz
      have v600 : aI w 405 c = nI (rmN s t i d c (s 3)) := hD.2.2.2.1 c (by omega)
      have z0 : (nI (sset q (s (100 + i))) &&& nI (rmN s t i d c (s 3) ||| (4294967295 ^^^ msk (s (4 + c)) (s (7 + c)))) = nI 0) ↔ okR s t i d q c = true := by
        rw [zN (by omega) zo, or_z, roomZ h.gs hi hc (by omega), rmN, tkG_z h.gs hi]
        unfold okR rmT
        rw [Bool.and_eq_true, Bool.not_eq_true', decide_eq_true_eq]
        exact and_comm
      have hp2 : ¬ (okR s t i d q c = true) := by rw [hp]; decide
      rw [f_X6_findIn_L14]
      simp (disch := first | omega | assumption) only [il, Option.bind_some, ixa_n, nI_add, pk_mul, if_le_t, if_le_f, if_lt_t, if_lt_f, if_eq_t, if_eq_f, ↓ifb', h.su, x_size h, h.pg, h.pe, h.mt, h.me, h.p0, h.p1, h.p6, h.p2, h.p3, h.p4, h.p5, h.n2, h.n3, h.n4, h.n5, h.f0, h.f1, h.f2, h.f4, h.f5, h.dy, oI_some, if_neg e4, x600 h.1, u901 h.1 h.2.1.2.1, v600, RU2 h hc, not_nI, or_nI, z0, if_neg hp2]
    · cases fstF (okR s t i d q) 0 (s 0) <;> rfl

