/-! What lies beyond the class's own objects is free; isGood answers true. -/
variable {X : Kd}
def TSy (f x : Nat) : Prop := TSx f x ∨ 415 ≤ x
def TAy (x : Nat) : Prop := TAx x ∨ 415 ≤ x
theorem ty73 {w w' : Wd} {b : Nat} {s t : Nat → Nat} (h : HX w 73 b s t) (r : Fr TSy TAy w w') (f : FX w') : HX w' 73 b s t := by
  have ub := SU_rg h.2.1.2.1
  refine h.fr r f (fun f x q => ?_) (fun x q => ?_)
  · unfold TSy TSx at q
    unfold RG RB
    omega
  · unfold TAy TAx at q
    unfold RG RB
    omega
theorem Cst.frY {w w' : Wd} {b : Nat} {s t : Nat → Nat} {m : Nat} {hs : Nat → Nat → Nat} (h : Cst w b s t m hs) (r : Fr TSy TAy w w') (f : FX w') : Cst w' b s t m hs := ⟨ty73 h.1 r f, h.2.1, h.2.2.1.fr h.1.2.1.2.1 r f (fun f x q => by unfold TSy TSx at q; unfold inU; omega) (fun x q => by unfold TAy TAx at q; unfold inU; omega), h.2.2.2⟩
theorem fr_tIY {w : Wd} {a i : Nat} {v : Int32} (h : 415 ≤ a) : Fr TSy TAy w (tI w a i v) := (ofi_tI (S := NS) (A := fun x => x = a) rfl).fr.mono (fun _ _ q => q.elim) (fun x q => Or.inr (by omega))
theorem frt_lo : ∀ p, p ∈ frt → p.2.1 < 415 := by decide +kernel
theorem fet_lo : ∀ p, p ∈ fet → p.1 < 415 := by decide +kernel
theorem FX_clr {w : Wd} {n : Nat} (h : FX w) (hn : 415 ≤ n) : FX (clr w n) := ⟨fun p hp => by
  have := frt_lo p hp
  rw [show wR (clr w n) p.1 p.2.1 = wR w p.1 p.2.1 from if_neg (by omega)]
  exact h.1 p hp, fun p hp => by
  have := fet_lo p hp
  rw [show aR (clr w n) p.1 = aR w p.1 from if_neg (by omega)]
  exact h.2 p hp⟩
theorem fr_clr {w : Wd} {n : Nat} (hn : 415 ≤ n) : Fr TSy TAy w (clr w n) := ⟨fun f x q => by
  have hx : x ≠ n := fun e => q (Or.inr (by omega))
  exact ⟨if_neg hx, if_neg hx, if_neg hx⟩, fun x q => by
  have hx : x ≠ n := fun e => q (Or.inr (by omega))
  exact ⟨if_neg hx, if_neg hx, if_neg hx⟩⟩
theorem kup_x {n : Nat} {q : Nat × Nat} (hn : 415 ≤ n) : kup (Kx X) n q = Kx (kup X n q) := funext fun a => by
  unfold kup Kx
  by_cases e : a < 415
  · rw [if_pos e, if_neg (show ¬ a = n by omega), if_pos e]
  · rw [if_neg e, if_neg e]
theorem kx_hi {a : Nat} (h : 415 ≤ a) : Kx X a = X a := if_neg (by omega)
theorem k10 : chk (Kx X) 10 (some 0) = some 0 := ck rfl (kx (by decide +kernel))
theorem g136 {w : Wd} {b : Nat} {s t : Nat → Nat} (h : HX w 73 b s t) {c : Nat} (hc : c < s 3) {v1 : Option Nat} {v3 : Int32} (k : Option Nat → Option Nat → Int32 → Int32 → Int32 → Int32 → Wd → Option (Bool × Wd)) : f_L_isGood_L136 (Kx X) k fu (some 0) v1 (nI c) v3 0 0 w = k (some 0) v1 (nI c) v3 (grI t c (cs t c 2)) (nI (cs t c 2)) w := by
  have c3 := h.gt.c3 (i := c) (by have := h.gs.1; omega)
  refine loop_g (fun f j => f_L_isGood_L136 (Kx X) k f (some 0) v1 (nI c) v3 (grI t c j) (nI j) w) (fun _ => k (some 0) v1 (nI c) v3 (grI t c (cs t c 2)) (nI (cs t c 2)) w) (cs t c 2) (fun f => ?_) (fun f j hj ih => ?_) fu 0 (by omega) (fu_lt (by omega))
  · try dsimp only
    rw [f_L_isGood_L136, k10, Option.bind_some, n_matter7 h hc, Option.bind_some]
    try dsimp only
    rw [if_le_t (by omega) (by omega) (Nat.le_refl _)]
  · try dsimp only at ih ⊢
    rw [f_L_isGood_L136, k10, Option.bind_some, n_matter7 h hc, Option.bind_some]
    try dsimp only
    rw [if_le_f (by omega) (by omega) hj, n_adj h hc hj, Option.bind_some]
    try dsimp only
    rw [← ih, grI, show nI j + 1 = nI (j + 1) from nI_add j 1, Nat.add_assoc]
theorem tkn_c {s t : Nat → Nat} (hS : GoodS s) (hT : GoodT s t) (hp : PW s t) {c : Nat} (hc : c < s 3) (hr : hrg t c = true) : fstF (tkn s t (cs t c 5) (cs t c 3) (cs t c 4)) 0 (s 3) = some c := by
  have l1 := (hS.2.2.2.2.1 c hc).2.1.1
  refine fstF_at _ _ _ (Nat.zero_le _) (by omega) ?_ (fun j _ hj => ?_)
  · unfold tkn
    rw [hr, beq_self_eq_true, beq_self_eq_true, decide_eq_true (by omega)]
    rfl
  · cases e : tkn s t (cs t c 5) (cs t c 3) (cs t c 4) j with
    | false => rfl
    | true =>
      unfold tkn at e
      simp only [Bool.and_eq_true, beq_iff_eq, decide_eq_true_eq] at e
      have h := (hp c j hc (by omega) (by omega) hr e.1.1.1).1 e.1.2.symm (by omega) (by omega)
      exact absurd e.1.1.2.symm h.1
theorem i01 : ¬ ((0 : Int32) = 1) := by decide
theorem i02 : ¬ ((0 : Int32) = 2) := by decide
theorem i10 : ¬ ((1 : Int32) = 0) := by decide
theorem i12 : ¬ ((1 : Int32) = 2) := by decide
theorem i20 : ¬ ((2 : Int32) = 0) := by decide
theorem i21 : ¬ ((2 : Int32) = 1) := by decide
theorem i30 : ¬ ((3 : Int32) = 0) := by decide
theorem i31 : ¬ ((3 : Int32) = 1) := by decide
theorem i32 : ¬ ((3 : Int32) = 2) := by decide
/-- the loads' array -/
def LOA (w : Wd) (n : Nat) (s t : Nat → Nat) (c : Nat) : Prop := ∀ o, o < 2 → aI w n o = nI (loadN s t o c)
theorem good_step {w : Wd} {b m n : Nat} {s t : Nat → Nat} {hs : Nat → Nat → Nat} (h : Cst w b s t m hs) (hG : GI (fun _ => false) s t) (h1 : s 1 = 2) (hn : 415 ≤ n) (hX : X n = some (20, 2)) {c : Nat} (hc : c < s 3) (h34 : s 3 = 4) (hl : LOA w n s t c) (k : Option Nat → Option Nat → Int32 → Wd → Option (Bool × Wd)) (f : Nat) : ∃ w', f_L_isGood_L39 (Kx X) k (f + 1) (some 0) (some n) (nI c) w = f_L_isGood_L39 (Kx X) k f (some 0) (some n) (nI (c + 1)) w' ∧ Cst w' b s t m hs ∧ LOA w' n s t (c + 1) := by
  have hx := h.1
  have hS := hx.gs
  have hT := hx.gt
  obtain ⟨g1, g2, g3, g4, g5⟩ := id hG
  have c12 : c < 12 := by omega
  have c3 := hT.c3 c12
  have e0 := n_matter5 (X := X) hx hc
  have hca : cha (Kx X) 20 (some n) = some (n, 2) := ca rfl (by rw [kx_hi hn]; exact hX)
  have m3 := n_matter3 (X := X) hx hc
  have m4 := n_matter4 (X := X) hx hc
  have m6 := n_matter6 (X := X) hx hc
  have q7 := n_count7 (X := X) hx
  have q8 := n_count8 (X := X) hx
  have p0 := n_hearing0 (X := X) hx hc
  have l0 := limD_le hS hT hc
  have t0 := hT.1
  have gg := g5 c hc
  have e136 : ∀ (v3 : Int32) (k : Option Nat → Option Nat → Int32 → Int32 → Int32 → Int32 → Wd → Option (Bool × Wd)), f_L_isGood_L136 (Kx X) k fu (some 0) (some n) (nI c) v3 0 0 w = k (some 0) (some n) (nI c) v3 (nI (cs t c 1)) (nI (cs t c 2)) w := fun v3 k => by rw [g136 hx hc, gg]
  have sc : nI c + 1 = nI (c + 1) := nI_add c 1
  have x4 : ¬ ((4 : Int32) ≤ nI c) := fun q => by
    have := (nI_leI (a := 4) (b := c) (by omega) (by omega)).mp q
    omega
  have cu : (b2i (s (124 + c) == 1) = 1 ∧ nI (cs t c 1) ≤ nI (s 164)) ∨ b2i (s (124 + c) == 1) = 0 := by
    by_cases e : s (124 + c) = 1
    · exact Or.inl ⟨by rw [e]; rfl, (nI_leI (by omega) (by have := hS.2.2.2.2.2.2.2; omega)).mpr (g4 c hc e)⟩
    · exact Or.inr (by rw [beq_false_of_ne e]; rfl)
  by_cases hr : hrg t c = true
  · have hh := hT.hr c12 hr
    have lc := (hS.2.2.2.2.1 c hc).2.1
    have p3 := n_hearing3 (X := X) hx hc
    have m1 := n_matter1 (X := X) hx hc
    rw [if_pos hr] at p0 p3
    have hw1 : Cst (tI w n (cs t c 6) (aI w n (cs t c 6) + nI (s (100 + c)))) b s t m hs := h.frY (fr_tIY hn) hx.1.tI
    have r0 := n_hearing0 (X := X) hw1.1 hc
    have r1 := n_hearing1 (X := X) hw1.1 hc
    have r2 := n_hearing2 (X := X) hw1.1 hc
    have r3 := n_hearing3 (X := X) hw1.1 hc
    rw [if_pos hr] at r0 r1 r2 r3
    have r4 := n_caseAt (X := X) hw1.1 (r := cs t c 5) (d := cs t c 3) (q := cs t c 4) hh.2.2.2.1 hh.2.1 (by omega)
    rw [tkn_c hS hT g2 hc hr, show oI (some c) = nI c from rfl] at r4
    have ix : ixa (nI (cs t c 6)) 2 = some (cs t c 6) := ixa_n (by omega) (by omega)
    have d0 : ¬ nI (cs t c 3) < 0 := fun q => by
      have := lt0.mp q
      rw [nI_toInt (by omega)] at this
      omega
    have d1 : (0 : Int32) ≤ nI (cs t c 3) := (nI_leI (a := 0) (by omega) (by omega)).mpr (Nat.zero_le _)
    have hl1 : LOA (tI w n (cs t c 6) (aI w n (cs t c 6) + nI (s (100 + c)))) n s t (c + 1) := fun o ho => by
      rw [aI_tI, loadN, sm, hr, Bool.true_and]
      by_cases e : o = cs t c 6
      · rw [if_pos ⟨rfl, e⟩, ← e, hl o ho, beq_self_eq_true, if_pos rfl, nI_add]
        rfl
      · rw [if_neg (fun q => e q.2), beq_false_of_ne (fun q => e q.symm), if_neg (by decide), Nat.add_zero]
        exact hl o ho
    by_cases e1 : cs t c 0 = 1
    · have u := (g1 c hc e1).1 rfl
      obtain ⟨w2, r5, o5⟩ := n_problem (X := X) hw1.1 hc (d := cs t c 3) (q := cs t c 4) (r := cs t c 5) (o := cs t c 6) hh.2.1 (by omega) hh.2.2.2.1 hh.2.2.2.2 (by omega)
      rw [fl_of hS g2 hc hr u] at r5
      refine ⟨w2, ?_, hw1.off o5, fun o ho => by rw [(o5.2.2 n (by unfold PL; omega)).2.2.2.1]; exact hl1 o ho⟩
      rw [e1] at e0
      have z0 : ¬ ((nI 1 : Int32) = 0) := by decide
      have z1 : (nI 1 : Int32) = 1 := rfl
      have z2 : (nI 0 : Int32) = 0 := rfl
      rw [f_L_isGood_L39, if_neg x4]
      rcases cu with ⟨c1, c2⟩ | c1
      · rw [c1] at m6
        simp only [k10, Option.bind_some, e0, z0, z1, if_true, if_false, p0, d0, d1, m6, m3, q8, c2, e136, p3, hca, ix, m1, r0, r1, r2, r3, r4, r5, z2, sc, i01, i02, i10, i12, i20, i21, i30, i31, i32]
      · rw [c1] at m6
        simp only [k10, Option.bind_some, e0, z0, z1, if_true, if_false, p0, d0, d1, m6, m3, q8, e136, p3, hca, ix, m1, r0, r1, r2, r3, r4, r5, z2, sc, i01, i02, i10, i12, i20, i21, i30, i31, i32]
    · have e2 : cs t c 0 = 2 := by
        unfold hrg at hr
        simp only [Bool.or_eq_true, beq_iff_eq] at hr
        omega
      refine ⟨_, ?_, hw1, hl1⟩
      rw [e2] at e0
      have z0 : (nI 2 : Int32) = 2 := rfl
      have z2 : (nI 0 : Int32) = 0 := rfl
      rw [f_L_isGood_L39, if_neg x4]
      rcases cu with ⟨c1, c2⟩ | c1
      · rw [c1] at m6
        simp only [k10, Option.bind_some, e0, z0, if_true, if_false, p0, d0, d1, m6, m3, q8, c2, e136, p3, hca, ix, m1, r0, r1, r2, r3, r4, z2, sc, i01, i02, i10, i12, i20, i21, i30, i31, i32]
      · rw [c1] at m6
        simp only [k10, Option.bind_some, e0, z0, if_true, if_false, p0, d0, d1, m6, m3, q8, e136, p3, hca, ix, m1, r0, r1, r2, r3, r4, z2, sc, i01, i02, i10, i12, i20, i21, i30, i31, i32]
  · have hr0 : hrg t c = false := Bool.eq_false_iff.mpr hr
    rw [if_neg hr] at p0
    have d0 : ¬ ((0 : Int32) ≤ -nI 1) := by decide
    have dn : (-nI 1 : Int32) < 0 := by decide
    have hl1 : LOA w n s t (c + 1) := fun o ho => by
      rw [hl o ho, loadN, loadN, sm, hr0, Bool.false_and, if_neg (by decide), Nat.add_zero]
    refine ⟨w, ?_, h, hl1⟩
    rw [f_L_isGood_L39, if_neg x4]
    by_cases e1 : cs t c 0 = 0
    · rw [e1] at e0
      have z0 : (nI 0 : Int32) = 0 := rfl
      have d1 : ¬ (nI (limD s t c) < nI (t 0)) := fun q => by
        have := (nI_ltI (by omega) (by omega)).mp q
        have := g3 c hc e1
        omega
      rcases cu with ⟨c1, c2⟩ | c1
      · rw [c1] at m6
        simp only [k10, Option.bind_some, e0, z0, if_true, if_false, p0, d0, dn, d1, m4, q7, m6, m3, q8, c2, e136, sc, i01, i02, i10, i12, i20, i21, i30, i31, i32]
      · rw [c1] at m6
        simp only [k10, Option.bind_some, e0, z0, if_true, if_false, p0, d0, dn, d1, m4, q7, m6, m3, q8, e136, sc, i01, i02, i10, i12, i20, i21, i30, i31, i32]
    · have e2 : cs t c 0 = 3 := by
        unfold hrg at hr0
        simp only [Bool.or_eq_false_iff, beq_eq_false_iff_ne] at hr0
        omega
      rw [e2] at e0
      have z0 : (nI 3 : Int32) = 3 := rfl
      rcases cu with ⟨c1, c2⟩ | c1
      · rw [c1] at m6
        simp only [k10, Option.bind_some, e0, z0, if_true, if_false, p0, d0, dn, m6, m3, q8, c2, e136, sc, i01, i02, i10, i12, i20, i21, i30, i31, i32]
      · rw [c1] at m6
        simp only [k10, Option.bind_some, e0, z0, if_true, if_false, p0, d0, dn, m6, m3, q8, e136, sc, i01, i02, i10, i12, i20, i21, i30, i31, i32]
theorem cnt4 {t : Nat → Nat} : ∀ n, (∀ i, i < n → cs t i 0 ≤ 3) → cnt (fun i => cs t i 0 == 0) n + cnt (fun i => cs t i 0 == 1) n + cnt (fun i => cs t i 0 == 2) n + cnt (fun i => cs t i 0 == 3) n = n
  | 0, _ => rfl
  | n + 1, h => by
    have ih := cnt4 n (fun i hi => h i (by omega))
    rw [cnt_succ, cnt_succ, cnt_succ, cnt_succ]
    rcases (by have := h n (by omega); omega : cs t n 0 = 0 ∨ cs t n 0 = 1 ∨ cs t n 0 = 2 ∨ cs t n 0 = 3) with e | e | e | e
    all_goals
      simp only [e]
      have b1 : bn true = 1 := rfl
      have b0 : bn false = 0 := rfl
      simp only [Nat.reduceBEq, b0, b1]
      omega
theorem good_loop {b m n : Nat} {s t : Nat → Nat} {hs : Nat → Nat → Nat} (hG : GI (fun _ => false) s t) (h1 : s 1 = 2) (hn : 415 ≤ n) (hX : X n = some (20, 2)) (h34 : s 3 = 4) (k : Option Nat → Option Nat → Int32 → Wd → Option (Bool × Wd)) (f : Nat) : ∀ d c w, c + d = 4 → Cst w b s t m hs → LOA w n s t c → ∃ w', f_L_isGood_L39 (Kx X) k (f + d + 1) (some 0) (some n) (nI c) w = k (some 0) (some n) (nI 4) w' ∧ Cst w' b s t m hs ∧ LOA w' n s t 4
  | 0, c, w, hd, h, hl => by
    have : c = 4 := by omega
    subst this
    exact ⟨w, by rw [f_L_isGood_L39, if_pos (show (4 : Int32) ≤ nI 4 by decide)], h, hl⟩
  | d + 1, c, w, hd, h, hl => by
    obtain ⟨w1, e1, h1', l1⟩ := good_step (X := X) h hG h1 hn hX (c := c) (by omega) h34 hl k (f + d + 1)
    obtain ⟨w2, e2, h2, l2⟩ := good_loop hG h1 hn hX h34 k f d (c + 1) w1 (by omega) h1' l1
    exact ⟨w2, by rw [show f + (d + 1) + 1 = f + d + 1 + 1 by omega, e1, e2], h2, l2⟩
theorem good_ok {w : Wd} {b m n : Nat} {s t : Nat → Nat} {hs : Nat → Nat → Nat} (h : Cst w b s t m hs) (hG : GI (fun _ => false) s t) (h1 : s 1 = 2) (h34 : s 3 = 4) (hn : 415 ≤ n) : ∃ w', f_L_isGood (Kx X) n (some 0) w = some (true, w') ∧ Cst w' b s t m hs := by
  have hx := h.1
  have hT := hx.gt
  have c4 := cnt4 (t := t) (s 3) (fun i hi => (hT.c3 (by omega)).1)
  have h' : Cst (clr w n) b s t m hs := h.frY (fr_clr hn) (FX_clr hx.1 hn)
  obtain ⟨w1, e1, k1, l1⟩ := good_loop (X := kup X n (20, 2)) hG h1 hn (if_pos rfl) h34 (fun v0_39 v1_39 v2_39 w8 => (cha (Kx (kup X n (20, 2))) 20 v1_39).bind fun a360 => (ixa 0 a360.2).bind fun j361 => (chk (Kx (kup X n (20, 2))) 10 v0_39).bind fun a362 => (f_NX12_load (Kx (kup X n (20, 2))) a362 0 w8).bind fun q363 => if aI w8 a360.1 j361 = q363.1 then (ixa 1 a360.2).bind fun j365 => (f_NX12_load (Kx (kup X n (20, 2))) a362 1 q363.2).bind fun q366 => if aI q363.2 a360.1 j365 = q366.1 then some (true, q366.2) else some (false, q366.2) else some (false, q363.2)) (fu - 5) 4 0 (clr w n) rfl h' (fun o ho => by
    rw [show aI (clr w n) n = fun _ => 0 from if_pos rfl]
    rfl)
  have hf : fu - 5 + 4 + 1 = fu := rfl
  rw [hf] at e1
  refine ⟨w1, ?_, k1⟩
  unfold f_L_isGood
  rw [k10, Option.bind_some, n_count10 hx, Option.bind_some, n_count11 hx, Option.bind_some, n_count12 hx, Option.bind_some, n_count13 hx, Option.bind_some]
  try dsimp only
  rw [nI_add, nI_add, nI_add, c4, h34, if_pos (show nI 4 = (4 : Int32) from rfl), Option.bind_some, kup_x hn]
  have lo := n_load (X := kup X n (20, 2)) k1.1 (o := 0) (by omega)
  have lp := n_load (X := kup X n (20, 2)) k1.1 (o := 1) (by omega)
  have a0 := l1 0 (by omega)
  have a1 := l1 1 (by omega)
  refine (show _ = _ from e1).trans ?_
  have hca : cha (Kx (kup X n (20, 2))) 20 (some n) = some (n, 2) := ca rfl (by rw [kx_hi hn]; exact if_pos rfl)
  try dsimp only
  rw [hca, Option.bind_some]
  try dsimp only
  rw [show ixa (0 : Int32) 2 = some 0 from ixa_n (n := 0) (by omega) (by omega), Option.bind_some, k10, Option.bind_some, show f_NX12_load (Kx (kup X n (20, 2))) 0 0 w1 = _ from lo, Option.bind_some]
  try dsimp only
  rw [h34, a0, if_pos rfl, show ixa (1 : Int32) 2 = some 1 from ixa_n (n := 1) (by omega) (by omega), Option.bind_some, show f_NX12_load (Kx (kup X n (20, 2))) 0 1 w1 = _ from lp, Option.bind_some]
  try dsimp only
  rw [h34, a1, if_pos rfl]
