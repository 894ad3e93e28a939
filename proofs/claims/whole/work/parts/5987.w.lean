/-! The fewest officers: the reference's table. -/
def CP (s t : Nat → Nat) (j S : Nat) (Q : Nat → Prop) (k : Nat) : Prop := AJ s t j S k ∨ ∃ q, Q q ∧ q ≠ 0 ∧ subS q S ∧ mayS t j q ∧ pcf s q ∧ 1 ≤ k ∧ AJ s t j (S ^^^ q) (k - 1)
def A429 (x : Nat) : Prop := x = 429
theorem MinV.add {C : Nat → Prop} {D : Nat → Prop} {v y : Int32} (h : MinV C v) (hy : MinV D y) (hD : ∀ k, D k → (∀ k', k' < k → ¬ D k') → k ≤ 31) : (y = -1 → MinV (fun k => C k ∨ (1 ≤ k ∧ D (k - 1))) v) ∧ (y ≠ -1 → (v = -1 → MinV (fun k => C k ∨ (1 ≤ k ∧ D (k - 1))) (y + 1)) ∧ (v ≠ -1 → (v ≤ y + 1 → MinV (fun k => C k ∨ (1 ≤ k ∧ D (k - 1))) v) ∧ (¬ v ≤ y + 1 → MinV (fun k => C k ∨ (1 ≤ k ∧ D (k - 1))) (y + 1)))) := by
  rcases hy with ⟨y1, y2⟩ | ⟨k0, y1, y2, y3, y4⟩
  · refine ⟨fun _ => h.iff (fun k => ⟨Or.inl, fun q => q.elim id (fun z => absurd z.2 (y2 _))⟩), fun q => absurd y1 q⟩
  · have k31 := hD k0 y3 y4
    have yn : y ≠ -1 := fun q => neg1_eq (a := k0) (by omega) (by rw [← y2, q]; rfl)
    have y5 : y + 1 = nI (k0 + 1) := by rw [y2]; exact nI_add k0 1
    refine ⟨fun q => absurd q yn, fun _ => ?_⟩
    rw [y5]
    rcases h with ⟨v1, v2⟩ | ⟨k1, v1, v2, v3, v4⟩
    · refine ⟨fun _ => Or.inr ⟨k0 + 1, by omega, rfl, Or.inr ⟨by omega, y3⟩, fun k' hk q => ?_⟩, fun q => absurd v1 q⟩
      rcases q with q | ⟨q1, q2⟩
      · exact v2 k' q
      · exact y4 (k' - 1) (by omega) q2
    · have vn : v ≠ -1 := fun q => neg1_eq (a := k1) (by omega) (by rw [← v2, q]; rfl)
      refine ⟨fun q => absurd q vn, fun _ => ⟨fun le => ?_, fun nle => ?_⟩⟩
      · rw [v2] at le
        have le2 := (nI_leI (a := k1) (b := k0 + 1) (by omega) (by omega)).mp le
        refine Or.inr ⟨k1, v1, v2, Or.inl v3, fun k' hk q => ?_⟩
        rcases q with q | ⟨q1, q2⟩
        · exact v4 k' hk q
        · exact y4 (k' - 1) (by omega) q2
      · rw [v2] at nle
        have le2 : k0 + 1 < k1 := by
          by_cases q : k1 ≤ k0 + 1
          · exact absurd ((nI_leI (a := k1) (b := k0 + 1) (by omega) (by omega)).mpr q) nle
          · omega
        refine Or.inr ⟨k0 + 1, by omega, rfl, Or.inr ⟨by omega, y3⟩, fun k' hk q => ?_⟩
        rcases q with q | ⟨q1, q2⟩
        · exact v4 k' (by omega) q
        · exact y4 (k' - 1) (by omega) q2
/-- the parts of a set -/
theorem m_partsL {s t : Nat → Nat} {j S mine : Nat} (hS : S < 2 ^ s 3) (hm : subS mine S) (hmy : ∀ p, subS p S → (mayS t j p ↔ subS p mine)) {a b : Int32} {k : Int32 → Int32 → Int32 → Int32 → Int32 → Int32 → Wd → Option Wd} : ∀ (p : Nat) (w : Wd) (f : Nat), HM w s t → p < f → subS p mine → (∀ S', S' < 2 ^ s 3 → aI w 430 S' = nI (bn (pcB s S'))) → (∀ S', S' < S → MinV (AJ s t j S') (aI w 429 S')) → MinV (CP s t j S (fun q => p < q)) (aI w 429 S) → ∃ w', f_X13_takesPart_L64 Kc 415 k f a b (nI (myN t j (s 3))) (nI S) (nI mine) (nI p) w = k a b (nI (myN t j (s 3))) (nI S) (nI mine) (nI 0) w' ∧ Ofi NS A429 w w' ∧ (∀ S', S' ≠ S → aI w' 429 S' = aI w 429 S') ∧ MinV (CP s t j S (fun q => 0 < q)) (aI w' 429 S) := by
  intro p
  induction p using Nat.strongRecOn with
  | ind p ih =>
    intro w f h hf hpm h430 hlo hv
    obtain ⟨f, rfl⟩ : ∃ g, f = g + 1 := ⟨f - 1, by omega⟩
    have h12 := h.gs.1.2.2.2
    have p12 : 2 ^ s 3 ≤ 2 ^ 12 := Nat.pow_le_pow_right (by omega) h12
    have ml := subS_le hm
    have pl := subS_le hpm
    by_cases e0 : p = 0
    · subst e0
      refine ⟨w, ?_, Ofi.rf, fun _ _ => rfl, hv⟩
      rw [f_X13_takesPart_L64, if_pos (show nI 0 ≤ 0 by decide)]
    · have pS : subS p S := fun c hc => hm c (hpm c hc)
      have xl := xor_sub pS e0
      have np : (p - 1) &&& mine < p := by
        have : (p - 1) &&& mine ≤ p - 1 := Nat.and_le_left
        omega
      have nsub : subS ((p - 1) &&& mine) mine := fun c hc => by
        rw [Nat.testBit_and, Bool.and_eq_true] at hc
        exact hc.2
      have nx : (nI p - 1) &&& nI mine = nI ((p - 1) &&& mine) := by
        rw [show nI p - 1 = nI (p - 1) from sub_nI (a := p) (b := 1) (by omega), and_nI (by omega) (by omega)]
      have pb := pcB_iff (s := s) (S := p) (by omega)
      -- what the next step stands for
      have step : ∀ w2, Ofi NS A429 w w2 → (∀ S', S' ≠ S → aI w2 429 S' = aI w 429 S') → MinV (CP s t j S (fun q => p ≤ q)) (aI w2 429 S) → ∃ w', f_X13_takesPart_L64 Kc 415 k f a b (nI (myN t j (s 3))) (nI S) (nI mine) (nI ((p - 1) &&& mine)) w2 = k a b (nI (myN t j (s 3))) (nI S) (nI mine) (nI 0) w' ∧ Ofi NS A429 w w' ∧ (∀ S', S' ≠ S → aI w' 429 S' = aI w 429 S') ∧ MinV (CP s t j S (fun q => 0 < q)) (aI w' 429 S) := fun w2 o2 same2 v2 => by
        obtain ⟨w3, e3, o3, same3, v3⟩ := ih ((p - 1) &&& mine) np w2 f (o2.HM h (by unfold A429; omega) (by unfold A429; omega)) (by omega) nsub (fun S' hS' => by rw [o2.2.2 430 (by unfold A429; omega)]; exact h430 S' hS') (fun S' hS' => by rw [same2 S' (by omega)]; exact hlo S' hS') (v2.iff (fun k => by
          constructor
          · rintro (z | ⟨q, z1, z2, z3, z4, z5⟩)
            · exact Or.inl z
            · exact Or.inr ⟨q, by omega, z2, z3, z4, z5⟩
          · rintro (z | ⟨q, z1, z2, z3, z4, z5⟩)
            · exact Or.inl z
            · refine Or.inr ⟨q, ?_, z2, z3, z4, z5⟩
              by_cases qp : p ≤ q
              · exact qp
              · have := nextPart 12 mine p q (by omega) hpm ((hmy q z3).mp z4) (by omega)
                omega))
        exact ⟨w3, e3, o2.trans o3, fun S' hS' => (same3 S' hS').trans (same2 S' hS'), v3⟩
      -- the candidate p
      have cand : pcB s p = true → ∀ v, MinV (fun k => CP s t j S (fun q => p < q) k ∨ (1 ≤ k ∧ AJ s t j (S ^^^ p) (k - 1))) v → MinV (CP s t j S (fun q => p ≤ q)) v := fun hp v hv2 => hv2.iff (fun k => by
        constructor
        · rintro ((z | ⟨q, z1, z2, z3⟩) | ⟨z1, z2⟩)
          · exact Or.inl z
          · exact Or.inr ⟨q, Nat.le_of_lt z1, z2, z3⟩
          · exact Or.inr ⟨p, Nat.le_refl _, e0, pS, (hmy p pS).mpr hpm, pb.mp hp, z1, z2⟩
        · rintro (z | ⟨q, z1, z2, z3, z4, z5, z6⟩)
          · exact Or.inl (Or.inl z)
          · by_cases qp : q = p
            · subst qp
              exact Or.inr z6
            · exact Or.inl (Or.inr ⟨q, by omega, z2, z3, z4, z5, z6⟩))
      have hx := hlo (S ^^^ p) xl
      have add := hv.add hx (fun k hk hm => AJ_31 hk hm)
      rw [f_X13_takesPart_L64, if_neg (show ¬ nI p ≤ 0 from fun q => by have := (nI_leI (a := p) (b := 0) (by omega) (by omega)).mp q; omega), x1321 h.1, Option.bind_some]
      try dsimp only
      rw [xor_nI (by omega) (by omega), ixa_n (by omega) (by omega), Option.bind_some, x1322 h.1, Option.bind_some]
      try dsimp only
      rw [ixa_n (by omega) (by omega), Option.bind_some, h430 p (by omega), nx]
      cases ep : pcB s p with
      | false =>
        rw [if_pos (show nI (bn false) = 0 from rfl)]
        refine step w Ofi.rf (fun _ _ => rfl) (hv.iff (fun k => ?_))
        constructor
        · rintro (z | ⟨q, z1, z2, z3⟩)
          · exact Or.inl z
          · exact Or.inr ⟨q, Nat.le_of_lt z1, z2, z3⟩
        · rintro (z | ⟨q, z1, z2, z3, z4, z5, z6⟩)
          · exact Or.inl z
          · by_cases qp : q = p
            · subst qp
              have := pb.mpr z5
              rw [ep] at this
              cases this
            · exact Or.inr ⟨q, by omega, z2, z3, z4, z5, z6⟩
      | true =>
        rw [if_neg (show ¬ nI (bn true) = 0 by decide)]
        by_cases ey : aI w 429 (S ^^^ p) = -1
        · rw [if_pos ey]
          exact step w Ofi.rf (fun _ _ => rfl) (cand ep _ (add.1 ey))
        · rw [if_neg ey, ixa_n (by omega) (by omega), Option.bind_some]
          have st2 : MinV (fun k => CP s t j S (fun q => p < q) k ∨ (1 ≤ k ∧ AJ s t j (S ^^^ p) (k - 1))) (aI w 429 (S ^^^ p) + 1) → ∃ w', f_X13_takesPart_L64 Kc 415 k f a b (nI (myN t j (s 3))) (nI S) (nI mine) (nI ((p - 1) &&& mine)) (tI w 429 S (aI w 429 (S ^^^ p) + 1)) = k a b (nI (myN t j (s 3))) (nI S) (nI mine) (nI 0) w' ∧ Ofi NS A429 w w' ∧ (∀ S', S' ≠ S → aI w' 429 S' = aI w 429 S') ∧ MinV (CP s t j S (fun q => 0 < q)) (aI w' 429 S) := fun m => step _ (ofi_tI rfl) (fun S' hS' => by rw [aI_tI, if_neg (fun q => hS' q.2)]) (by
            rw [aI_tI, if_pos ⟨rfl, rfl⟩]
            exact cand ep _ m)
          by_cases ev : aI w 429 S = -1
          · rw [if_pos ev, Option.bind_some]
            exact st2 ((add.2 ey).1 ev)
          · rw [if_neg ev, Option.bind_some]
            by_cases ec : aI w 429 S ≤ aI w 429 (S ^^^ p) + 1
            · rw [if_pos ec]
              exact step w Ofi.rf (fun _ _ => rfl) (cand ep _ (((add.2 ey).2 ev).1 ec))
            · rw [if_neg ec, Option.bind_some, Option.bind_some]
              exact st2 (((add.2 ey).2 ev).2 ec)
/-- the sets, from the largest on -/
theorem mine_ok {t : Nat → Nat} {j n S : Nat} (hS : S < 2 ^ n) : subS (S &&& myN t j n) S ∧ ∀ p, subS p S → (mayS t j p ↔ subS p (S &&& myN t j n)) := by
  refine ⟨fun c hc => ?_, fun p hp => ⟨fun h c hc => ?_, fun h c hc => ?_⟩⟩
  · rw [Nat.testBit_and, Bool.and_eq_true] at hc
    exact hc.1
  · rw [Nat.testBit_and, hp c hc, myN_bit, decide_eq_true (bit12 hS (hp c hc)), h c hc]
    rfl
  · have := h c hc
    rw [Nat.testBit_and, myN_bit, Bool.and_eq_true, Bool.and_eq_true] at this
    cases e : (t (34 + c)).testBit j with
    | false => rfl
    | true =>
      rw [e] at this
      cases this.2.2
theorem m_takesPart {w : Wd} {s t : Nat → Nat} (h : HM w s t) {j : Nat} (hj : j < s 1) (h430 : ∀ S', S' < 2 ^ s 3 → aI w 430 S' = nI (bn (pcB s S'))) (h0 : aI w 429 0 = nI 0) (hv : ∀ S, S < 2 ^ s 3 → MinV (AJ s t j S) (aI w 429 S)) : ∃ w', f_X13_takesPart Kc 415 (nI j) (nI (2 ^ s 3 - 1)) w = some w' ∧ Ofi NS A429 w w' ∧ aI w' 429 0 = nI 0 ∧ ∀ S, S < 2 ^ s 3 → MinV (AJ s t (j + 1) S) (aI w' 429 S) := by
  have h12 := h.gs.1.2.2.2
  have h6 := h.gs.1.2.1
  have p12 : 2 ^ s 3 ≤ 2 ^ 12 := Nat.pow_le_pow_right (by omega) h12
  have p0 := Nat.two_pow_pos (s 3)
  have my := myN_lt (t := t) (j := j) (n := s 3) h12
  have zero : ∀ v, v = nI 0 → MinV (AJ s t (j + 1) 0) v := fun v hv => Or.inr ⟨0, by omega, hv, AJ_e, fun k' hk => by omega⟩
  have key : ∀ S w1 f, S < f → S < 2 ^ s 3 → HM w1 s t → (∀ S', S' < 2 ^ s 3 → aI w1 430 S' = nI (bn (pcB s S'))) → aI w1 429 0 = nI 0 → (∀ S', S' ≤ S → MinV (AJ s t j S') (aI w1 429 S')) → (∀ S', S < S' → S' < 2 ^ s 3 → MinV (AJ s t (j + 1) S') (aI w1 429 S')) → ∃ w', f_X13_takesPart_L49 Kc 415 (fun v1_49 v2_49 v3_49 v4_49 w9 => some w9) f (nI j) (nI (2 ^ s 3 - 1)) (nI (myN t j (s 3))) (nI S) w1 = some w' ∧ Ofi NS A429 w1 w' ∧ aI w' 429 0 = nI 0 ∧ ∀ S, S < 2 ^ s 3 → MinV (AJ s t (j + 1) S) (aI w' 429 S) := by
    intro S
    induction S with
    | zero =>
      intro w1 f hf hS h1 h430 z0 lo hi
      obtain ⟨f, rfl⟩ : ∃ g, f = g + 1 := ⟨f - 1, by omega⟩
      refine ⟨w1, ?_, Ofi.rf, z0, fun S' hS' => ?_⟩
      · rw [f_X13_takesPart_L49, if_pos (show nI 0 ≤ 0 by decide)]
      · by_cases e : S' = 0
        · rw [e]; exact zero _ z0
        · exact hi S' (by omega) hS'
    | succ S ih =>
      intro w1 f hf hS h1 h430 z0 lo hi
      obtain ⟨f, rfl⟩ : ∃ g, f = g + 1 := ⟨f - 1, by omega⟩
      obtain ⟨m1, m2⟩ := mine_ok (t := t) (j := j) hS
      have ml := subS_le m1
      obtain ⟨w2, e2, o2, same2, v2⟩ := m_partsL hS m1 m2 (a := nI j) (b := nI (2 ^ s 3 - 1)) (k := fun v1_64 v2_64 v3_64 v4_64 v5_64 v6_64 w11 => f_X13_takesPart_L49 Kc 415 (fun v1_49 v2_49 v3_49 v4_49 w9 => some w9) f v1_64 v2_64 v3_64 (v4_64 + (-1)) w11) ((S + 1) &&& myN t j (s 3)) w1 fu h1 (fu_lt (by omega)) (fun c hc => hc) h430 (fun S' hS' => lo S' (by omega)) ((lo (S + 1) (Nat.le_refl _)).iff (fun k => by
        constructor
        · exact Or.inl
        · rintro (z | ⟨q, z1, z2, z3, z4, z5⟩)
          · exact z
          · have := subS_le ((m2 q z3).mp z4)
            omega))
      obtain ⟨w3, e3, o3, z3, v3⟩ := ih w2 f (by omega) (by omega) (o2.HM h1 (by unfold A429; omega) (by unfold A429; omega)) (fun S' hS' => by rw [o2.2.2 430 (by unfold A429; omega)]; exact h430 S' hS') (by rw [same2 0 (by omega)]; exact z0) (fun S' hS' => by rw [same2 S' (by omega)]; exact lo S' (by omega)) (fun S' h1' h2' => by
        by_cases e : S' = S + 1
        · rw [e]
          refine v2.iff (fun k => ?_)
          rw [AJ_step (by omega) hS]
          unfold CP
          constructor
          · rintro (z | ⟨q, z1, z2, z3, z4, z5, z6⟩)
            · exact Or.inl z
            · exact Or.inr ⟨q, z2, z3, z4, z5, z6⟩
          · rintro (z | ⟨q, z2, z3, z4, z5, z6⟩)
            · exact Or.inl z
            · exact Or.inr ⟨q, by omega, z2, z3, z4, z5, z6⟩
        · rw [same2 S' e]
          exact hi S' (by omega) h2')
      refine ⟨w3, ?_, o2.trans o3, z3, v3⟩
      rw [f_X13_takesPart_L49, if_neg (show ¬ nI (S + 1) ≤ 0 from fun q => by have := (nI_leI (a := S + 1) (b := 0) (by omega) (by omega)).mp q; omega), and_nI (by omega) (by omega), e2, show nI (S + 1) + -1 = nI S from nI_m1 S]
      exact e3
  unfold f_X13_takesPart
  rw [show (0 : Int32) = nI 0 from rfl, m_mayL h (by omega)]
  exact key (2 ^ s 3 - 1) w fu (fu_lt (by omega)) (by omega) h h430 h0 (fun S' hS' => hv S' (by omega)) (fun S' h1 h2 => by omega)
theorem m_fewest {w : Wd} {s t : Nat → Nat} (h : HM w s t) : ∃ v w', f_X13_fewestOfficers Kc 415 w = some (v, w') ∧ Ofi (fun f x => x = 415 ∧ f = 1300) (fun x => x = 429 ∨ x = 430) w w' ∧ MinV (AJ s t (s 1) (2 ^ s 3 - 1)) v := by
  have h12 := h.gs.1.2.2.2
  have h6 := h.gs.1.2.1
  have p12 : 2 ^ s 3 ≤ 2 ^ 12 := Nat.pow_le_pow_right (by omega) h12
  have p0 := Nat.two_pow_pos (s 3)
  obtain ⟨w1, e1, o1, q1⟩ := m_laysPeaceful h.tl (w := sI w 1300 415 0)
  have H1 : HM w1 s t := o1.HM h.tl (by unfold A430; omega) (by unfold A430; omega)
  have o2 : Ofi NS A429 w1 (tI w1 429 0 (nI 0)) := ofi_tI rfl
  have all : (1 : Int32) <<< (nI (s 3) &&& 31) - 1 = nI (2 ^ s 3 - 1) := by
    rw [show (1 : Int32) = nI 1 from rfl, show (31 : Int32) = nI 31 from rfl, shl_nI (by omega) (by omega), Nat.one_mul, sub_nI (by omega)]
  have lp : ∃ w3, f_X13_fewestOfficers_L30 Kc 415 (fun v1_30 v2_30 w8 => f_X13_fewestOfficers_L50 Kc 415 (fun v1_50 v2_50 w13 => (cha Kc 20 (wR w13 1321 415)).bind fun a18 => (ixa v1_50 a18.2).bind fun j19 => some ((aI w13 a18.1 j19), w13)) fu v1_30 0 w8) fu (nI (2 ^ s 3 - 1)) (nI 1) (tI w1 429 0 (nI 0)) = f_X13_fewestOfficers_L50 Kc 415 (fun v1_50 v2_50 w13 => (cha Kc 20 (wR w13 1321 415)).bind fun a18 => (ixa v1_50 a18.2).bind fun j19 => some ((aI w13 a18.1 j19), w13)) fu (nI (2 ^ s 3 - 1)) (nI 0) w3 ∧ Ofi NS A429 w1 w3 ∧ aI w3 429 0 = nI 0 ∧ ∀ S, 1 ≤ S → S < 2 ^ s 3 → aI w3 429 S = -1 := by
    refine loop_q (fun f S w2 => f_X13_fewestOfficers_L30 Kc 415 (fun v1_30 v2_30 w8 => f_X13_fewestOfficers_L50 Kc 415 (fun v1_50 v2_50 w13 => (cha Kc 20 (wR w13 1321 415)).bind fun a18 => (ixa v1_50 a18.2).bind fun j19 => some ((aI w13 a18.1 j19), w13)) fu v1_30 0 w8) f (nI (2 ^ s 3 - 1)) (nI S) w2) (fun S w2 => 1 ≤ S ∧ Ofi NS A429 w1 w2 ∧ aI w2 429 0 = nI 0 ∧ ∀ S', 1 ≤ S' → S' < S → aI w2 429 S' = -1) (fun r => ∃ w3, r = f_X13_fewestOfficers_L50 Kc 415 (fun v1_50 v2_50 w13 => (cha Kc 20 (wR w13 1321 415)).bind fun a18 => (ixa v1_50 a18.2).bind fun j19 => some ((aI w13 a18.1 j19), w13)) fu (nI (2 ^ s 3 - 1)) (nI 0) w3 ∧ Ofi NS A429 w1 w3 ∧ aI w3 429 0 = nI 0 ∧ ∀ S, 1 ≤ S → S < 2 ^ s 3 → aI w3 429 S = -1) (2 ^ s 3) (fun f w2 hI => ?_) (fun f S w2 hS hI ih => ?_) fu 1 (tI w1 429 0 (nI 0)) ⟨by omega, o2, by rw [aI_tI, if_pos ⟨rfl, rfl⟩], fun S' h1 h2 => by omega⟩ (by omega) (fu_lt (by omega))
    · try dsimp only
      rw [f_X13_fewestOfficers_L30, if_lt_t (by omega) (by omega) (by omega)]
      exact ⟨w2, rfl, hI.2⟩
    · try dsimp only at ih ⊢
      obtain ⟨i0, i1, i2, i3⟩ := hI
      have f2 := i1.FX H1.1
      rw [f_X13_fewestOfficers_L30, if_lt_f (by omega) (by omega) (by omega), x1321 f2, Option.bind_some]
      try dsimp only
      rw [ixa_n (by omega) (by omega), Option.bind_some, Option.bind_some, show nI S + 1 = nI (S + 1) from nI_add S 1]
      refine ih _ ⟨by omega, i1.trans (ofi_tI rfl), by rw [aI_tI, if_neg (by omega)]; exact i2, fun S' h1 h2 => ?_⟩
      rw [aI_tI]
      by_cases e : S' = S
      · rw [if_pos ⟨rfl, e⟩]
      · rw [if_neg (fun q => e q.2)]
        exact i3 S' h1 (by omega)
  obtain ⟨w3, e3, o3, z3, m3⟩ := lp
  have init : ∀ S, S < 2 ^ s 3 → MinV (AJ s t 0 S) (aI w3 429 S) := fun S hS => by
    by_cases e : S = 0
    · rw [e]
      exact Or.inr ⟨0, by omega, z3, AJ_e, fun k' hk => by omega⟩
    · exact Or.inl ⟨m3 S (by omega) hS, fun k q => e (AJ_0.mp q)⟩
  have h430 : ∀ w', Ofi NS A429 w1 w' → ∀ S', S' < 2 ^ s 3 → aI w' 430 S' = nI (bn (pcB s S')) := fun w' o S' hS' => by rw [o.2.2 430 (by unfold A429; omega)]; exact q1 S' hS'
  have lq : ∃ v w', f_X13_fewestOfficers_L50 Kc 415 (fun v1_50 v2_50 w13 => (cha Kc 20 (wR w13 1321 415)).bind fun a18 => (ixa v1_50 a18.2).bind fun j19 => some ((aI w13 a18.1 j19), w13)) fu (nI (2 ^ s 3 - 1)) (nI 0) w3 = some (v, w') ∧ Ofi NS A429 w1 w' ∧ MinV (AJ s t (s 1) (2 ^ s 3 - 1)) v := by
    refine loop_q (fun f j w2 => f_X13_fewestOfficers_L50 Kc 415 (fun v1_50 v2_50 w13 => (cha Kc 20 (wR w13 1321 415)).bind fun a18 => (ixa v1_50 a18.2).bind fun j19 => some ((aI w13 a18.1 j19), w13)) f (nI (2 ^ s 3 - 1)) (nI j) w2) (fun j w2 => Ofi NS A429 w1 w2 ∧ aI w2 429 0 = nI 0 ∧ ∀ S, S < 2 ^ s 3 → MinV (AJ s t j S) (aI w2 429 S)) (fun r => ∃ v w', r = some (v, w') ∧ Ofi NS A429 w1 w' ∧ MinV (AJ s t (s 1) (2 ^ s 3 - 1)) v) (s 1) (fun f w2 hI => ?_) (fun f j w2 hj hI ih => ?_) fu 0 w3 ⟨o3, z3, init⟩ (by omega) (fu_lt (by omega))
    · try dsimp only
      have H2 := hI.1.HM H1 (by unfold A429; omega) (by unfold A429; omega)
      rw [f_X13_fewestOfficers_L50, x1301 H2.1, Option.bind_some]
      try dsimp only
      rw [show ixa 1 170 = some 1 from rfl, Option.bind_some, H2.S (by omega), if_le_t (by omega) (by omega) (Nat.le_refl _), x1321 H2.1, Option.bind_some]
      try dsimp only
      rw [ixa_n (by omega) (by omega), Option.bind_some]
      exact ⟨_, w2, rfl, hI.1, hI.2.2 _ (by omega)⟩
    · try dsimp only at ih ⊢
      obtain ⟨i1, i2, i3⟩ := hI
      have H2 := i1.HM H1 (by unfold A429; omega) (by unfold A429; omega)
      obtain ⟨w4, e4, o4, z4, v4⟩ := m_takesPart H2 hj (h430 w2 i1) i2 i3
      rw [f_X13_fewestOfficers_L50, x1301 H2.1, Option.bind_some]
      try dsimp only
      rw [show ixa 1 170 = some 1 from rfl, Option.bind_some, H2.S (by omega), if_le_f (by omega) (by omega) hj, e4, Option.bind_some, show nI j + 1 = nI (j + 1) from nI_add j 1]
      exact ih w4 ⟨i1.trans o4, z4, v4⟩
  obtain ⟨v, w', e5, o5, mv⟩ := lq
  refine ⟨v, w', ?_, ((ofi_sI (S := fun f x => x = 415 ∧ f = 1300) (A := fun x => x = 429 ∨ x = 430) ⟨rfl, rfl⟩).trans (o1.mono (fun _ _ q => q.elim) (fun _ q => Or.inr q))).trans (o5.mono (fun _ _ q => q.elim) (fun _ q => Or.inl q)), mv⟩
  unfold f_X13_fewestOfficers
  rw [Option.bind_some, x1301 h.1.sI, Option.bind_some]
  try dsimp only
  rw [show ixa 3 170 = some 3 from rfl, Option.bind_some, h.tl.S (by omega), all, e1, Option.bind_some, x1321 H1.1, Option.bind_some]
  try dsimp only
  rw [show ixa 0 4096 = some 0 from rfl, Option.bind_some, Option.bind_some]
  exact e3.trans e5
