variable {X : Kd}
/-- which officers are off on all days -/
def AB (s : Nat → Nat) (G : Int32) (ab : Nat) : Prop := ab < 64 ∧ ∀ o, o < s 1 → ab.testBit o = decide (nI o = G)
theorem AB0 {s : Nat → Nat} (h : s 1 ≤ 6) : AB s (-nI 1) 0 := ⟨by omega, fun o ho => by
  rw [Nat.zero_testBit]
  exact (decide_eq_false (fun q => neg1_eq (a := o) (by omega) q.symm)).symm⟩
theorem AB.off {s : Nat → Nat} {G : Int32} {ab o d : Nat} (h : AB s G ab) (ho : o < s 1) : (ab ||| awN s d (s 1)).testBit o = offS s G o d := by
  rw [Nat.testBit_or, awN_bit ho, h.2 o ho, Bool.or_comm]
  rfl
theorem AB.lt {s : Nat → Nat} {G : Int32} {ab d : Nat} (h : AB s G ab) (hs : s 1 ≤ 6) : ab ||| awN s d (s 1) < 64 := Nat.or_lt_two_pow (n := 6) h.1 (awN_lt hs)
theorem obe {β : Type} {Q : Option β → Prop} {α : Type} {o : Option α} {x : α} {k : α → Option β} (h : o = some x) (h2 : Q (k x)) : Q (o.bind k) := by subst h; exact h2
theorem zN {a b : Nat} (ha : a < 2 ^ 31) (hb : b < 2 ^ 32) : (nI a &&& nI b = nI 0) ↔ a &&& b = 0 := by
  have h1 : a &&& b ≤ a := Nat.and_le_left
  rw [and_nI (by omega) hb, nI_eq (by omega) (by omega)]
theorem roomZ {s : Nat → Nat} (hS : GoodS s) {i q r : Nat} (hi : i < s 3) (hr : r < s 0) (hq : q < 20) : sset q (s (100 + i)) &&& (4294967295 ^^^ msk (s (4 + r)) (s (7 + r))) = 0 ↔ s (4 + r) ≤ q ∧ q + s (100 + i) - 1 ≤ s (7 + r) := by
  have l1 := hS.ln hi
  have l2 := hS.2.1 r hr
  rw [sset_and]
  constructor
  · intro H
    have h1 := H q (by omega) (by omega)
    have h2 := H (q + s (100 + i) - 1) (by omega) (by omega)
    rw [Nat.testBit_xor, bit32 (by omega), msk_bit l2.1, Bool.true_xor] at h1 h2
    have h3 := of_decide_eq_true (by simpa using h1 : decide (s (4 + r) ≤ q ∧ q ≤ s (7 + r)) = true)
    have h4 : decide (s (4 + r) ≤ q + s (100 + i) - 1 ∧ q + s (100 + i) - 1 ≤ s (7 + r)) = true := by
      cases e : decide (s (4 + r) ≤ q + s (100 + i) - 1 ∧ q + s (100 + i) - 1 ≤ s (7 + r)) with
      | true => rfl
      | false => rw [e] at h2; cases h2
    have h5 := of_decide_eq_true h4
    omega
  · intro H k k1 k2
    rw [Nat.testBit_xor, bit32 (by omega), msk_bit l2.1, decide_eq_true (by omega)]
    rfl
theorem RU2 {w : Wd} {a b : Nat} {s t : Nat → Nat} (h : HX w a b s t) {r : Nat} (hr : r < s 0) : aI w (b + 2) r = nI (msk (s (4 + r)) (s (7 + r))) := h.2.2.1.2.1 r hr
theorem x_faultOf {w : Wd} {a b : Nat} {s t : Nat → Nat} (h : HX w a b s t) {i d q r o : Nat} (hi : i < s 3) (hd : d < 2 ^ 31) (hq : q < 8) (hr : r < s 0) (ho : o < s 1) : ∃ w', f_X6_faultOf (Kx X) 404 (some a) (nI i) (nI d) (nI q) (nI r) (nI o) w = some (nI (flN s t (-nI 1) i d q r o), w') ∧ Off PL w w' := by
  have h6 := h.gs.1.2.1
  have h3 := h.gs.1.1
  have h12 := h.gs.1.2.2.2
  have g0 := h.gt.1
  have g1 := (h.gs.2.2.2.2.1 i hi).1
  have l1 := h.gs.ln hi
  have l3 := limD_le h.gs h.gt hi
  have ab := AB0 h6
  obtain ⟨w1, e1, o1, LO1⟩ := x_lookAtOfficers (X := X) h hi
  have k1 := o1.HX h PL_ge
  obtain ⟨w2, e2, o2, LK2, LD2⟩ := x_lookAtDay (X := X) k1 hi hd (ab := 0) (by omega)
  have o3 := o1.trans o2
  have k2 := o3.HX h PL_ge
  have bs : sset q (s (100 + i)) < 4096 := sset_lt (by omega)
  have bm := msk_lt (lo := s (4 + r)) (hi := s (7 + r)) (h.gs.2.1 r hr).2
  have bO : rmN s t i d r (s 3) < 2 ^ 12 := tkG_lt h.gs h.gt (by omega)
  have bF : ofN s t i d o (s 3) < 2 ^ 12 := tkG_lt h.gs h.gt (by omega)
  have bW : wiN s t i d (s 3) < 2 ^ 12 := tkG_lt h.gs h.gt (by omega)
  have bU := ouN_lt (t := t) h.gs (u := s (136 + i)) (d := d) (n := s 2) (by omega)
  have b604 : brN s t i < 64 := brN_lt h.gs h.gt hi
  have b605 := ab.lt (d := d) h6
  have v604 : wI w2 604 404 = nI (brN s t i) := LK2.1.trans LO1.1
  have v600 : aI w2 405 r = nI (rmN s t i d r (s 3)) := LD2.2.2.2.1 r (by omega)
  have v601 : aI w2 406 o = nI (ofN s t i d o (s 3)) := LD2.2.2.2.2 o (by omega)
  unfold f_X6_faultOf flN dyO
  rw [h.ca, Option.bind_some]
  try dsimp only
  rw [h.su, Option.bind_some]
  try dsimp only
  rw [h.mt, Option.bind_some]
  try dsimp only
  rw [ixa_n (by omega) (by omega), Option.bind_some]
  try dsimp only
  rw [h.dy]
  by_cases c1 : d < t 0
  · rw [if_lt_t (by omega) (by omega) c1, decide_eq_true c1]
    exact ⟨w, rfl, Off.rf⟩
  · rw [if_lt_f (by omega) (by omega) (by omega), decide_eq_false c1]
    rw [h.me (by omega), Option.bind_some]
    try dsimp only
    rw [h.f0 hi]
    by_cases c2 : d < s (88 + i)
    · rw [if_lt_t (by omega) (by omega) c2, decide_eq_true c2]
      exact ⟨w, rfl, Off.rf⟩
    · rw [if_lt_f (by omega) (by omega) (by omega), decide_eq_false c2]
      rw [x_works h hd, Option.bind_some]
      try dsimp only
      try dsimp only
      cases c3 : wkg t d
      · exact ⟨w, rfl, Off.rf⟩
      · rw [if_neg (by decide), if_neg (by decide)]
        rw [x_limitDay h hi, Option.bind_some]
        try dsimp only
        try dsimp only
        generalize limD s t i = L at *
        by_cases c4 : L < d
        · rw [if_le_f (by omega) (by omega) c4, if_pos c4]
          exact ⟨w, rfl, Off.rf⟩
        · rw [if_le_t (by omega) (by omega) (by omega), if_neg c4]
          rw [e1, Option.bind_some]
          try dsimp only
          rw [show f_X6_lookAtDay (Kx X) 404 (some a) (nI i) (nI d) 0 w1 = some w2 from e2, Option.bind_some]
          try dsimp only
          rw [k2.f1 hi]
          rw [x_slotSet (by omega), Option.bind_some]
          try dsimp only
          rw [k2.su, Option.bind_some]
          try dsimp only
          rw [u901 k2.1 k2.2.1.2.1, Option.bind_some]
          try dsimp only
          rw [ixa_n (by omega) (by omega), Option.bind_some]
          try dsimp only
          try dsimp only
          rw [RU2 k2 hr, show (-1 : Int32) = -nI 1 from rfl, not_nI (by omega), show (0 : Int32) = nI 0 from rfl]
          have zz : 4294967295 ^^^ msk (s (4 + r)) (s (7 + r)) < 2 ^ 32 := Nat.xor_lt_two_pow (by decide) (by omega)
          simp only [zN (show sset q (s (100 + i)) < 2 ^ 31 by omega) zz, roomZ h.gs hi hr (show q < 20 by omega)]
          unfold pbN
          by_cases c5 : s (4 + r) ≤ q ∧ q + s (100 + i) - 1 ≤ s (7 + r)
          · rw [if_pos c5, if_neg (not_not_intro c5)]
            rw [x600 k2.1, Option.bind_some]
            try dsimp only
            rw [ixa_n (by omega) (by omega), Option.bind_some]
            try dsimp only
            try dsimp only
            rw [v600]
            have z1 : (nI (sset q (s (100 + i))) &&& nI (rmN s t i d r (s 3)) = nI 0) ↔ rmT s t i d q r = false := (zN (by omega) (by omega)).trans (tkG_z h.gs hi)
            simp only [z1]
            cases c6 : rmT s t i d q r
            · rw [if_pos rfl, if_neg (by decide)]
              have hasA : f_X12_has (Kx X) (wI w2 605 404) (nI o) w2 = some ((0 ||| awN s d (s 1)).testBit o, w2) := by rw [LD2.1]; exact x_has (by omega) (by omega)
              rw [hasA, Option.bind_some]
              try dsimp only
              try dsimp only
              rw [ab.off ho, ← show (0 : Int32) = nI 0 from rfl]
              cases c7 : offS s (-nI 1) o d
              · rw [if_pos (by decide), if_neg (by decide)]
                rw [x601 k2.1, Option.bind_some]
                try dsimp only
                rw [ixa_n (by omega) (by omega), Option.bind_some]
                try dsimp only
                try dsimp only
                rw [v601, show (0 : Int32) = nI 0 from rfl]
                have z2 : (nI (sset q (s (100 + i))) &&& nI (ofN s t i d o (s 3)) = nI 0) ↔ ofT s t i d q o = false := (zN (by omega) (by omega)).trans (tkG_z h.gs hi)
                simp only [z2]
                cases c8 : ofT s t i d q o
                · rw [if_pos rfl, if_neg (by decide)]
                  rw [v604]
                  rw [x_has (u := brN s t i) (k := o) (by omega) (by omega), Option.bind_some]
                  try dsimp only
                  try dsimp only
                  rw [brN_bit, ← show (0 : Int32) = nI 0 from rfl]
                  cases c9 : brd s t o i
                  · rw [if_pos (by decide), if_neg (show ¬ (false = true) by decide)]
                    rw [LD2.2.1, LD2.2.2.1, show (0 : Int32) = nI 0 from rfl]
                    have z3 : (nI (sset q (s (100 + i))) &&& nI (ouN s t (s (136 + i)) d (s 2)) = nI 0) ↔ ouT s t i d q = false := (zN (by omega) bU).trans (ouN_z h.gs hi (by omega))
                    have z4 : (nI (sset q (s (100 + i))) &&& nI (wiN s t i d (s 3)) = nI 0) ↔ wiT s t i d q = false := (zN (by omega) (by omega)).trans (tkG_z h.gs hi)
                    simp only [z3, z4]
                    cases c10 : ouT s t i d q
                    · cases c11 : wiT s t i d q
                      · exact ⟨w2, rfl, o3⟩
                      · exact ⟨w2, rfl, o3⟩
                    · exact ⟨w2, rfl, o3⟩
                  · exact ⟨w2, rfl, o3⟩
                · exact ⟨w2, rfl, o3⟩
              · exact ⟨w2, rfl, o3⟩
            · exact ⟨w2, rfl, o3⟩
          · rw [if_neg c5, if_pos c5]
            exact ⟨w2, rfl, o3⟩

