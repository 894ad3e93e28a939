/-! The drawn text's pieces and tokens. -/
variable {X : Kd}
theorem dec_v : ∀ v, v < 100 → dvN (decC v) = v ∧ 1 ≤ (decC v).length ∧ (decC v).length ≤ 3 ∧ ∀ c, c ∈ decC v → dgt c = true := by decide +kernel
theorem kw_1 : ∀ c, c < 27 → 1 ≤ c → kwI [c] = 16 := by decide +kernel
def wRoom : List Nat := [114, 111, 111, 109]
def wSlots : List Nat := [115, 108, 111, 116, 115]
def wOfficer : List Nat := [111, 102, 102, 105, 99, 101, 114]
def wOff : List Nat := [111, 102, 102]
def wWitness : List Nat := [119, 105, 116, 110, 101, 115, 115]
def wDays : List Nat := [100, 97, 121, 115]
def wCase : List Nat := [99, 97, 115, 101]
def wFiled : List Nat := [102, 105, 108, 101, 100]
def wLimit : List Nat := [108, 105, 109, 105, 116]
def wCustody : List Nat := [99, 117, 115, 116, 111, 100, 121]
def wNeeds : List Nat := [110, 101, 101, 100, 115]
def wConflict : List Nat := [99, 111, 110, 102, 108, 105, 99, 116]
def wCap : List Nat := [99, 97, 112]
def lk (w : List Nat) : List Nat := w.map (fun c => c - 96)
def pRoom (c a b : Nat) : List Pc := [(false, 0, wRoom), (true, 0, [96 + c]), (true, 0, wSlots), (true, 1, decC a), (true, 1, decC b), (false, 2, [59])]
def pOff (c a b : Nat) : List Pc := [(false, 0, wOfficer), (true, 0, [96 + c]), (true, 0, wOff), (true, 1, decC a), (true, 1, decC b), (false, 2, [59])]
def pWit (c a b d e : Nat) : List Pc := [(false, 0, wWitness), (true, 0, [96 + c]), (true, 0, wDays), (true, 1, decC a), (true, 1, decC b), (true, 0, wSlots), (true, 1, decC d), (true, 1, decC e), (false, 2, [59])]
def pNd (nd : Nat) : List Pc := if nd = 0 then [(true, 0, wNeeds), (true, 0, [96 + 23])] else if nd = 1 then [(true, 0, wNeeds), (true, 0, [96 + 24])] else []
def pCu (cu : Bool) : List Pc := if cu then [(true, 0, wCustody)] else []
def pCase (c f q l : Nat) (cu : Bool) (nd : Nat) : List Pc := [(false, 0, wCase), (true, 0, [96 + c]), (true, 0, wFiled), (true, 1, decC f), (true, 0, wSlots), (true, 1, decC q), (true, 0, wLimit), (true, 1, decC l)] ++ (pCu cu ++ (pNd nd ++ [(false, 2, [59])]))
def pCon : List Pc := [(false, 0, wConflict), (true, 0, [96 + 1]), (true, 0, [96 + 2]), (false, 2, [59])]
def pCap (v : Nat) : List Pc := [(false, 0, wCap), (true, 1, decC v), (false, 2, [59])]
abbrev Tk := Nat × Nat × List Nat
def tRoom (c a b : Nat) : List Tk := [(1, 0, lk wRoom), (16, 0, [c]), (2, 0, lk wSlots), (17, a, []), (17, b, []), (18, 0, [])]
def tOff (c a b : Nat) : List Tk := [(3, 0, lk wOfficer), (16, 0, [c]), (4, 0, lk wOff), (17, a, []), (17, b, []), (18, 0, [])]
def tWit (c a b d e : Nat) : List Tk := [(5, 0, lk wWitness), (16, 0, [c]), (6, 0, lk wDays), (17, a, []), (17, b, []), (2, 0, lk wSlots), (17, d, []), (17, e, []), (18, 0, [])]
def tNd (nd : Nat) : List Tk := if nd = 0 then [(11, 0, lk wNeeds), (16, 0, [23])] else if nd = 1 then [(11, 0, lk wNeeds), (16, 0, [24])] else []
def tCu (cu : Bool) : List Tk := if cu then [(10, 0, lk wCustody)] else []
def tCase (c f q l : Nat) (cu : Bool) (nd : Nat) : List Tk := [(7, 0, lk wCase), (16, 0, [c]), (8, 0, lk wFiled), (17, f, []), (2, 0, lk wSlots), (17, q, []), (9, 0, lk wLimit), (17, l, [])] ++ (tCu cu ++ (tNd nd ++ [(18, 0, [])]))
def tCon : List Tk := [(13, 0, lk wConflict), (16, 0, [1]), (16, 0, [2]), (18, 0, [])]
def tCap (v : Nat) : List Tk := [(15, 0, lk wCap), (17, v, []), (18, 0, [])]
theorem kws : kwI (lk wRoom) = 1 ∧ kwI (lk wSlots) = 2 ∧ kwI (lk wOfficer) = 3 ∧ kwI (lk wOff) = 4 ∧ kwI (lk wWitness) = 5 ∧ kwI (lk wDays) = 6 ∧ kwI (lk wCase) = 7 ∧ kwI (lk wFiled) = 8 ∧ kwI (lk wLimit) = 9 ∧ kwI (lk wCustody) = 10 ∧ kwI (lk wNeeds) = 11 ∧ kwI (lk wConflict) = 13 ∧ kwI (lk wCap) = 15 := by decide +kernel
theorem tkW {sp : Bool} {b : List Nat} {k : Nat} (h : kwI (lk b) = k) : tkP (sp, 0, b) = (k, 0, lk b) := by
  unfold tkP
  rw [if_pos rfl]
  show (kwI (lk b), 0, lk b) = _
  rw [h]
theorem tkN {sp : Bool} {v : Nat} (h : v < 100) : tkP (sp, 1, decC v) = (17, v, []) := by
  show (17, dvN (decC v), ([] : List Nat)) = _
  rw [(dec_v v h).1]
theorem tkC {sp : Bool} {c : Nat} (h : c < 27) (h1 : 1 ≤ c) : tkP (sp, 0, [96 + c]) = (16, 0, [c]) := by
  rw [tkW (k := 16) (by
    show kwI [96 + c - 96] = 16
    rw [Nat.add_sub_cancel_left]
    exact kw_1 c h h1)]
  show (16, 0, [96 + c - 96]) = _
  rw [Nat.add_sub_cancel_left]
theorem tkS {sp : Bool} : tkP (sp, 2, [59]) = (18, 0, []) := rfl
theorem mRoom {c a b : Nat} (hc : c < 27 ∧ 1 ≤ c) (ha : a < 100) (hb : b < 100) : (pRoom c a b).map tkP = tRoom c a b := by
  obtain ⟨k1, k2, k3, k4, k5, k6, k7, k8, k9, k10, k11, k13, k15⟩ := kws
  simp only [pRoom, tRoom, List.map_cons, List.map_nil, tkW k1, tkW k2, tkC hc.1 hc.2, tkN ha, tkN hb, tkS]
theorem mOff {c a b : Nat} (hc : c < 27 ∧ 1 ≤ c) (ha : a < 100) (hb : b < 100) : (pOff c a b).map tkP = tOff c a b := by
  obtain ⟨k1, k2, k3, k4, k5, k6, k7, k8, k9, k10, k11, k13, k15⟩ := kws
  simp only [pOff, tOff, List.map_cons, List.map_nil, tkW k3, tkW k4, tkC hc.1 hc.2, tkN ha, tkN hb, tkS]
theorem mWit {c a b d e : Nat} (hc : c < 27 ∧ 1 ≤ c) (ha : a < 100) (hb : b < 100) (hd : d < 100) (he : e < 100) : (pWit c a b d e).map tkP = tWit c a b d e := by
  obtain ⟨k1, k2, k3, k4, k5, k6, k7, k8, k9, k10, k11, k13, k15⟩ := kws
  simp only [pWit, tWit, List.map_cons, List.map_nil, tkW k5, tkW k6, tkW k2, tkC hc.1 hc.2, tkN ha, tkN hb, tkN hd, tkN he, tkS]
theorem mNd {nd : Nat} : (pNd nd).map tkP = tNd nd := by
  obtain ⟨k1, k2, k3, k4, k5, k6, k7, k8, k9, k10, k11, k13, k15⟩ := kws
  unfold pNd tNd
  by_cases e : nd = 0
  · rw [if_pos e, if_pos e]
    simp only [List.map_cons, List.map_nil, tkW k11, tkC (show 23 < 27 by omega) (by omega)]
  · rw [if_neg e, if_neg e]
    by_cases e2 : nd = 1
    · rw [if_pos e2, if_pos e2]
      simp only [List.map_cons, List.map_nil, tkW k11, tkC (show 24 < 27 by omega) (by omega)]
    · rw [if_neg e2, if_neg e2]
      rfl
theorem mCu {cu : Bool} : (pCu cu).map tkP = tCu cu := by
  obtain ⟨k1, k2, k3, k4, k5, k6, k7, k8, k9, k10, k11, k13, k15⟩ := kws
  unfold pCu tCu
  cases cu with
  | false => rfl
  | true => simp only [if_true, List.map_cons, List.map_nil, tkW k10]
theorem mCase {c f q l nd : Nat} {cu : Bool} (hc : c < 27 ∧ 1 ≤ c) (ha : f < 100) (hb : q < 100) (hd : l < 100) : (pCase c f q l cu nd).map tkP = tCase c f q l cu nd := by
  obtain ⟨k1, k2, k3, k4, k5, k6, k7, k8, k9, k10, k11, k13, k15⟩ := kws
  simp only [pCase, tCase, List.map_append, List.map_cons, List.map_nil, tkW k7, tkW k8, tkW k2, tkW k9, tkC hc.1 hc.2, tkN ha, tkN hb, tkN hd, tkS, mCu, mNd]
theorem mCon : pCon.map tkP = tCon := by
  obtain ⟨k1, k2, k3, k4, k5, k6, k7, k8, k9, k10, k11, k13, k15⟩ := kws
  simp only [pCon, tCon, List.map_cons, List.map_nil, tkW k13, tkC (show 1 < 27 by omega) (by omega), tkC (show 2 < 27 by omega) (by omega), tkS]
theorem mCap {v : Nat} (hv : v < 100) : (pCap v).map tkP = tCap v := by
  obtain ⟨k1, k2, k3, k4, k5, k6, k7, k8, k9, k10, k11, k13, k15⟩ := kws
  simp only [pCap, tCap, List.map_cons, List.map_nil, tkW k15, tkN hv, tkS]
theorem okWd : ∀ b, b ∈ [wRoom, wSlots, wOfficer, wOff, wWitness, wDays, wCase, wFiled, wLimit, wCustody, wNeeds, wConflict, wCap] → 1 ≤ b.length ∧ b.length ≤ 8 ∧ ∀ c, c ∈ b → ltr c = true := by decide +kernel
theorem oW {sp : Bool} {b : List Nat} (h : b ∈ [wRoom, wSlots, wOfficer, wOff, wWitness, wDays, wCase, wFiled, wLimit, wCustody, wNeeds, wConflict, wCap]) : okB (sp, 0, b) := Or.inl ⟨rfl, okWd b h⟩
theorem oC {sp : Bool} {c : Nat} (h : c < 27 ∧ 1 ≤ c) : okB (sp, 0, [96 + c]) := Or.inl ⟨rfl, by simp, by simp, fun x hx => by
  have : x = 96 + c := by simpa using hx
  rw [this]
  unfold ltr
  exact decide_eq_true (by omega)⟩
theorem oN {sp : Bool} {v : Nat} (h : v < 100) : okB (sp, 1, decC v) := Or.inr (Or.inl ⟨rfl, (dec_v v h).2⟩)
theorem oS {sp : Bool} : okB (sp, 2, [59]) := Or.inr (Or.inr ⟨rfl, rfl⟩)
theorem okP_app : ∀ (a b : List Pc), okP a → okP b → okP (a ++ b)
  | [], b, _, hb => hb
  | [x], [], ha, _ => ha
  | [x], y :: r, ha, hb => ⟨ha.1, Or.inr (Or.inr ha.2), hb⟩
  | x :: y :: r, b, ha, hb => ⟨ha.1, ha.2.1, okP_app (y :: r) b ha.2.2 hb⟩
theorem oRoom {c a b : Nat} (hc : c < 27 ∧ 1 ≤ c) (ha : a < 100) (hb : b < 100) : okP (pRoom c a b) := ⟨oW (by simp), Or.inl rfl, oC hc, Or.inl rfl, oW (by simp), Or.inl rfl, oN ha, Or.inl rfl, oN hb, Or.inr (Or.inl rfl), oS, rfl⟩
theorem oOff {c a b : Nat} (hc : c < 27 ∧ 1 ≤ c) (ha : a < 100) (hb : b < 100) : okP (pOff c a b) := ⟨oW (by simp), Or.inl rfl, oC hc, Or.inl rfl, oW (by simp), Or.inl rfl, oN ha, Or.inl rfl, oN hb, Or.inr (Or.inl rfl), oS, rfl⟩
theorem oWit {c a b d e : Nat} (hc : c < 27 ∧ 1 ≤ c) (ha : a < 100) (hb : b < 100) (hd : d < 100) (he : e < 100) : okP (pWit c a b d e) := ⟨oW (by simp), Or.inl rfl, oC hc, Or.inl rfl, oW (by simp), Or.inl rfl, oN ha, Or.inl rfl, oN hb, Or.inl rfl, oW (by simp), Or.inl rfl, oN hd, Or.inl rfl, oN he, Or.inr (Or.inl rfl), oS, rfl⟩
theorem oCase {c f q l nd : Nat} {cu : Bool} (hc : c < 27 ∧ 1 ≤ c) (ha : f < 100) (hb : q < 100) (hd : l < 100) : okP (pCase c f q l cu nd) := by
  have fin : ∀ (r : List Pc), r = pCu cu ++ (pNd nd ++ [(false, 2, [59])]) → okP ((true, 1, decC l) :: r) := fun r e => by
    subst e
    unfold pCu pNd
    cases cu with
    | false =>
      by_cases e : nd = 0
      · rw [if_pos e]; exact ⟨oN hd, Or.inl rfl, oW (by simp), Or.inl rfl, oC (by omega), Or.inr (Or.inl rfl), oS, rfl⟩
      · rw [if_neg e]
        by_cases e2 : nd = 1
        · rw [if_pos e2]; exact ⟨oN hd, Or.inl rfl, oW (by simp), Or.inl rfl, oC (by omega), Or.inr (Or.inl rfl), oS, rfl⟩
        · rw [if_neg e2]; exact ⟨oN hd, Or.inr (Or.inl rfl), oS, rfl⟩
    | true =>
      by_cases e : nd = 0
      · rw [if_pos e]; exact ⟨oN hd, Or.inl rfl, oW (by simp), Or.inl rfl, oW (by simp), Or.inl rfl, oC (by omega), Or.inr (Or.inl rfl), oS, rfl⟩
      · rw [if_neg e]
        by_cases e2 : nd = 1
        · rw [if_pos e2]; exact ⟨oN hd, Or.inl rfl, oW (by simp), Or.inl rfl, oW (by simp), Or.inl rfl, oC (by omega), Or.inr (Or.inl rfl), oS, rfl⟩
        · rw [if_neg e2]; exact ⟨oN hd, Or.inl rfl, oW (by simp), Or.inr (Or.inl rfl), oS, rfl⟩
  have := fin _ rfl
  exact ⟨oW (by simp), Or.inl rfl, oC hc, Or.inl rfl, oW (by simp), Or.inl rfl, oN ha, Or.inl rfl, oW (by simp), Or.inl rfl, oN hb, Or.inl rfl, oW (by simp), Or.inl rfl, this⟩
theorem oCon : okP pCon := ⟨oW (by simp), Or.inl rfl, oC (by omega), Or.inl rfl, oC (by omega), Or.inr (Or.inl rfl), oS, rfl⟩
theorem oCap {v : Nat} (hv : v < 100) : okP (pCap v) := ⟨oW (by simp), Or.inl rfl, oN hv, Or.inr (Or.inl rfl), oS, rfl⟩
/-- all of the drawn text -/
def pAll (D : Nat → Nat → Nat → Nat) : List Pc := pRoom 18 (D 0 0 2) (D 2 3 7) ++ (pRoom 19 (D 1 0 2) (D 3 3 7) ++ (pOff 15 (D 4 0 9) (D 6 9 15) ++ (pOff 16 (D 5 0 9) (D 7 9 15) ++ (pWit 23 (D 8 0 9) (D 10 9 60) (D 12 0 1) (D 14 4 7) ++ (pWit 24 (D 9 0 9) (D 11 9 60) (D 13 0 1) (D 15 4 7) ++ (pCase 1 (D 16 0 9) (D 20 1 4) (D 24 1 20) true (D 28 0 2) ++ (pCase 2 (D 17 0 9) (D 21 1 4) (D 25 1 20) false (D 29 0 2) ++ (pCase 3 (D 18 0 9) (D 22 1 4) (D 26 1 20) true (D 30 0 2) ++ (pCase 4 (D 19 0 9) (D 23 1 4) (D 27 1 20) false (D 31 0 2) ++ (pCon ++ pCap (D 32 0 20)))))))))))
def tAll (D : Nat → Nat → Nat → Nat) : List Tk := tRoom 18 (D 0 0 2) (D 2 3 7) ++ (tRoom 19 (D 1 0 2) (D 3 3 7) ++ (tOff 15 (D 4 0 9) (D 6 9 15) ++ (tOff 16 (D 5 0 9) (D 7 9 15) ++ (tWit 23 (D 8 0 9) (D 10 9 60) (D 12 0 1) (D 14 4 7) ++ (tWit 24 (D 9 0 9) (D 11 9 60) (D 13 0 1) (D 15 4 7) ++ (tCase 1 (D 16 0 9) (D 20 1 4) (D 24 1 20) true (D 28 0 2) ++ (tCase 2 (D 17 0 9) (D 21 1 4) (D 25 1 20) false (D 29 0 2) ++ (tCase 3 (D 18 0 9) (D 22 1 4) (D 26 1 20) true (D 30 0 2) ++ (tCase 4 (D 19 0 9) (D 23 1 4) (D 27 1 20) false (D 31 0 2) ++ (tCon ++ tCap (D 32 0 20)))))))))))
theorem all_ok {D : Nat → Nat → Nat → Nat} (h : ∀ a lo hi, lo ≤ hi → lo ≤ D a lo hi ∧ D a lo hi ≤ hi) : okP (pAll D) ∧ (pAll D).map tkP = tAll D := by
  have z : ∀ a lo hi, lo ≤ hi → hi < 100 → D a lo hi < 100 := fun a lo hi h1 h2 => by have := h a lo hi h1; omega
  constructor
  · unfold pAll
    refine okP_app _ _ ?_ (okP_app _ _ ?_ (okP_app _ _ ?_ (okP_app _ _ ?_ (okP_app _ _ ?_ (okP_app _ _ ?_ (okP_app _ _ ?_ (okP_app _ _ ?_ (okP_app _ _ ?_ (okP_app _ _ ?_ (okP_app _ _ ?_ ?_))))))))))
    all_goals first
      | exact oRoom (by omega) (z _ _ _ (by omega) (by omega)) (z _ _ _ (by omega) (by omega))
      | exact oOff (by omega) (z _ _ _ (by omega) (by omega)) (z _ _ _ (by omega) (by omega))
      | exact oWit (by omega) (z _ _ _ (by omega) (by omega)) (z _ _ _ (by omega) (by omega)) (z _ _ _ (by omega) (by omega)) (z _ _ _ (by omega) (by omega))
      | exact oCase (by omega) (z _ _ _ (by omega) (by omega)) (z _ _ _ (by omega) (by omega)) (z _ _ _ (by omega) (by omega))
      | exact oCon
      | exact oCap (z _ _ _ (by omega) (by omega))
  · unfold pAll tAll
    rw [List.map_append, List.map_append, List.map_append, List.map_append, List.map_append, List.map_append, List.map_append, List.map_append, List.map_append, List.map_append, List.map_append, mRoom (by omega) (z _ _ _ (by omega) (by omega)) (z _ _ _ (by omega) (by omega)), mRoom (by omega) (z _ _ _ (by omega) (by omega)) (z _ _ _ (by omega) (by omega)), mOff (by omega) (z _ _ _ (by omega) (by omega)) (z _ _ _ (by omega) (by omega)), mOff (by omega) (z _ _ _ (by omega) (by omega)) (z _ _ _ (by omega) (by omega)), mWit (by omega) (z _ _ _ (by omega) (by omega)) (z _ _ _ (by omega) (by omega)) (z _ _ _ (by omega) (by omega)) (z _ _ _ (by omega) (by omega)), mWit (by omega) (z _ _ _ (by omega) (by omega)) (z _ _ _ (by omega) (by omega)) (z _ _ _ (by omega) (by omega)) (z _ _ _ (by omega) (by omega)), mCase (by omega) (z _ _ _ (by omega) (by omega)) (z _ _ _ (by omega) (by omega)) (z _ _ _ (by omega) (by omega)), mCase (by omega) (z _ _ _ (by omega) (by omega)) (z _ _ _ (by omega) (by omega)) (z _ _ _ (by omega) (by omega)), mCase (by omega) (z _ _ _ (by omega) (by omega)) (z _ _ _ (by omega) (by omega)) (z _ _ _ (by omega) (by omega)), mCase (by omega) (z _ _ _ (by omega) (by omega)) (z _ _ _ (by omega) (by omega)) (z _ _ _ (by omega) (by omega)), mCon, mCap (z _ _ _ (by omega) (by omega))]
