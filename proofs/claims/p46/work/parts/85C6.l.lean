/-! The drawn text is its pieces' text. -/
variable {X : Kd}
theorem pcT_app : ∀ (a b : List Pc), pcT (a ++ b) = pcT a ++ pcT b
  | [], b => rfl
  | x :: r, b => by
    rw [List.cons_append, pcT, pcT, pcT_app r b, List.append_assoc, List.append_assoc]
theorem sC0 : strC 0 = wRoom ++ [32] := by decide +kernel
theorem sC1 : strC 1 = [32] ++ wSlots ++ [32] := by decide +kernel
theorem sC2 : strC 2 = wOfficer ++ [32] := by decide +kernel
theorem sC3 : strC 3 = [32] ++ wOff ++ [32] := by decide +kernel
theorem sC4 : strC 4 = wWitness ++ [32] := by decide +kernel
theorem sC5 : strC 5 = [32] ++ wDays ++ [32] := by decide +kernel
theorem sC6 : strC 6 = wCase ++ [32] := by decide +kernel
theorem sC7 : strC 7 = [32] ++ wFiled ++ [32] := by decide +kernel
theorem sC8 : strC 8 = [32] ++ wLimit ++ [32] := by decide +kernel
theorem sC9 : strC 9 = [32] ++ wCustody := by decide +kernel
theorem sC10 : strC 10 = [] := by decide +kernel
theorem sC11 : strC 11 = [32] ++ wNeeds ++ [32] ++ [96 + 23] ++ [59] := by decide +kernel
theorem sC12 : strC 12 = [32] ++ wNeeds ++ [32] ++ [96 + 24] ++ [59] := by decide +kernel
theorem sC13 : strC 13 = [59] := by decide +kernel
theorem sC14 : strC 14 = wConflict ++ [32] ++ [96 + 1] ++ [32] ++ [96 + 2] ++ [59] ++ wCap ++ [32] := by decide +kernel
theorem xRoom {c a b : Nat} : pcT (pRoom c a b) = strC 0 ++ [96 + c] ++ strC 1 ++ decC a ++ [32] ++ decC b ++ [59] := by
  rw [sC0, sC1]
  simp only [pRoom, pcT, wsP, if_true, if_false, List.append_assoc, List.nil_append, Bool.false_eq_true, List.append_nil]
theorem xOff {c a b : Nat} : pcT (pOff c a b) = strC 2 ++ [96 + c] ++ strC 3 ++ decC a ++ [32] ++ decC b ++ [59] := by
  rw [sC2, sC3]
  simp only [pOff, pcT, wsP, if_true, if_false, List.append_assoc, List.nil_append, Bool.false_eq_true, List.append_nil]
theorem xWit {c a b d e : Nat} : pcT (pWit c a b d e) = strC 4 ++ [96 + c] ++ strC 5 ++ decC a ++ [32] ++ decC b ++ strC 1 ++ decC d ++ [32] ++ decC e ++ [59] := by
  rw [sC4, sC5, sC1]
  simp only [pWit, pcT, wsP, if_true, if_false, List.append_assoc, List.nil_append, Bool.false_eq_true, List.append_nil]
theorem xCase {c f q l nd : Nat} {cu : Bool} : pcT (pCase c f q l cu nd) = strC 6 ++ [96 + c] ++ strC 7 ++ decC f ++ strC 1 ++ decC q ++ strC 8 ++ decC l ++ (if cu then strC 9 else strC 10) ++ (if nd = 0 then strC 11 else if nd = 1 then strC 12 else strC 13) := by
  rw [sC6, sC7, sC1, sC8, sC9, sC10, sC11, sC12, sC13]
  unfold pCase pCu pNd
  cases cu with
  | false =>
    by_cases e : nd = 0
    · simp only [if_pos e, pcT, wsP, if_true, if_false, List.append_assoc, List.nil_append, List.cons_append, Bool.false_eq_true, List.append_nil]
    · simp only [if_neg e]
      by_cases e2 : nd = 1
      · simp only [if_pos e2, pcT, wsP, if_true, if_false, List.append_assoc, List.nil_append, List.cons_append, Bool.false_eq_true, List.append_nil]
      · simp only [if_neg e2, pcT, wsP, if_true, if_false, List.append_assoc, List.nil_append, List.cons_append, Bool.false_eq_true, List.append_nil]
  | true =>
    by_cases e : nd = 0
    · simp only [if_pos e, pcT, wsP, if_true, if_false, List.append_assoc, List.nil_append, List.cons_append, Bool.false_eq_true, List.append_nil]
    · simp only [if_neg e]
      by_cases e2 : nd = 1
      · simp only [if_pos e2, pcT, wsP, if_true, if_false, List.append_assoc, List.nil_append, List.cons_append, Bool.false_eq_true, List.append_nil]
      · simp only [if_neg e2, pcT, wsP, if_true, if_false, List.append_assoc, List.nil_append, List.cons_append, Bool.false_eq_true, List.append_nil]
theorem xEnd {v : Nat} : pcT (pCon ++ pCap v) = strC 14 ++ decC v ++ [59] := by
  rw [sC14]
  simp only [pCon, pCap, pcT, wsP, if_true, if_false, List.append_assoc, List.nil_append, List.cons_append, Bool.false_eq_true, List.append_nil]
theorem txt_eq {L : Nat} {xs : Nat → Int32} : pcT (pAll (drN L xs)) = tl_H10_0 L xs := by
  unfold pAll tl_H10_0 tl_H10_1 tl_H10_2 tl_H76_0 tl_H76_1 tl_H76_2 tl_H147_0 tl_H147_1 tl_H147_2 tl_H256_0 tl_H256_1 tl_H256_2 tl_H256_3 tl_H256_4
  rw [pcT_app, pcT_app, pcT_app, pcT_app, pcT_app, pcT_app, pcT_app, pcT_app, pcT_app, pcT_app, xRoom, xRoom, xOff, xOff, xWit, xWit, xCase, xCase, xCase, xCase, xEnd]
  simp only [List.append_assoc, if_true, if_false, Bool.false_eq_true]
theorem pc_128 : ∀ (ps : List Pc), okP ps → ∀ c, c ∈ pcT ps → c < 128
  | [], _, c, h => by cases h
  | x :: r, ok, c, h => by
    rw [pcT, List.mem_append, List.mem_append] at h
    rcases h with h | h | h
    · unfold wsP at h
      split at h
      · have : c = 32 := by simpa using h
        omega
      · cases h
    · rcases ok.b with ⟨_, _, _, h3⟩ | ⟨_, _, _, h3⟩ | ⟨_, h3⟩
      · have := h3 c h
        unfold ltr at this
        simp only [decide_eq_true_eq] at this
        omega
      · have := h3 c h
        unfold dgt at this
        simp only [decide_eq_true_eq] at this
        omega
      · rw [h3] at h
        have : c = 59 := by simpa using h
        omega
    · exact pc_128 r ok.t c h
theorem nd_len (x : Nat) : (if x = 0 then strC 11 else if x = 1 then strC 12 else strC 13).length ≤ 9 := by
  split
  · rw [sl11]; omega
  · split
    · rw [sl12]; omega
    · rw [sl13]; omega
theorem txt_len {L : Nat} {xs : Nat → Int32} : (tl_H10_0 L xs).length < 600 := by
  have d : ∀ a lo hi, lo ≤ hi → hi < 100 → (decC (drN L xs a lo hi)).length ≤ 2 := fun a lo hi h1 h2 => by
    have := drN_rg (L := L) (xs := xs) (a := a) h1
    exact (decC_d _ (by omega)).2.1
  have d0 := d 0 0 2 (by omega) (by omega)
  have d1 := d 1 0 2 (by omega) (by omega)
  have d2 := d 2 3 7 (by omega) (by omega)
  have d3 := d 3 3 7 (by omega) (by omega)
  have d4 := d 4 0 9 (by omega) (by omega)
  have d5 := d 5 0 9 (by omega) (by omega)
  have d6 := d 6 9 15 (by omega) (by omega)
  have d7 := d 7 9 15 (by omega) (by omega)
  have d8 := d 8 0 9 (by omega) (by omega)
  have d9 := d 9 0 9 (by omega) (by omega)
  have d10 := d 10 9 60 (by omega) (by omega)
  have d11 := d 11 9 60 (by omega) (by omega)
  have d12 := d 12 0 1 (by omega) (by omega)
  have d13 := d 13 0 1 (by omega) (by omega)
  have d14 := d 14 4 7 (by omega) (by omega)
  have d15 := d 15 4 7 (by omega) (by omega)
  have d16 := d 16 0 9 (by omega) (by omega)
  have d17 := d 17 0 9 (by omega) (by omega)
  have d18 := d 18 0 9 (by omega) (by omega)
  have d19 := d 19 0 9 (by omega) (by omega)
  have d20 := d 20 1 4 (by omega) (by omega)
  have d21 := d 21 1 4 (by omega) (by omega)
  have d22 := d 22 1 4 (by omega) (by omega)
  have d23 := d 23 1 4 (by omega) (by omega)
  have d24 := d 24 1 20 (by omega) (by omega)
  have d25 := d 25 1 20 (by omega) (by omega)
  have d26 := d 26 1 20 (by omega) (by omega)
  have d27 := d 27 1 20 (by omega) (by omega)
  have d28 := d 32 0 20 (by omega) (by omega)
  have n0 := nd_len (drN L xs 28 0 2)
  have n1 := nd_len (drN L xs 29 0 2)
  have n2 := nd_len (drN L xs 30 0 2)
  have n3 := nd_len (drN L xs 31 0 2)
  unfold tl_H10_0 tl_H10_1 tl_H10_2 tl_H76_0 tl_H76_1 tl_H76_2 tl_H147_0 tl_H147_1 tl_H147_2 tl_H256_0 tl_H256_1 tl_H256_2 tl_H256_3 tl_H256_4
  simp only [List.length_append, List.length_cons, List.length_nil, sl0, sl1, sl2, sl3, sl4, sl5, sl6, sl7, sl8, sl9, sl10, sl14]
  omega
theorem txt_128 {L : Nat} {xs : Nat → Int32} : ∀ j, j < (tl_H10_0 L xs).length → (tl_H10_0 L xs).getD j 0 < 128 := fun j hj => by
  rw [← txt_eq] at hj ⊢
  refine pc_128 (pAll (drN L xs)) (all_ok (D := drN L xs) (fun a lo hi h => drN_rg (L := L) (xs := xs) (a := a) h)).1 _ ?_
  rw [List.getD_eq_getElem?_getD, List.getElem?_eq_getElem hj]
  exact List.getElem_mem hj
