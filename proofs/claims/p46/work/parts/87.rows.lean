/-! Rows of the law's own walk. -/
theorem rm_c {a : Nat} (h : a ≤ 1000) : a ≤ room_1.cells := Nat.le_trans h (Nat.le_of_ble_eq_true rfl)
theorem rm_s {a : Nat} (h : a ≤ 200000) : a ≤ room_1.slots := Nat.le_trans h (Nat.le_of_ble_eq_true rfl)
theorem kx0 {X : Kd} : Kx X 0 = some (10, 0) := kx (by decide +kernel)
theorem kxl {X : Kd} : Kx X 414 = ktab[414]? := if_pos (by decide)
theorem kl_is : (ktab[414]?).isSome = true := by decide +kernel
section LAWROWS
variable {p : Program} {l : Launch} {e : Env} {R : Room} {s : State} {m : MethodId} {args : Array Value} {below : List Frame} {meth : Method} {c : Code} {H : Heap} {locs : List Loc} {cells slots : Nat} {Q : State → Prop}
variable {pc : Nat} {ls : Array Slot} {rest st0 : List Value} {E : Ev} {K : Kd} {z : Nat} {w : Wd} {a0 : Array Value}
theorem hcWk {K' : Kd} {w' : Wd} {r0 : Int32} {kc ks : Nat} (hH : HQ E K z w s H locs) (hr : va_Run p l e R s m args below meth c H locs cells slots kc ks (F0 m pc ls st0) rest (QW E K' w' r0 a0) (hA E)) (kk : ∀ (H1 : Heap) (locs1 : List Loc) (z1 : Nat), HQ E K' z1 w' s H1 locs1 → W p l e R s m args below meth c H1 locs1 (cells + kc) (slots + ks) Q (F0 m (pc + 3) ls (.int r0 :: rest))) : W p l e R s m args below meth c H locs cells slots Q (F0 m pc ls st0) := by
  refine va_calli hr hH.2.1 (fun q _ h => h) (fun q h => h) (fun x u t H1 locs1 ht hvm hp hB hz hk hS => ?_)
  subst hp
  exact kk H1 locs1 _ ⟨by rw [← ht]; exact hB, hS, rfl⟩
/-- the heap is longer than what the start made -/
theorem hq_n {X : Kd} (hH : HQ E (Kx X) z w s H locs) : ∃ n, 415 ≤ n ∧ HQ E (Kx X) (E.2.1 + n) w s H locs := by
  obtain ⟨q, hq⟩ := Option.isSome_iff_exists.mp kl_is
  have h1 := hH.1 414 q (kxl.trans hq)
  have h2 : E.2.1 + 414 < H.size := va_at.lt h1
  have h3 := hH.2.2
  exact ⟨z - E.2.1, by omega, hH.1, hH.2.1, by omega⟩
end LAWROWS
theorem law_end {p : Program} {l : Launch} {e : Env} {s : State} {m : MethodId} {below : List Frame} {meth : Method} {c : Code} {E : Ev} {K : Kd} {z : Nat} {w : Wd} {H : Heap} {locs : List Loc} {ls : Array Slot} {pc cells slots : Nat} (C : CX p l e s m #[Value.ref (E.2.2.2.1 500)] meth c code 9 RL ret E) (hE : E.2.1 = s.heap.size) (hH : HQ E K z w s H locs) (h1 : cells ≤ 1000) (h2 : slots ≤ 200000) (hdg : decode code pc = .ok (.ireturn, 1)) : W p l e room_1 s m #[Value.ref (E.2.2.2.1 500)] below meth c H locs cells slots (lw_Z below #[Value.ref (E.2.2.2.1 500)] s) (F0 m pc ls [.int 1]) := by
  obtain ⟨hx, hb, hml, hown, hts, hKs, hT, hb0, hlocks, hret⟩ := id C
  refine va_forget (fun q hq => by rw [← hE]; exact hH.2.1.2.2 q hq) ?_
  refine W.widen (k := 617465) (n := 7249303) (Nat.le_trans h1 (Nat.le_of_ble_eq_true rfl)) (Nat.le_trans h2 (Nat.le_of_ble_eq_true rfl)) ?_
  exact lw_ret hx hb hret hlocks hdg
/-- what the history leads back to -/
def und (T : Nat → Nat) (hs : Nat → Nat → Nat) (k : Nat) : Nat → Nat := if k = 0 then T else hs 0
theorem lw_bt : ¬ b2i true = 0 := by decide
