variable {X : Kd}
def whN (nm : Nat → List Nat) (l : List Nat) (n : Nat) : Option Nat := fstF (fun i => decide (nm i = l)) 0 n
theorem x_indexOf {w : Wd} {o m M n : Nat} {nm : Nat → List Nat} {l : List Nat} (h1 : wI w 401 o = nI n) (h2 : cha (Kx X) 23 (wR w 400 o) = some (m, M)) (hn : n ≤ M) (hM : M ≤ 12) (h3 : ∀ i, i < n → aJ w m i = nJ (pkX (nm i)) ∧ NmOK (nm i)) (hl : NmOK l) : f_X4_indexOf (Kx X) o (nJ (pkX l)) w = some (oI (whN nm l n), w) := by
  unfold f_X4_indexOf whN
  refine (loop_fst (fun f c => f_X4_indexOf_L2 (Kx X) o (fun v1_2 v3_2 w1 => some ((-1), w1)) f (nJ (pkX l)) (nI c) w) (fun i => decide (nm i = l)) n (fun i => some (nI i, w)) (some (-1, w)) (fun f => ?_) (fun f c hc hp => ?_) (fun f c hc hp => ?_) n 0 fu (by omega) (fu_lt (by omega))).trans ?_
  · try dsimp only
    rw [f_X4_indexOf_L2, h1, if_le_t (by omega) (by omega) (Nat.le_refl _)]
  · have e := of_decide_eq_true hp
    try dsimp only
    rw [f_X4_indexOf_L2, h1, if_le_f (by omega) (by omega) hc, h2, Option.bind_some]
    try dsimp only
    rw [ixa_n (by omega) (by omega), Option.bind_some, (h3 c hc).1, e, if_pos (lgc_eq.mpr rfl)]
  · have e := of_decide_eq_false hp
    try dsimp only
    rw [f_X4_indexOf_L2, h1, if_le_f (by omega) (by omega) hc, h2, Option.bind_some]
    try dsimp only
    rw [ixa_n (by omega) (by omega), Option.bind_some, (h3 c hc).1, if_neg (fun q => e ((pkX_inj (h3 c hc).2 hl).mp (lgc_eq.mp q))), show nI c + 1 = nI (c + 1) from nI_add c 1]
  · cases fstF (fun i => decide (nm i = l)) 0 n <;> rfl
