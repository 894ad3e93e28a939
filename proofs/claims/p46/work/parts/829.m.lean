variable {X : Kd}
theorem m1_i64 {n : Nat} (h : n < 2 ^ 31) : (nI n - nI 1).toInt64.toInt = (n : Int) - 1 := by
  rw [Int32.toInt_toInt64]
  by_cases e : n = 0
  · subst e; decide
  · rw [sub_nI (by omega), nI_toInt (by omega)]
    omega
def mts (s t : Nat → Nat) (i d q c : Nat) : Bool := !(c == i) && (hrg t c && ((cs t c 3 == d) && decide (cs t c 4 < q + s (100 + i) ∧ q < cs t c 4 + s (100 + c))))
theorem mts_hr {s t : Nat → Nat} {i d q c : Nat} (h : mts s t i d q c = true) : hrg t c = true := by
  simp only [mts, Bool.and_eq_true] at h
  exact h.2.1
def rmT (s t : Nat → Nat) (i d q r : Nat) : Bool := anyF (fun c => mts s t i d q c && cs t c 5 == r) 0 (s 3)
def ofT (s t : Nat → Nat) (i d q o : Nat) : Bool := anyF (fun c => mts s t i d q c && cs t c 6 == o) 0 (s 3)
def wiT (s t : Nat → Nat) (i d q : Nat) : Bool := anyF (fun c => mts s t i d q c && !(s (136 + c) &&& s (136 + i) == 0)) 0 (s 3)
def inW (s t : Nat → Nat) (i d q v : Nat) : Bool := decide (s (52 + v) ≤ d ∧ d < t (22 + v)) && decide (s (64 + v) ≤ q ∧ q + s (100 + i) - 1 ≤ s (76 + v))
def ouT (s t : Nat → Nat) (i d q : Nat) : Bool := anyF (fun v => (s (136 + i)).testBit v && !inW s t i d q v) 0 (s 2)
def offS (s : Nat → Nat) (G : Int32) (o d : Nat) : Bool := awayS s o d || decide (nI o = G)

def okR (s t : Nat → Nat) (i d q r : Nat) : Bool := decide (s (4 + r) ≤ q ∧ q + s (100 + i) - 1 ≤ s (7 + r)) && !rmT s t i d q r
def okO (s t : Nat → Nat) (G : Int32) (i d q o : Nat) : Bool := !offS s G o d && (!ofT s t i d q o && !brd s t o i)
def okW (s t : Nat → Nat) (i d q : Nat) : Bool := !ouT s t i d q && !wiT s t i d q
def pbN (s t : Nat → Nat) (G : Int32) (i d q r o : Nat) : Nat :=
  if ¬ (s (4 + r) ≤ q ∧ q + s (100 + i) - 1 ≤ s (7 + r)) then 3 else if rmT s t i d q r = true then 4 else if offS s G o d = true then 5 else if ofT s t i d q o = true then 6 else
  if brd s t o i = true then 7 else if ouT s t i d q = true then 8 else if wiT s t i d q = true then 9 else 0
theorem pbN_0 {s t : Nat → Nat} {G : Int32} {i d q r o : Nat} : pbN s t G i d q r o = 0 ↔ (okR s t i d q r && okW s t i d q && okO s t G i d q o) = true := by
  unfold pbN okR okO okW
  by_cases e1 : s (4 + r) ≤ q ∧ q + s (100 + i) - 1 ≤ s (7 + r)
  · cases e2 : rmT s t i d q r <;> cases e3 : offS s G o d <;> cases e4 : ofT s t i d q o <;> cases e5 : brd s t o i <;> cases e6 : ouT s t i d q <;> cases e7 : wiT s t i d q <;> simp [e1]
  · rw [if_pos e1, decide_eq_false e1]
    simp
theorem pbN_le {s t : Nat → Nat} {G : Int32} {i d q r o : Nat} : pbN s t G i d q r o ≤ 9 := by
  unfold pbN
  repeat' split
  all_goals omega
theorem obd {α β : Type} {o : Option α} {x : α} {k : α → Option β} {r : Option β} (h : o = some x) (h2 : k x = r) : o.bind k = r := by subst h; exact h2
theorem obb {β : Type} {b : Bool} {w : Wd} {o : Option (Bool × Wd)} {f g : Bool × Wd → Option β} {r : Option β} (h : o = some (b, w)) (h0 : b = false → f (b, w) = r) (h1 : b = true → g (b, w) = r) : (o.bind fun q => if b2i q.1 = 0 then f q else g q) = r := by
  subst h
  cases b
  · exact h0 rfl
  · exact h1 rfl
theorem ixc (c : Nat) {n N : Nat} (h : c + n < N) (hN : N < 2 ^ 31) : ixa (@OfNat.ofNat Int32 c _ + nI n) N = some (c + n) := by
  rw [il, nI_add]
  exact ixa_n h hN
def dyO (s t : Nat → Nat) (i d : Nat) : Bool := decide (d < t 0) || (decide (d < s (88 + i)) || !wkg t d)
def flN (s t : Nat → Nat) (G : Int32) (i d q r o : Nat) : Nat := if dyO s t i d = true then 1 else if limD s t i < d then 2 else pbN s t G i d q r o
