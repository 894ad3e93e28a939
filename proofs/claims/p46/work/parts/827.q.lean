variable {X : Kd}
theorem HX.pg {w : Wd} {a b : Nat} {s t : Nat → Nat} (h : HX w a b s t) : cha (Kx X) 27 (wR w 1005 a) = some (a + 5, 12) := t1005 h.1 h.2.1.1
theorem HX.pe {w : Wd} {a b : Nat} {s t : Nat → Nat} (h : HX w a b s t) {i : Nat} (hi : i < 12) : chk (Kx X) 6 (aR w (a + 5) i) = some (a + 6 + 2 * i) := tpr h.1 h.2.1.1 hi
theorem HX.mt {w : Wd} {a b : Nat} {s t : Nat → Nat} (h : HX w a b s t) : cha (Kx X) 25 (wR w 909 b) = some (b + 10, 12) := u909 h.1 h.2.1.2.1
theorem HX.me {w : Wd} {a b : Nat} {s t : Nat → Nat} (h : HX w a b s t) {i : Nat} (hi : i < 12) : chk (Kx X) 2 (aR w (b + 10) i) = some (b + 22 + i) := umt h.1 h.2.1.2.1 hi
theorem HX.p0 {w : Wd} {a b : Nat} {s t : Nat → Nat} (h : HX w a b s t) {i : Nat} (hi : i < 12) : wI w 700 (a + 6 + 2 * i) = nI (cs t i 0) := (h.2.2.2.1.2.2.2.2 i hi).1
theorem HX.p1 {w : Wd} {a b : Nat} {s t : Nat → Nat} (h : HX w a b s t) {i : Nat} (hi : i < 12) : wI w 701 (a + 6 + 2 * i) = nI (cs t i 1) := (h.2.2.2.1.2.2.2.2 i hi).2.1
theorem HX.p6 {w : Wd} {a b : Nat} {s t : Nat → Nat} (h : HX w a b s t) {i : Nat} (hi : i < 12) : wI w 706 (a + 6 + 2 * i) = nI (cs t i 2) := (h.2.2.2.1.2.2.2.2 i hi).2.2.1
theorem HX.p2 {w : Wd} {a b : Nat} {s t : Nat → Nat} (h : HX w a b s t) {i : Nat} (hi : i < 12) (e : hrg t i = true) : wI w 702 (a + 6 + 2 * i) = nI (cs t i 3) := ((h.2.2.2.1.2.2.2.2 i hi).2.2.2.1 e).1
theorem HX.p3 {w : Wd} {a b : Nat} {s t : Nat → Nat} (h : HX w a b s t) {i : Nat} (hi : i < 12) (e : hrg t i = true) : wI w 703 (a + 6 + 2 * i) = nI (cs t i 4) := ((h.2.2.2.1.2.2.2.2 i hi).2.2.2.1 e).2.1
theorem HX.p4 {w : Wd} {a b : Nat} {s t : Nat → Nat} (h : HX w a b s t) {i : Nat} (hi : i < 12) (e : hrg t i = true) : wI w 704 (a + 6 + 2 * i) = nI (cs t i 5) := ((h.2.2.2.1.2.2.2.2 i hi).2.2.2.1 e).2.2.1
theorem HX.p5 {w : Wd} {a b : Nat} {s t : Nat → Nat} (h : HX w a b s t) {i : Nat} (hi : i < 12) (e : hrg t i = true) : wI w 705 (a + 6 + 2 * i) = nI (cs t i 6) := ((h.2.2.2.1.2.2.2.2 i hi).2.2.2.1 e).2.2.2
theorem HX.n2 {w : Wd} {a b : Nat} {s t : Nat → Nat} (h : HX w a b s t) {i : Nat} (hi : i < 12) (e : hrg t i = false) : wI w 702 (a + 6 + 2 * i) = -nI 1 := ((h.2.2.2.1.2.2.2.2 i hi).2.2.2.2.1 e).1
theorem HX.n3 {w : Wd} {a b : Nat} {s t : Nat → Nat} (h : HX w a b s t) {i : Nat} (hi : i < 12) (e : hrg t i = false) : wI w 703 (a + 6 + 2 * i) = -nI 1 := ((h.2.2.2.1.2.2.2.2 i hi).2.2.2.2.1 e).2.1
theorem HX.n4 {w : Wd} {a b : Nat} {s t : Nat → Nat} (h : HX w a b s t) {i : Nat} (hi : i < 12) (e : hrg t i = false) : wI w 704 (a + 6 + 2 * i) = -nI 1 := ((h.2.2.2.1.2.2.2.2 i hi).2.2.2.2.1 e).2.2.1
theorem HX.n5 {w : Wd} {a b : Nat} {s t : Nat → Nat} (h : HX w a b s t) {i : Nat} (hi : i < 12) (e : hrg t i = false) : wI w 705 (a + 6 + 2 * i) = -nI 1 := ((h.2.2.2.1.2.2.2.2 i hi).2.2.2.2.1 e).2.2.2
theorem HX.f0 {w : Wd} {a b : Nat} {s t : Nat → Nat} (h : HX w a b s t) {i : Nat} (hi : i < s 3) : wI w 300 (b + 22 + i) = nI (s (88 + i)) := (h.2.2.1.2.2.2.2.2.1 i hi).1
theorem HX.f1 {w : Wd} {a b : Nat} {s t : Nat → Nat} (h : HX w a b s t) {i : Nat} (hi : i < s 3) : wI w 301 (b + 22 + i) = nI (s (100 + i)) := (h.2.2.1.2.2.2.2.2.1 i hi).2.1
theorem HX.f2 {w : Wd} {a b : Nat} {s t : Nat → Nat} (h : HX w a b s t) {i : Nat} (hi : i < s 3) : wI w 302 (b + 22 + i) = nI (s (112 + i)) := (h.2.2.1.2.2.2.2.2.1 i hi).2.2.1
theorem HX.f3 {w : Wd} {a b : Nat} {s t : Nat → Nat} (h : HX w a b s t) {i : Nat} (hi : i < s 3) : wZ w 303 (b + 22 + i) = (s (124 + i) == 1) := (h.2.2.1.2.2.2.2.2.1 i hi).2.2.2.1
theorem HX.f4 {w : Wd} {a b : Nat} {s t : Nat → Nat} (h : HX w a b s t) {i : Nat} (hi : i < s 3) : wI w 304 (b + 22 + i) = nI (s (136 + i)) := (h.2.2.1.2.2.2.2.2.1 i hi).2.2.2.2.1
theorem HX.f5 {w : Wd} {a b : Nat} {s t : Nat → Nat} (h : HX w a b s t) {i : Nat} (hi : i < s 3) : wI w 305 (b + 22 + i) = nI (s (148 + i)) := (h.2.2.1.2.2.2.2.2.1 i hi).2.2.2.2.2
theorem HX.dy {w : Wd} {a b : Nat} {s t : Nat → Nat} (h : HX w a b s t) : wI w 1001 a = nI (t 0) := h.2.2.2.1.1.1
theorem HX.gs {w : Wd} {a b : Nat} {s t : Nat → Nat} (h : HX w a b s t) : GoodS s := h.2.2.2.2.1
theorem HX.gt {w : Wd} {a b : Nat} {s t : Nat → Nat} (h : HX w a b s t) : GoodT s t := h.2.2.2.2.2
theorem GoodT.c3 {s t : Nat → Nat} (h : GoodT s t) {i : Nat} (hi : i < 12) : cs t i 0 ≤ 3 ∧ cs t i 1 ≤ 30 * cs t i 2 ∧ cs t i 2 ≤ 5 := ⟨(h.2.2.2.2.2.2 i hi).1, (h.2.2.2.2.2.2 i hi).2.1, (h.2.2.2.2.2.2 i hi).2.2.1⟩
theorem GoodT.hr {s t : Nat → Nat} (h : GoodT s t) {i : Nat} (hi : i < 12) (e : hrg t i = true) : i < s 3 ∧ cs t i 3 < 600 ∧ cs t i 4 + s (100 + i) ≤ 8 ∧ cs t i 5 < s 0 ∧ cs t i 6 < s 1 := (h.2.2.2.2.2.2 i hi).2.2.2 e
theorem GoodS.ln {s : Nat → Nat} (h : GoodS s) {i : Nat} (hi : i < s 3) : 1 ≤ s (100 + i) ∧ s (100 + i) ≤ 4 := (h.2.2.2.2.1 i hi).2.1
/-- numbers of bits -/
def popN (u : Nat) : Nat := sm (fun k => u / 2 ^ k % 2) 31
theorem popN_le (u : Nat) : popN u ≤ 31 := by
  have := sm_le (g := fun k => u / 2 ^ k % 2) (M := 1) (fun i => by have := Nat.mod_lt (u / 2 ^ i) (show 0 < 2 by omega); omega) 31
  unfold popN
  omega
theorem bitCount_d : ∀ x, x < 64 → ∀ y, y < 64 → (((((((((nI (64 * x + y) - ((ushr (nI (64 * x + y)) 1) &&& 1431655765)) &&& 858993459) + ((ushr (nI (64 * x + y) - ((ushr (nI (64 * x + y)) 1) &&& 1431655765)) 2) &&& 858993459)) + (ushr (((nI (64 * x + y) - ((ushr (nI (64 * x + y)) 1) &&& 1431655765)) &&& 858993459) + ((ushr (nI (64 * x + y) - ((ushr (nI (64 * x + y)) 1) &&& 1431655765)) 2) &&& 858993459)) 4)) &&& 252645135) + (ushr (((((nI (64 * x + y) - ((ushr (nI (64 * x + y)) 1) &&& 1431655765)) &&& 858993459) + ((ushr (nI (64 * x + y) - ((ushr (nI (64 * x + y)) 1) &&& 1431655765)) 2) &&& 858993459)) + (ushr (((nI (64 * x + y) - ((ushr (nI (64 * x + y)) 1) &&& 1431655765)) &&& 858993459) + ((ushr (nI (64 * x + y) - ((ushr (nI (64 * x + y)) 1) &&& 1431655765)) 2) &&& 858993459)) 4)) &&& 252645135) 8)) + (ushr ((((((nI (64 * x + y) - ((ushr (nI (64 * x + y)) 1) &&& 1431655765)) &&& 858993459) + ((ushr (nI (64 * x + y) - ((ushr (nI (64 * x + y)) 1) &&& 1431655765)) 2) &&& 858993459)) + (ushr (((nI (64 * x + y) - ((ushr (nI (64 * x + y)) 1) &&& 1431655765)) &&& 858993459) + ((ushr (nI (64 * x + y) - ((ushr (nI (64 * x + y)) 1) &&& 1431655765)) 2) &&& 858993459)) 4)) &&& 252645135) + (ushr (((((nI (64 * x + y) - ((ushr (nI (64 * x + y)) 1) &&& 1431655765)) &&& 858993459) + ((ushr (nI (64 * x + y) - ((ushr (nI (64 * x + y)) 1) &&& 1431655765)) 2) &&& 858993459)) + (ushr (((nI (64 * x + y) - ((ushr (nI (64 * x + y)) 1) &&& 1431655765)) &&& 858993459) + ((ushr (nI (64 * x + y) - ((ushr (nI (64 * x + y)) 1) &&& 1431655765)) 2) &&& 858993459)) 4)) &&& 252645135) 8)) 16)) &&& 63)) = nI (popN (64 * x + y)) := by decide +kernel
theorem x_bitCount {K : Kd} {w : Wd} {u : Nat} (hu : u < 4096) : f_J6_bitCount_0f7a4 K (nI u) w = some (nI (popN u), w) := by
  unfold f_J6_bitCount_0f7a4
  have e : u = 64 * (u / 64) + u % 64 := by omega
  rw [e, bitCount_d (u / 64) (by omega) (u % 64) (by omega)]

