/-! Memory as functions of field and address; a field's number is 100 times its class's number and its slot. -/
def up2 {α : Type} (f : Nat → Nat → α) (a b : Nat) (v : α) : Nat → Nat → α := fun x y => if x = a ∧ y = b then v else f x y
theorem up2_ne {α : Type} {f : Nat → Nat → α} {a b x : Nat} {v : α} (h : x ≠ a) : up2 f a b v x = f x := funext fun y => if_neg (fun q => h q.1)
abbrev Wd : Type := (Nat → Nat → Int32) × (Nat → Nat → Option Nat) × (Nat → Nat → Int64) × (Nat → Nat → Bool) × (Nat → Nat → Int32) × (Nat → Nat → Int64) × (Nat → Nat → Option Nat) × (Nat → Nat → UInt64)
abbrev wI (w : Wd) : Nat → Nat → Int32 := w.1
abbrev wR (w : Wd) : Nat → Nat → Option Nat := w.2.1
abbrev wJ (w : Wd) : Nat → Nat → Int64 := w.2.2.1
abbrev wZ (w : Wd) : Nat → Nat → Bool := w.2.2.2.1
abbrev aI (w : Wd) : Nat → Nat → Int32 := w.2.2.2.2.1
abbrev aJ (w : Wd) : Nat → Nat → Int64 := w.2.2.2.2.2.1
abbrev aR (w : Wd) : Nat → Nat → Option Nat := w.2.2.2.2.2.2.1
abbrev aD (w : Wd) : Nat → Nat → UInt64 := w.2.2.2.2.2.2.2
def sI (w : Wd) (f a : Nat) (v : Int32) : Wd := (up2 w.1 f a v, w.2)
def sR (w : Wd) (f a : Nat) (v : Option Nat) : Wd := (w.1, up2 w.2.1 f a v, w.2.2)
def sJ (w : Wd) (f a : Nat) (v : Int64) : Wd := (w.1, w.2.1, up2 w.2.2.1 f a v, w.2.2.2)
def sZ (w : Wd) (f a : Nat) (v : Bool) : Wd := (w.1, w.2.1, w.2.2.1, up2 w.2.2.2.1 f a v, w.2.2.2.2)
def tI (w : Wd) (a i : Nat) (v : Int32) : Wd := (w.1, w.2.1, w.2.2.1, w.2.2.2.1, up2 w.2.2.2.2.1 a i v, w.2.2.2.2.2)
def tJ (w : Wd) (a i : Nat) (v : Int64) : Wd := (w.1, w.2.1, w.2.2.1, w.2.2.2.1, w.2.2.2.2.1, up2 w.2.2.2.2.2.1 a i v, w.2.2.2.2.2.2)
def tR (w : Wd) (a i : Nat) (v : Option Nat) : Wd := (w.1, w.2.1, w.2.2.1, w.2.2.2.1, w.2.2.2.2.1, w.2.2.2.2.2.1, up2 w.2.2.2.2.2.2.1 a i v, w.2.2.2.2.2.2.2)
def tD (w : Wd) (a i : Nat) (v : UInt64) : Wd := (w.1, w.2.1, w.2.2.1, w.2.2.2.1, w.2.2.2.2.1, w.2.2.2.2.2.1, w.2.2.2.2.2.2.1, up2 w.2.2.2.2.2.2.2 a i v)
def b2i (b : Bool) : Int32 := if b then 1 else 0
/-- the kind and the length of what stands at an address -/
abbrev Kd : Type := Nat → Option (Nat × Nat)
def chk (K : Kd) (c : Nat) (r : Option Nat) : Option Nat := r.bind fun a => if K a = some (c, 0) then some a else none
def cha (K : Kd) (c : Nat) (r : Option Nat) : Option (Nat × Nat) := r.bind fun a => (K a).bind fun q => if q.1 = c then some (a, q.2) else none
def ixa (i : Int32) (n : Nat) : Option Nat := if i < 0 ∨ n ≤ i.toNatClampNeg then none else some i.toNatClampNeg
def grd (p : Prop) [Decidable p] : Option Unit := if p then some () else none
theorem bnd {α β : Type} {x : Option α} {f : α → Option β} {b : β} (h : x.bind f = some b) : ∃ a, x = some a ∧ f a = some b := Option.bind_eq_some_iff.mp h
theorem chk_some {K : Kd} {c : Nat} {r : Option Nat} {a : Nat} (h : chk K c r = some a) : r = some a ∧ K a = some (c, 0) := by
  obtain ⟨b, h1, h2⟩ := bnd h
  split at h2
  · rename_i h3; cases h2; exact ⟨h1, h3⟩
  · cases h2
theorem cha_some {K : Kd} {c : Nat} {r : Option Nat} {q : Nat × Nat} (h : cha K c r = some q) : r = some q.1 ∧ K q.1 = some (c, q.2) := by
  obtain ⟨b, h1, h2⟩ := bnd h
  obtain ⟨k, h3, h4⟩ := bnd h2
  split at h4
  · rename_i h5; cases h4; subst h5; exact ⟨h1, h3⟩
  · cases h4
theorem ixa_some {i : Int32} {n j : Nat} (h : ixa i n = some j) : vp_in i n ∧ j = i.toNatClampNeg := by
  unfold ixa at h
  split at h
  · cases h
  · rename_i h1; cases h; exact ⟨h1, rfl⟩
theorem grd_some {p : Prop} [Decidable p] (h : grd p = some ()) : p := by
  unfold grd at h
  split at h
  · assumption
  · cases h
/-- what the world stands on: the classes, the first address, the arrays' classes, the addresses of what is constant -/
abbrev Ev : Type := va_G × Nat × (Nat → ClassId) × (Nat → Nat) × Nat × (Nat → Int32)
abbrev rv (E : Ev) (r : Option Nat) : Value := va_rf (r.map (fun a => E.2.1 + a))
abbrev re (E : Ev) (r : Option Nat) : Value := va_rf (r.map E.2.2.2.1)
/-- CourtCalendar$Bench -/
def fsX1 (E : Ev) (w : Wd) (a : Nat) : List Value := [rv E (wR w 100 a), rv E (wR w 101 a), rv E (wR w 102 a), .int (wI w 103 a), .int (wI w 104 a)]
/-- CourtCalendar$Days -/
def fsX2 (E : Ev) (w : Wd) (a : Nat) : List Value := [rv E (wR w 200 a), .int (wI w 201 a)]
/-- CourtCalendar$Matter -/
def fsX3 (E : Ev) (w : Wd) (a : Nat) : List Value := [.int (wI w 300 a), .int (wI w 301 a), .int (wI w 302 a), .int (b2i (wZ w 303 a)), .int (wI w 304 a), .int (wI w 305 a), .int (wI w 306 a)]
/-- CourtCalendar$Names -/
def fsX4 (E : Ev) (w : Wd) (a : Nat) : List Value := [rv E (wR w 400 a), .int (wI w 401 a)]
/-- CourtCalendar$Parser -/
def fsX5 (E : Ev) (w : Wd) (a : Nat) : List Value := [rv E (wR w 500 a), rv E (wR w 501 a), .int (wI w 502 a), .int (wI w 503 a), .int (wI w 504 a), .int (wI w 505 a), .int (wI w 506 a)]
/-- CourtCalendar$Planner -/
def fsX6 (E : Ev) (w : Wd) (a : Nat) : List Value := [rv E (wR w 600 a), rv E (wR w 601 a), rv E (wR w 602 a), rv E (wR w 603 a), .int (wI w 604 a), .int (wI w 605 a), .int (wI w 606 a), .int (wI w 607 a), .int (wI w 608 a), .int (wI w 609 a), .int (wI w 610 a), .int (wI w 611 a)]
/-- CourtCalendar$Progress -/
def fsX7 (E : Ev) (w : Wd) (a : Nat) : List Value := [.int (wI w 700 a), .int (wI w 701 a), .int (wI w 702 a), .int (wI w 703 a), .int (wI w 704 a), .int (wI w 705 a), .int (wI w 706 a), rv E (wR w 707 a)]
/-- CourtCalendar$Scanner -/
def fsX8 (E : Ev) (w : Wd) (a : Nat) : List Value := [rv E (wR w 800 a), .int (wI w 801 a), .int (wI w 802 a), .int (wI w 803 a), re E (wR w 804 a), .long (wJ w 805 a), .int (wI w 806 a)]
/-- CourtCalendar$Setup -/
def fsX9 (E : Ev) (w : Wd) (a : Nat) : List Value := [rv E (wR w 900 a), rv E (wR w 901 a), rv E (wR w 902 a), rv E (wR w 903 a), rv E (wR w 904 a), rv E (wR w 905 a), rv E (wR w 906 a), rv E (wR w 907 a), rv E (wR w 908 a), rv E (wR w 909 a), rv E (wR w 910 a), rv E (wR w 911 a), .int (wI w 912 a), .int (wI w 913 a), .int (b2i (wZ w 914 a))]
/-- CourtCalendar$State -/
def fsX10 (E : Ev) (w : Wd) (a : Nat) : List Value := [rv E (wR w 1000 a), .int (wI w 1001 a), rv E (wR w 1002 a), rv E (wR w 1003 a), rv E (wR w 1004 a), rv E (wR w 1005 a)]
/-- CourtCalendar -/
def fsX12 (E : Ev) (w : Wd) (a : Nat) : List Value := [rv E (wR w 1200 a), .int (wI w 1201 a), rv E (wR w 1202 a), .int (wI w 1203 a), .int (wI w 1204 a), rv E (wR w 1205 a), rv E (wR w 1206 a), .int (b2i (wZ w 1207 a)), rv E (wR w 1208 a), rv E (wR w 1209 a), .int (wI w 1210 a), rv E (wR w 1211 a), rv E (wR w 1212 a), rv E (wR w 1213 a), rv E (wR w 1214 a), .int (wI w 1215 a)]
/-- java/lang/String -/
def fsX20 (E : Ev) (w : Wd) (a : Nat) : List Value := [rv E (wR w 2000 a), .int (wI w 2001 a), .int (wI w 2002 a), .int (b2i (wZ w 2003 a))]
/-- java/lang/StringBuilder -/
def fsX21 (E : Ev) (w : Wd) (a : Nat) : List Value := [rv E (wR w 2100 a), .int (wI w 2101 a), .int (b2i (wZ w 2102 a)), .int (wI w 2103 a)]
def rend (E : Ev) (w : Wd) (q : Nat × Nat) (a : Nat) : va_E := match q.1 with
  | 0 => .inr (0, fsX1 E w a)
  | 1 => .inr (1, fsX2 E w a)
  | 2 => .inr (2, fsX3 E w a)
  | 3 => .inr (3, fsX4 E w a)
  | 4 => .inr (4, fsX5 E w a)
  | 5 => .inr (5, fsX6 E w a)
  | 6 => .inr (6, fsX7 E w a)
  | 7 => .inr (7, fsX8 E w a)
  | 8 => .inr (8, fsX9 E w a)
  | 9 => .inr (9, fsX10 E w a)
  | 10 => .inr (10, fsX12 E w a)
  | 11 => .inr (11, fsX20 E w a)
  | 12 => .inr (12, fsX21 E w a)
  | 20 => .inl (E.2.2.1 20, q.2, .inl (aI w a))
  | 21 => .inl (E.2.2.1 21, q.2, .inl (aI w a))
  | 22 => .inl (E.2.2.1 22, q.2, .inl (aI w a))
  | 23 => .inl (E.2.2.1 23, q.2, .inr (.inl (aJ w a)))
  | 24 => .inl (E.2.2.1 24, q.2, .inr (.inr (.inr (.inl (aD w a)))))
  | 25 => .inl (E.2.2.1 25, q.2, .inr (.inr (.inr (.inr (fun j => (aR w a j).map (fun b => E.2.1 + b))))))
  | 26 => .inl (E.2.2.1 26, q.2, .inr (.inr (.inr (.inr (fun j => (aR w a j).map (fun b => E.2.1 + b))))))
  | 27 => .inl (E.2.2.1 27, q.2, .inr (.inr (.inr (.inr (fun j => (aR w a j).map (fun b => E.2.1 + b))))))
  | 28 => .inl (E.2.2.1 28, q.2, .inr (.inr (.inr (.inr (fun j => (aR w a j).map (fun b => E.2.1 + b))))))
  | _ => .inr (1000, [])
abbrev tyl (E : Ev) : List (ClassId × FieldType) := [(E.2.2.1 20, .int), (E.2.2.1 21, .byte), (E.2.2.1 22, .byte), (E.2.2.1 23, .long), (E.2.2.1 24, .long), (E.2.2.1 25, .object "CourtCalendar$Matter"), (E.2.2.1 26, .object "CourtCalendar$Names"), (E.2.2.1 27, .object "CourtCalendar$Progress"), (E.2.2.1 28, .object "CourtCalendar$State")]
theorem rend_congr {E : Ev} {w w' : Wd} {q : Nat × Nat} {b : Nat} (h1 : ∀ f, wI w' f b = wI w f b) (h2 : ∀ f, wR w' f b = wR w f b) (h3 : ∀ f, wJ w' f b = wJ w f b) (h4 : ∀ f, wZ w' f b = wZ w f b) (h5 : aI w' b = aI w b) (h6 : aJ w' b = aJ w b) (h7 : aR w' b = aR w b) (h8 : aD w' b = aD w b) : rend E w' q b = rend E w q b := by
  unfold rend
  split <;> simp only [fsX1, fsX2, fsX3, fsX4, fsX5, fsX6, fsX7, fsX8, fsX9, fsX10, fsX12, fsX20, fsX21, h1, h2, h3, h4, h5, h6, h7, h8]
theorem rend_sI {E : Ev} {w : Wd} {q : Nat × Nat} {f a b : Nat} {v : Int32} (h : b ≠ a) : rend E (sI w f a v) q b = rend E w q b := by
  apply rend_congr <;> intros <;> simp [wI, wR, wJ, wZ, aI, aJ, aR, aD, sI, up2, h]
theorem rend_sR {E : Ev} {w : Wd} {q : Nat × Nat} {f a b : Nat} {v : Option Nat} (h : b ≠ a) : rend E (sR w f a v) q b = rend E w q b := by
  apply rend_congr <;> intros <;> simp [wI, wR, wJ, wZ, aI, aJ, aR, aD, sR, up2, h]
theorem rend_sJ {E : Ev} {w : Wd} {q : Nat × Nat} {f a b : Nat} {v : Int64} (h : b ≠ a) : rend E (sJ w f a v) q b = rend E w q b := by
  apply rend_congr <;> intros <;> simp [wI, wR, wJ, wZ, aI, aJ, aR, aD, sJ, up2, h]
theorem rend_sZ {E : Ev} {w : Wd} {q : Nat × Nat} {f a b : Nat} {v : Bool} (h : b ≠ a) : rend E (sZ w f a v) q b = rend E w q b := by
  apply rend_congr <;> intros <;> simp [wI, wR, wJ, wZ, aI, aJ, aR, aD, sZ, up2, h]
theorem rend_tI {E : Ev} {w : Wd} {q : Nat × Nat} {i a b : Nat} {v : Int32} (h : b ≠ a) : rend E (tI w a i v) q b = rend E w q b := by
  apply rend_congr <;> intros <;> simp [wI, wR, wJ, wZ, aI, aJ, aR, aD, tI, up2_ne h]
theorem rend_tR {E : Ev} {w : Wd} {q : Nat × Nat} {i a b : Nat} {v : Option Nat} (h : b ≠ a) : rend E (tR w a i v) q b = rend E w q b := by
  apply rend_congr <;> intros <;> simp [wI, wR, wJ, wZ, aI, aJ, aR, aD, tR, up2_ne h]
theorem rend_tJ {E : Ev} {w : Wd} {q : Nat × Nat} {i a b : Nat} {v : Int64} (h : b ≠ a) : rend E (tJ w a i v) q b = rend E w q b := by
  apply rend_congr <;> intros <;> simp [wI, wR, wJ, wZ, aI, aJ, aR, aD, tJ, up2_ne h]
theorem rend_tD {E : Ev} {w : Wd} {q : Nat × Nat} {i a b : Nat} {v : UInt64} (h : b ≠ a) : rend E (tD w a i v) q b = rend E w q b := by
  apply rend_congr <;> intros <;> simp [wI, wR, wJ, wZ, aI, aJ, aR, aD, tD, up2_ne h]
theorem pX1_0 {E : Ev} {w : Wd} {a : Nat} {v : Option Nat} : fsX1 E (sR w 100 a v) a = (fsX1 E w a).set 0 (rv E (v)) := by simp [fsX1, sR, wI, wR, wJ, wZ, up2]
theorem pX1_1 {E : Ev} {w : Wd} {a : Nat} {v : Option Nat} : fsX1 E (sR w 101 a v) a = (fsX1 E w a).set 1 (rv E (v)) := by simp [fsX1, sR, wI, wR, wJ, wZ, up2]
theorem pX1_2 {E : Ev} {w : Wd} {a : Nat} {v : Option Nat} : fsX1 E (sR w 102 a v) a = (fsX1 E w a).set 2 (rv E (v)) := by simp [fsX1, sR, wI, wR, wJ, wZ, up2]
theorem pX1_3 {E : Ev} {w : Wd} {a : Nat} {v : Int32} : fsX1 E (sI w 103 a v) a = (fsX1 E w a).set 3 (.int (v)) := by simp [fsX1, sI, wI, wR, wJ, wZ, up2]
theorem pX1_4 {E : Ev} {w : Wd} {a : Nat} {v : Int32} : fsX1 E (sI w 104 a v) a = (fsX1 E w a).set 4 (.int (v)) := by simp [fsX1, sI, wI, wR, wJ, wZ, up2]
theorem pX2_0 {E : Ev} {w : Wd} {a : Nat} {v : Option Nat} : fsX2 E (sR w 200 a v) a = (fsX2 E w a).set 0 (rv E (v)) := by simp [fsX2, sR, wI, wR, wJ, wZ, up2]
theorem pX2_1 {E : Ev} {w : Wd} {a : Nat} {v : Int32} : fsX2 E (sI w 201 a v) a = (fsX2 E w a).set 1 (.int (v)) := by simp [fsX2, sI, wI, wR, wJ, wZ, up2]
theorem pX3_0 {E : Ev} {w : Wd} {a : Nat} {v : Int32} : fsX3 E (sI w 300 a v) a = (fsX3 E w a).set 0 (.int (v)) := by simp [fsX3, sI, wI, wR, wJ, wZ, up2]
theorem pX3_1 {E : Ev} {w : Wd} {a : Nat} {v : Int32} : fsX3 E (sI w 301 a v) a = (fsX3 E w a).set 1 (.int (v)) := by simp [fsX3, sI, wI, wR, wJ, wZ, up2]
theorem pX3_2 {E : Ev} {w : Wd} {a : Nat} {v : Int32} : fsX3 E (sI w 302 a v) a = (fsX3 E w a).set 2 (.int (v)) := by simp [fsX3, sI, wI, wR, wJ, wZ, up2]
theorem pX3_3 {E : Ev} {w : Wd} {a : Nat} {v : Bool} : fsX3 E (sZ w 303 a v) a = (fsX3 E w a).set 3 (.int (b2i (v))) := by simp [fsX3, sZ, wI, wR, wJ, wZ, up2]
theorem pX3_4 {E : Ev} {w : Wd} {a : Nat} {v : Int32} : fsX3 E (sI w 304 a v) a = (fsX3 E w a).set 4 (.int (v)) := by simp [fsX3, sI, wI, wR, wJ, wZ, up2]
theorem pX3_5 {E : Ev} {w : Wd} {a : Nat} {v : Int32} : fsX3 E (sI w 305 a v) a = (fsX3 E w a).set 5 (.int (v)) := by simp [fsX3, sI, wI, wR, wJ, wZ, up2]
theorem pX3_6 {E : Ev} {w : Wd} {a : Nat} {v : Int32} : fsX3 E (sI w 306 a v) a = (fsX3 E w a).set 6 (.int (v)) := by simp [fsX3, sI, wI, wR, wJ, wZ, up2]
theorem pX4_0 {E : Ev} {w : Wd} {a : Nat} {v : Option Nat} : fsX4 E (sR w 400 a v) a = (fsX4 E w a).set 0 (rv E (v)) := by simp [fsX4, sR, wI, wR, wJ, wZ, up2]
theorem pX4_1 {E : Ev} {w : Wd} {a : Nat} {v : Int32} : fsX4 E (sI w 401 a v) a = (fsX4 E w a).set 1 (.int (v)) := by simp [fsX4, sI, wI, wR, wJ, wZ, up2]
theorem pX5_0 {E : Ev} {w : Wd} {a : Nat} {v : Option Nat} : fsX5 E (sR w 500 a v) a = (fsX5 E w a).set 0 (rv E (v)) := by simp [fsX5, sR, wI, wR, wJ, wZ, up2]
theorem pX5_1 {E : Ev} {w : Wd} {a : Nat} {v : Option Nat} : fsX5 E (sR w 501 a v) a = (fsX5 E w a).set 1 (rv E (v)) := by simp [fsX5, sR, wI, wR, wJ, wZ, up2]
theorem pX5_2 {E : Ev} {w : Wd} {a : Nat} {v : Int32} : fsX5 E (sI w 502 a v) a = (fsX5 E w a).set 2 (.int (v)) := by simp [fsX5, sI, wI, wR, wJ, wZ, up2]
theorem pX5_3 {E : Ev} {w : Wd} {a : Nat} {v : Int32} : fsX5 E (sI w 503 a v) a = (fsX5 E w a).set 3 (.int (v)) := by simp [fsX5, sI, wI, wR, wJ, wZ, up2]
theorem pX5_4 {E : Ev} {w : Wd} {a : Nat} {v : Int32} : fsX5 E (sI w 504 a v) a = (fsX5 E w a).set 4 (.int (v)) := by simp [fsX5, sI, wI, wR, wJ, wZ, up2]
theorem pX5_5 {E : Ev} {w : Wd} {a : Nat} {v : Int32} : fsX5 E (sI w 505 a v) a = (fsX5 E w a).set 5 (.int (v)) := by simp [fsX5, sI, wI, wR, wJ, wZ, up2]
theorem pX5_6 {E : Ev} {w : Wd} {a : Nat} {v : Int32} : fsX5 E (sI w 506 a v) a = (fsX5 E w a).set 6 (.int (v)) := by simp [fsX5, sI, wI, wR, wJ, wZ, up2]
theorem pX6_0 {E : Ev} {w : Wd} {a : Nat} {v : Option Nat} : fsX6 E (sR w 600 a v) a = (fsX6 E w a).set 0 (rv E (v)) := by simp [fsX6, sR, wI, wR, wJ, wZ, up2]
theorem pX6_1 {E : Ev} {w : Wd} {a : Nat} {v : Option Nat} : fsX6 E (sR w 601 a v) a = (fsX6 E w a).set 1 (rv E (v)) := by simp [fsX6, sR, wI, wR, wJ, wZ, up2]
theorem pX6_2 {E : Ev} {w : Wd} {a : Nat} {v : Option Nat} : fsX6 E (sR w 602 a v) a = (fsX6 E w a).set 2 (rv E (v)) := by simp [fsX6, sR, wI, wR, wJ, wZ, up2]
theorem pX6_3 {E : Ev} {w : Wd} {a : Nat} {v : Option Nat} : fsX6 E (sR w 603 a v) a = (fsX6 E w a).set 3 (rv E (v)) := by simp [fsX6, sR, wI, wR, wJ, wZ, up2]
theorem pX6_4 {E : Ev} {w : Wd} {a : Nat} {v : Int32} : fsX6 E (sI w 604 a v) a = (fsX6 E w a).set 4 (.int (v)) := by simp [fsX6, sI, wI, wR, wJ, wZ, up2]
theorem pX6_5 {E : Ev} {w : Wd} {a : Nat} {v : Int32} : fsX6 E (sI w 605 a v) a = (fsX6 E w a).set 5 (.int (v)) := by simp [fsX6, sI, wI, wR, wJ, wZ, up2]
theorem pX6_6 {E : Ev} {w : Wd} {a : Nat} {v : Int32} : fsX6 E (sI w 606 a v) a = (fsX6 E w a).set 6 (.int (v)) := by simp [fsX6, sI, wI, wR, wJ, wZ, up2]
theorem pX6_7 {E : Ev} {w : Wd} {a : Nat} {v : Int32} : fsX6 E (sI w 607 a v) a = (fsX6 E w a).set 7 (.int (v)) := by simp [fsX6, sI, wI, wR, wJ, wZ, up2]
theorem pX6_8 {E : Ev} {w : Wd} {a : Nat} {v : Int32} : fsX6 E (sI w 608 a v) a = (fsX6 E w a).set 8 (.int (v)) := by simp [fsX6, sI, wI, wR, wJ, wZ, up2]
theorem pX6_9 {E : Ev} {w : Wd} {a : Nat} {v : Int32} : fsX6 E (sI w 609 a v) a = (fsX6 E w a).set 9 (.int (v)) := by simp [fsX6, sI, wI, wR, wJ, wZ, up2]
theorem pX6_10 {E : Ev} {w : Wd} {a : Nat} {v : Int32} : fsX6 E (sI w 610 a v) a = (fsX6 E w a).set 10 (.int (v)) := by simp [fsX6, sI, wI, wR, wJ, wZ, up2]
theorem pX6_11 {E : Ev} {w : Wd} {a : Nat} {v : Int32} : fsX6 E (sI w 611 a v) a = (fsX6 E w a).set 11 (.int (v)) := by simp [fsX6, sI, wI, wR, wJ, wZ, up2]
theorem pX7_0 {E : Ev} {w : Wd} {a : Nat} {v : Int32} : fsX7 E (sI w 700 a v) a = (fsX7 E w a).set 0 (.int (v)) := by simp [fsX7, sI, wI, wR, wJ, wZ, up2]
theorem pX7_1 {E : Ev} {w : Wd} {a : Nat} {v : Int32} : fsX7 E (sI w 701 a v) a = (fsX7 E w a).set 1 (.int (v)) := by simp [fsX7, sI, wI, wR, wJ, wZ, up2]
theorem pX7_2 {E : Ev} {w : Wd} {a : Nat} {v : Int32} : fsX7 E (sI w 702 a v) a = (fsX7 E w a).set 2 (.int (v)) := by simp [fsX7, sI, wI, wR, wJ, wZ, up2]
theorem pX7_3 {E : Ev} {w : Wd} {a : Nat} {v : Int32} : fsX7 E (sI w 703 a v) a = (fsX7 E w a).set 3 (.int (v)) := by simp [fsX7, sI, wI, wR, wJ, wZ, up2]
theorem pX7_4 {E : Ev} {w : Wd} {a : Nat} {v : Int32} : fsX7 E (sI w 704 a v) a = (fsX7 E w a).set 4 (.int (v)) := by simp [fsX7, sI, wI, wR, wJ, wZ, up2]
theorem pX7_5 {E : Ev} {w : Wd} {a : Nat} {v : Int32} : fsX7 E (sI w 705 a v) a = (fsX7 E w a).set 5 (.int (v)) := by simp [fsX7, sI, wI, wR, wJ, wZ, up2]
theorem pX7_6 {E : Ev} {w : Wd} {a : Nat} {v : Int32} : fsX7 E (sI w 706 a v) a = (fsX7 E w a).set 6 (.int (v)) := by simp [fsX7, sI, wI, wR, wJ, wZ, up2]
theorem pX7_7 {E : Ev} {w : Wd} {a : Nat} {v : Option Nat} : fsX7 E (sR w 707 a v) a = (fsX7 E w a).set 7 (rv E (v)) := by simp [fsX7, sR, wI, wR, wJ, wZ, up2]
theorem pX8_0 {E : Ev} {w : Wd} {a : Nat} {v : Option Nat} : fsX8 E (sR w 800 a v) a = (fsX8 E w a).set 0 (rv E (v)) := by simp [fsX8, sR, wI, wR, wJ, wZ, up2]
theorem pX8_1 {E : Ev} {w : Wd} {a : Nat} {v : Int32} : fsX8 E (sI w 801 a v) a = (fsX8 E w a).set 1 (.int (v)) := by simp [fsX8, sI, wI, wR, wJ, wZ, up2]
theorem pX8_2 {E : Ev} {w : Wd} {a : Nat} {v : Int32} : fsX8 E (sI w 802 a v) a = (fsX8 E w a).set 2 (.int (v)) := by simp [fsX8, sI, wI, wR, wJ, wZ, up2]
theorem pX8_3 {E : Ev} {w : Wd} {a : Nat} {v : Int32} : fsX8 E (sI w 803 a v) a = (fsX8 E w a).set 3 (.int (v)) := by simp [fsX8, sI, wI, wR, wJ, wZ, up2]
theorem pX8_4 {E : Ev} {w : Wd} {a : Nat} {v : Option Nat} : fsX8 E (sR w 804 a v) a = (fsX8 E w a).set 4 (re E (v)) := by simp [fsX8, sR, wI, wR, wJ, wZ, up2]
theorem pX8_5 {E : Ev} {w : Wd} {a : Nat} {v : Int64} : fsX8 E (sJ w 805 a v) a = (fsX8 E w a).set 5 (.long (v)) := by simp [fsX8, sJ, wI, wR, wJ, wZ, up2]
theorem pX8_6 {E : Ev} {w : Wd} {a : Nat} {v : Int32} : fsX8 E (sI w 806 a v) a = (fsX8 E w a).set 6 (.int (v)) := by simp [fsX8, sI, wI, wR, wJ, wZ, up2]
theorem pX9_0 {E : Ev} {w : Wd} {a : Nat} {v : Option Nat} : fsX9 E (sR w 900 a v) a = (fsX9 E w a).set 0 (rv E (v)) := by simp [fsX9, sR, wI, wR, wJ, wZ, up2]
theorem pX9_1 {E : Ev} {w : Wd} {a : Nat} {v : Option Nat} : fsX9 E (sR w 901 a v) a = (fsX9 E w a).set 1 (rv E (v)) := by simp [fsX9, sR, wI, wR, wJ, wZ, up2]
theorem pX9_2 {E : Ev} {w : Wd} {a : Nat} {v : Option Nat} : fsX9 E (sR w 902 a v) a = (fsX9 E w a).set 2 (rv E (v)) := by simp [fsX9, sR, wI, wR, wJ, wZ, up2]
theorem pX9_3 {E : Ev} {w : Wd} {a : Nat} {v : Option Nat} : fsX9 E (sR w 903 a v) a = (fsX9 E w a).set 3 (rv E (v)) := by simp [fsX9, sR, wI, wR, wJ, wZ, up2]
theorem pX9_4 {E : Ev} {w : Wd} {a : Nat} {v : Option Nat} : fsX9 E (sR w 904 a v) a = (fsX9 E w a).set 4 (rv E (v)) := by simp [fsX9, sR, wI, wR, wJ, wZ, up2]
theorem pX9_5 {E : Ev} {w : Wd} {a : Nat} {v : Option Nat} : fsX9 E (sR w 905 a v) a = (fsX9 E w a).set 5 (rv E (v)) := by simp [fsX9, sR, wI, wR, wJ, wZ, up2]
theorem pX9_6 {E : Ev} {w : Wd} {a : Nat} {v : Option Nat} : fsX9 E (sR w 906 a v) a = (fsX9 E w a).set 6 (rv E (v)) := by simp [fsX9, sR, wI, wR, wJ, wZ, up2]
theorem pX9_7 {E : Ev} {w : Wd} {a : Nat} {v : Option Nat} : fsX9 E (sR w 907 a v) a = (fsX9 E w a).set 7 (rv E (v)) := by simp [fsX9, sR, wI, wR, wJ, wZ, up2]
theorem pX9_8 {E : Ev} {w : Wd} {a : Nat} {v : Option Nat} : fsX9 E (sR w 908 a v) a = (fsX9 E w a).set 8 (rv E (v)) := by simp [fsX9, sR, wI, wR, wJ, wZ, up2]
theorem pX9_9 {E : Ev} {w : Wd} {a : Nat} {v : Option Nat} : fsX9 E (sR w 909 a v) a = (fsX9 E w a).set 9 (rv E (v)) := by simp [fsX9, sR, wI, wR, wJ, wZ, up2]
theorem pX9_10 {E : Ev} {w : Wd} {a : Nat} {v : Option Nat} : fsX9 E (sR w 910 a v) a = (fsX9 E w a).set 10 (rv E (v)) := by simp [fsX9, sR, wI, wR, wJ, wZ, up2]
theorem pX9_11 {E : Ev} {w : Wd} {a : Nat} {v : Option Nat} : fsX9 E (sR w 911 a v) a = (fsX9 E w a).set 11 (rv E (v)) := by simp [fsX9, sR, wI, wR, wJ, wZ, up2]
theorem pX9_12 {E : Ev} {w : Wd} {a : Nat} {v : Int32} : fsX9 E (sI w 912 a v) a = (fsX9 E w a).set 12 (.int (v)) := by simp [fsX9, sI, wI, wR, wJ, wZ, up2]
theorem pX9_13 {E : Ev} {w : Wd} {a : Nat} {v : Int32} : fsX9 E (sI w 913 a v) a = (fsX9 E w a).set 13 (.int (v)) := by simp [fsX9, sI, wI, wR, wJ, wZ, up2]
theorem pX9_14 {E : Ev} {w : Wd} {a : Nat} {v : Bool} : fsX9 E (sZ w 914 a v) a = (fsX9 E w a).set 14 (.int (b2i (v))) := by simp [fsX9, sZ, wI, wR, wJ, wZ, up2]
theorem pX10_0 {E : Ev} {w : Wd} {a : Nat} {v : Option Nat} : fsX10 E (sR w 1000 a v) a = (fsX10 E w a).set 0 (rv E (v)) := by simp [fsX10, sR, wI, wR, wJ, wZ, up2]
theorem pX10_1 {E : Ev} {w : Wd} {a : Nat} {v : Int32} : fsX10 E (sI w 1001 a v) a = (fsX10 E w a).set 1 (.int (v)) := by simp [fsX10, sI, wI, wR, wJ, wZ, up2]
theorem pX10_2 {E : Ev} {w : Wd} {a : Nat} {v : Option Nat} : fsX10 E (sR w 1002 a v) a = (fsX10 E w a).set 2 (rv E (v)) := by simp [fsX10, sR, wI, wR, wJ, wZ, up2]
theorem pX10_3 {E : Ev} {w : Wd} {a : Nat} {v : Option Nat} : fsX10 E (sR w 1003 a v) a = (fsX10 E w a).set 3 (rv E (v)) := by simp [fsX10, sR, wI, wR, wJ, wZ, up2]
theorem pX10_4 {E : Ev} {w : Wd} {a : Nat} {v : Option Nat} : fsX10 E (sR w 1004 a v) a = (fsX10 E w a).set 4 (rv E (v)) := by simp [fsX10, sR, wI, wR, wJ, wZ, up2]
theorem pX10_5 {E : Ev} {w : Wd} {a : Nat} {v : Option Nat} : fsX10 E (sR w 1005 a v) a = (fsX10 E w a).set 5 (rv E (v)) := by simp [fsX10, sR, wI, wR, wJ, wZ, up2]
theorem pX12_0 {E : Ev} {w : Wd} {a : Nat} {v : Option Nat} : fsX12 E (sR w 1200 a v) a = (fsX12 E w a).set 0 (rv E (v)) := by simp [fsX12, sR, wI, wR, wJ, wZ, up2]
theorem pX12_1 {E : Ev} {w : Wd} {a : Nat} {v : Int32} : fsX12 E (sI w 1201 a v) a = (fsX12 E w a).set 1 (.int (v)) := by simp [fsX12, sI, wI, wR, wJ, wZ, up2]
theorem pX12_2 {E : Ev} {w : Wd} {a : Nat} {v : Option Nat} : fsX12 E (sR w 1202 a v) a = (fsX12 E w a).set 2 (rv E (v)) := by simp [fsX12, sR, wI, wR, wJ, wZ, up2]
theorem pX12_3 {E : Ev} {w : Wd} {a : Nat} {v : Int32} : fsX12 E (sI w 1203 a v) a = (fsX12 E w a).set 3 (.int (v)) := by simp [fsX12, sI, wI, wR, wJ, wZ, up2]
theorem pX12_4 {E : Ev} {w : Wd} {a : Nat} {v : Int32} : fsX12 E (sI w 1204 a v) a = (fsX12 E w a).set 4 (.int (v)) := by simp [fsX12, sI, wI, wR, wJ, wZ, up2]
theorem pX12_5 {E : Ev} {w : Wd} {a : Nat} {v : Option Nat} : fsX12 E (sR w 1205 a v) a = (fsX12 E w a).set 5 (rv E (v)) := by simp [fsX12, sR, wI, wR, wJ, wZ, up2]
theorem pX12_6 {E : Ev} {w : Wd} {a : Nat} {v : Option Nat} : fsX12 E (sR w 1206 a v) a = (fsX12 E w a).set 6 (rv E (v)) := by simp [fsX12, sR, wI, wR, wJ, wZ, up2]
theorem pX12_7 {E : Ev} {w : Wd} {a : Nat} {v : Bool} : fsX12 E (sZ w 1207 a v) a = (fsX12 E w a).set 7 (.int (b2i (v))) := by simp [fsX12, sZ, wI, wR, wJ, wZ, up2]
theorem pX12_8 {E : Ev} {w : Wd} {a : Nat} {v : Option Nat} : fsX12 E (sR w 1208 a v) a = (fsX12 E w a).set 8 (rv E (v)) := by simp [fsX12, sR, wI, wR, wJ, wZ, up2]
theorem pX12_9 {E : Ev} {w : Wd} {a : Nat} {v : Option Nat} : fsX12 E (sR w 1209 a v) a = (fsX12 E w a).set 9 (rv E (v)) := by simp [fsX12, sR, wI, wR, wJ, wZ, up2]
theorem pX12_10 {E : Ev} {w : Wd} {a : Nat} {v : Int32} : fsX12 E (sI w 1210 a v) a = (fsX12 E w a).set 10 (.int (v)) := by simp [fsX12, sI, wI, wR, wJ, wZ, up2]
theorem pX12_11 {E : Ev} {w : Wd} {a : Nat} {v : Option Nat} : fsX12 E (sR w 1211 a v) a = (fsX12 E w a).set 11 (rv E (v)) := by simp [fsX12, sR, wI, wR, wJ, wZ, up2]
theorem pX12_12 {E : Ev} {w : Wd} {a : Nat} {v : Option Nat} : fsX12 E (sR w 1212 a v) a = (fsX12 E w a).set 12 (rv E (v)) := by simp [fsX12, sR, wI, wR, wJ, wZ, up2]
theorem pX12_13 {E : Ev} {w : Wd} {a : Nat} {v : Option Nat} : fsX12 E (sR w 1213 a v) a = (fsX12 E w a).set 13 (rv E (v)) := by simp [fsX12, sR, wI, wR, wJ, wZ, up2]
theorem pX12_14 {E : Ev} {w : Wd} {a : Nat} {v : Option Nat} : fsX12 E (sR w 1214 a v) a = (fsX12 E w a).set 14 (rv E (v)) := by simp [fsX12, sR, wI, wR, wJ, wZ, up2]
theorem pX12_15 {E : Ev} {w : Wd} {a : Nat} {v : Int32} : fsX12 E (sI w 1215 a v) a = (fsX12 E w a).set 15 (.int (v)) := by simp [fsX12, sI, wI, wR, wJ, wZ, up2]
theorem pX20_0 {E : Ev} {w : Wd} {a : Nat} {v : Option Nat} : fsX20 E (sR w 2000 a v) a = (fsX20 E w a).set 0 (rv E (v)) := by simp [fsX20, sR, wI, wR, wJ, wZ, up2]
theorem pX20_1 {E : Ev} {w : Wd} {a : Nat} {v : Int32} : fsX20 E (sI w 2001 a v) a = (fsX20 E w a).set 1 (.int (v)) := by simp [fsX20, sI, wI, wR, wJ, wZ, up2]
theorem pX20_2 {E : Ev} {w : Wd} {a : Nat} {v : Int32} : fsX20 E (sI w 2002 a v) a = (fsX20 E w a).set 2 (.int (v)) := by simp [fsX20, sI, wI, wR, wJ, wZ, up2]
theorem pX20_3 {E : Ev} {w : Wd} {a : Nat} {v : Bool} : fsX20 E (sZ w 2003 a v) a = (fsX20 E w a).set 3 (.int (b2i (v))) := by simp [fsX20, sZ, wI, wR, wJ, wZ, up2]
theorem pX21_0 {E : Ev} {w : Wd} {a : Nat} {v : Option Nat} : fsX21 E (sR w 2100 a v) a = (fsX21 E w a).set 0 (rv E (v)) := by simp [fsX21, sR, wI, wR, wJ, wZ, up2]
theorem pX21_1 {E : Ev} {w : Wd} {a : Nat} {v : Int32} : fsX21 E (sI w 2101 a v) a = (fsX21 E w a).set 1 (.int (v)) := by simp [fsX21, sI, wI, wR, wJ, wZ, up2]
theorem pX21_2 {E : Ev} {w : Wd} {a : Nat} {v : Bool} : fsX21 E (sZ w 2102 a v) a = (fsX21 E w a).set 2 (.int (b2i (v))) := by simp [fsX21, sZ, wI, wR, wJ, wZ, up2]
theorem pX21_3 {E : Ev} {w : Wd} {a : Nat} {v : Int32} : fsX21 E (sI w 2103 a v) a = (fsX21 E w a).set 3 (.int (v)) := by simp [fsX21, sI, wI, wR, wJ, wZ, up2]
