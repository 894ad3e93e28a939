/-! The machine's rows over a memory. -/
def hA (E : Ev) : Nat → Prop := fun q => E.2.1 ≤ q
def HP (E : Ev) (K : Kd) (w : Wd) (H : Heap) : Prop := ∀ (a : Nat) (q : Nat × Nat), K a = some q → va_at E.1 vwCl (E.2.1 + a, rend E w q a) H
def tokN : List String := ["HOLIDAY", "ROOM", "SLOTS", "OFFICER", "OFF", "WITNESS", "DAYS", "CASE", "FILED", "LIMIT", "CUSTODY", "NEEDS", "BAR", "CONFLICT", "LENGTHEN", "CAP", "NAME", "NUMBER", "SEMICOLON", "END", "WRONG"]
def tokO : List Int32 := [0, 1, 2, 3, 4, 5, 6, 7, 8, 9, 10, 11, 12, 13, 14, 15, 16, 17, 18, 19, 20]
def tokP : List Int64 := [29395908993245561, 1919905645, 495740482675, 31356312455701874, 7300710, 33611471017833331, 1684109683, 1667330917, 439855375716, 465625246068, 27995161429501049, 474147546227, 6447474, 7165066918354314100, 7810770519357678958, 6513008, 0, 0, 0, 0, 0]
def swm : List Int32 := [1, 2, 0, 3, 0, 4, 0, 5, 0, 0, 0, 0, 6, 7, 8, 9, 0, 0, 0, 0, 0]
/-- the law's String constants: their places in its pool, their texts, their bytes; the JDK's digits -/
def cix : List Nat := [68, 77, 86, 88, 90, 92, 94, 96, 98, 100, 102, 104, 106, 108, 110]
def ctx : List String := ["room ", " slots ", "officer ", " off ", "witness ", " days ", "case ", " filed ", " limit ", " custody", "", " needs w;", " needs x;", ";", "conflict a b;cap "]
def strL : List Nat := [5, 7, 8, 5, 8, 6, 5, 7, 7, 8, 0, 9, 9, 1, 17]
def strB : List (List Int32) := [[114, 111, 111, 109, 32], [32, 115, 108, 111, 116, 115, 32], [111, 102, 102, 105, 99, 101, 114, 32], [32, 111, 102, 102, 32], [119, 105, 116, 110, 101, 115, 115, 32], [32, 100, 97, 121, 115, 32], [99, 97, 115, 101, 32], [32, 102, 105, 108, 101, 100, 32], [32, 108, 105, 109, 105, 116, 32], [32, 99, 117, 115, 116, 111, 100, 121], [], [32, 110, 101, 101, 100, 115, 32, 119, 59], [32, 110, 101, 101, 100, 115, 32, 120, 59], [59], [99, 111, 110, 102, 108, 105, 99, 116, 32, 97, 32, 98, 59, 99, 97, 112, 32]]
def dg1B : List Int32 := [48, 49, 50, 51, 52, 53, 54, 55, 56, 57, 48, 49, 50, 51, 52, 53, 54, 55, 56, 57, 48, 49, 50, 51, 52, 53, 54, 55, 56, 57, 48, 49, 50, 51, 52, 53, 54, 55, 56, 57, 48, 49, 50, 51, 52, 53, 54, 55, 56, 57, 48, 49, 50, 51, 52, 53, 54, 55, 56, 57, 48, 49, 50, 51, 52, 53, 54, 55, 56, 57, 48, 49, 50, 51, 52, 53, 54, 55, 56, 57, 48, 49, 50, 51, 52, 53, 54, 55, 56, 57, 48, 49, 50, 51, 52, 53, 54, 55, 56, 57]
def dg10B : List Int32 := [48, 48, 48, 48, 48, 48, 48, 48, 48, 48, 49, 49, 49, 49, 49, 49, 49, 49, 49, 49, 50, 50, 50, 50, 50, 50, 50, 50, 50, 50, 51, 51, 51, 51, 51, 51, 51, 51, 51, 51, 52, 52, 52, 52, 52, 52, 52, 52, 52, 52, 53, 53, 53, 53, 53, 53, 53, 53, 53, 53, 54, 54, 54, 54, 54, 54, 54, 54, 54, 54, 55, 55, 55, 55, 55, 55, 55, 55, 55, 55, 56, 56, 56, 56, 56, 56, 56, 56, 56, 56, 57, 57, 57, 57, 57, 57, 57, 57, 57, 57]
/-- what is constant: the tokens, their array, the switch's table, the texts, the digits -/
def HT (E : Ev) (U : State) (H : Heap) : Prop :=
  va_En "CourtCalendar$Token" "LCourtCalendar$Token;" tokN [("java/lang/Enum", "ordinal", "I", tokO)] E.2.2.2.1 (hA E) U H ∧
  (∀ i, i < 21 → va_OF "CourtCalendar$Token" "packed" "J" (.long (tokP.getD i 0)) (E.2.2.2.1 i) (hA E) U H) ∧
  (va_Z "CourtCalendar$Token" "ALL" "[LCourtCalendar$Token;" (.ref (E.2.2.2.1 100)) (hA E) U H ∧ va_T (.object "CourtCalendar$Token") (E.2.2.2.1 100) 21 (fun j => .ref (E.2.2.2.1 j)) (hA E) U H) ∧
  (va_Z "CourtCalendar$1" "$SwitchMap$CourtCalendar$Token" "[I" (.ref (E.2.2.2.1 101)) (hA E) U H ∧ va_T .int (E.2.2.2.1 101) 21 (fun j => .int (swm.getD j 0)) (hA E) U H) ∧
  vk_S 15 strL strB (fun i => E.2.2.2.1 (300 + i)) (fun i => E.2.2.2.1 (400 + i)) (hA E) U H ∧
  vx_Zq Bundle.tN "UNASSIGNED_STACK" Bundle.steD (hA E) U H ∧ vx_Zq Bundle.tN "SUPPRESSED_SENTINEL" Bundle.listD (hA E) U H ∧
  va_Z RJ0 "COMPACT_STRINGS" "Z" (.int 1) (hA E) U H ∧ va_Zq "jdk/internal/util/Preconditions" "SIOOBE_FORMATTER" "Ljava/util/function/BiFunction;" (hA E) U H ∧
  (va_Z RJ6 "DigitOnes" "[B" (.ref (E.2.2.2.1 103)) (hA E) U H ∧ va_T .byte (E.2.2.2.1 103) 100 (fun j => .int (dg1B.getD j 0)) (hA E) U H) ∧ (va_Z RJ6 "DigitTens" "[B" (.ref (E.2.2.2.1 104)) (hA E) U H ∧ va_T .byte (E.2.2.2.1 104) 100 (fun j => .int (dg10B.getD j 0)) (hA E) U H) ∧ va_T .int (E.2.2.2.1 500) E.2.2.2.2.1 (fun j => .int (E.2.2.2.2.2 j)) (hA E) U H
theorem HT.moved {E : Ev} {u U : State} {H : Heap} (hvm : u.vm.Alike U.vm) (h : HT E u H) : HT E U H :=
  ⟨va_En.moved hvm h.1, fun i hi => va_OF.moved hvm (h.2.1 i hi), ⟨va_Z.moved hvm h.2.2.1.1, va_T.moved hvm h.2.2.1.2⟩, ⟨va_Z.moved hvm h.2.2.2.1.1, va_T.moved hvm h.2.2.2.1.2⟩, vk_S.moved hvm h.2.2.2.2.1, vx_Zq.moved hvm h.2.2.2.2.2.1, vx_Zq.moved hvm h.2.2.2.2.2.2.1, va_Z.moved hvm h.2.2.2.2.2.2.2.1, va_Zq.moved hvm h.2.2.2.2.2.2.2.2.1, ⟨va_Z.moved hvm h.2.2.2.2.2.2.2.2.2.1.1, va_T.moved hvm h.2.2.2.2.2.2.2.2.2.1.2⟩, ⟨va_Z.moved hvm h.2.2.2.2.2.2.2.2.2.2.1.1, va_T.moved hvm h.2.2.2.2.2.2.2.2.2.2.1.2⟩, va_T.moved hvm h.2.2.2.2.2.2.2.2.2.2.2⟩
theorem HT.kept {E : Ev} {U : State} {H H1 : Heap} (h : HT E U H) (hq : ∀ a : Nat, a < H.size → ¬ hA E a → H1[a]? = H[a]?) : HT E U H1 :=
  ⟨h.1.kept hq, fun i hi => (h.2.1 i hi).kept hq, ⟨h.2.2.1.1.kept hq, h.2.2.1.2.kept hq⟩, ⟨h.2.2.2.1.1.kept hq, h.2.2.2.1.2.kept hq⟩, h.2.2.2.2.1.kept hq, h.2.2.2.2.2.1.kept hq, h.2.2.2.2.2.2.1.kept hq, h.2.2.2.2.2.2.2.1.kept hq, h.2.2.2.2.2.2.2.2.1.kept hq, ⟨h.2.2.2.2.2.2.2.2.2.1.1.kept hq, h.2.2.2.2.2.2.2.2.2.1.2.kept hq⟩, ⟨h.2.2.2.2.2.2.2.2.2.2.1.1.kept hq, h.2.2.2.2.2.2.2.2.2.2.1.2.kept hq⟩, h.2.2.2.2.2.2.2.2.2.2.2.kept hq⟩
/-- the throws and the classes that don't catch them -/
def ncp : List (String × String) := [("java/lang/IndexOutOfBoundsException", "java/lang/IllegalArgumentException"), ("java/lang/IndexOutOfBoundsException", "java/lang/IllegalStateException"), ("java/lang/IndexOutOfBoundsException", "java/util/NoSuchElementException"), ("java/lang/IllegalArgumentException", "java/lang/IllegalStateException"), ("java/lang/IllegalArgumentException", "java/util/NoSuchElementException"), ("java/lang/IllegalStateException", "java/lang/IllegalArgumentException"), ("java/lang/IllegalStateException", "java/util/NoSuchElementException"), ("java/util/NoSuchElementException", "java/lang/IllegalArgumentException"), ("java/util/NoSuchElementException", "java/lang/IllegalStateException")]
/-- the classes of which there are arrays -/
def aoc : List String := [RX3, RX4, RX7, RX10]
/-- what the tables say, in any state of the run -/
def HK (E : Ev) (U : State) : Prop := va_K E.1 vwCl (tyl E) U ∧ (∀ w, w ∈ nb → va_Nw w U) ∧ (∀ i, i < 15 → vk_R RL (cix.getD i 0) (ctx.getD i "") (E.2.2.2.1 (300 + i)) U) ∧ (∀ x, x ∈ ncp → va_Nc x.1 x.2 U) ∧ va_Nw (.native arraycopyName) U ∧ ∀ C, C ∈ aoc → va_AO C U
theorem HK.warm {E : Ev} {s U : State} (hW : s.WarmedH U.vm) (h : HK E s) : HK E U := ⟨va_K.moved hW.alike h.1, fun w hw => by
  have h1 := h.2.1 w hw
  have h2 := (List.mem_filter.mp hw).2
  cases w <;> first | exact va_Nw.warmF hW h1 | exact va_Nw.warmM hW h1 | exact va_Nw.warmC hW h1 | exact va_Nw.warmD hW h1 | exact absurd h2 (by simp [isNest]), fun i hi => vk_R.warm hW (h.2.2.1 i hi), fun x hx => va_Nc.moved hW.alike (h.2.2.2.1 x hx), va_tabs rfl (rfl : (s.setVm U.vm).vm = U.vm) (by rw [Cond.native_setVm hW.alike]; exact h.2.2.2.2.1), fun C hC => va_AO.moved hW.alike (h.2.2.2.2.2 C hC)⟩
theorem HK.calling {E : Ev} {U : State} {g : JFrame} {mk : MethodId} {a : Array Value} (h : HK E U) : HK E (U.calling g mk a) := ⟨va_K.moved (u := U) (U := U.calling g mk a) (Vm.Alike.refl U.vm) h.1, fun w hw => by
  have h1 := h.2.1 w hw
  have h2 := (List.mem_filter.mp hw).2
  cases w <;> first | exact va_Nw.same rfl rfl h1 | exact absurd h2 (by simp [isNest]), fun i hi => vk_R.same rfl (h.2.2.1 i hi), fun x hx => va_Nc.moved (u := U) (U := U.calling g mk a) (Vm.Alike.refl U.vm) (h.2.2.2.1 x hx), va_Nw.same rfl rfl h.2.2.2.2.1, fun C hC => va_AO.moved (u := U) (U := U.calling g mk a) (Vm.Alike.refl U.vm) (h.2.2.2.2.2 C hC)⟩
/-- a method's start: the memory is K, w; z cells stand -/
def HB (E : Ev) (K : Kd) (w : Wd) (z : Nat) (U : State) : Prop := U.heap.size = z ∧ HP E K w U.heap ∧ HK E U ∧ HT E U U.heap ∧ E.2.1 ≤ z
/-- a method's end -/
def HE (E : Ev) (K : Kd) (w : Wd) (z : Nat) (U : State) : Prop := U.heap.size = z ∧ HP E K w U.heap
/-- within a method -/
def HQ (E : Ev) (K : Kd) (z : Nat) (w : Wd) (s : State) (H : Heap) (locs : List Loc) : Prop := HP E K w H ∧ va_S (hA E) s.heap H locs ∧ H.size = z
abbrev QI (E : Ev) (K : Kd) (z : Nat) (w : Wd) (r : Int32) : Array Value → State → Outcome → State → Prop := va_Qi (fun x (_ : Unit) => x = r) (fun _ t => HE E K w z t) (hA E)
abbrev QL (E : Ev) (K : Kd) (z : Nat) (w : Wd) (r : Int64) : Array Value → State → Outcome → State → Prop := va_Ql (fun x (_ : Unit) => x = r) (fun _ t => HE E K w z t) (hA E)
abbrev QV (E : Ev) (K : Kd) (z : Nat) (w : Wd) : Array Value → State → Outcome → State → Prop := va_Qv (fun (_ : Unit) => True) (fun _ t => HE E K w z t) (hA E)
abbrev QR (E : Ev) (K : Kd) (z : Nat) (w : Wd) (r : Option Nat) : Array Value → State → Outcome → State → Prop := va_Qq (fun x (_ : Unit) => x = r.map (fun a => E.2.1 + a)) (fun _ t => HE E K w z t) (hA E)
abbrev QT (E : Ev) (K : Kd) (z : Nat) (w : Wd) (r : Option Nat) : Array Value → State → Outcome → State → Prop := va_Qe E.2.2.2.1 (fun x (_ : Unit) => x = r) (fun _ t => HE E K w z t) (hA E)
theorem one_P {D : va_G} {q : Nat × va_E} {H : Heap} (h : va_at D vwCl q H) : va_P D vwCl [q] H := fun k x hx => by
  match k, hx with
  | 0, hx => cases hx; exact h
  | k + 1, hx => simp at hx
theorem HP.put {E : Ev} {K : Kd} {w w' : Wd} {H H1 : Heap} {a : Nat} {q : Nat × Nat} (h : HP E K w H) (hq : K a = some q) (ho : ∀ x, x ≠ E.2.1 + a → H1[x]? = H[x]?) (ha : va_at E.1 vwCl (E.2.1 + a, rend E w' q a) H1) (hr : ∀ b y, b ≠ a → rend E w' y b = rend E w y b) : HP E K w' H1 := by
  intro b y hb
  by_cases e : b = a
  · subst e
    rw [hq] at hb
    cases hb
    exact ha
  · rw [hr b y e]
    exact (h b y hb).kept (ho _ (fun e2 => e (Nat.add_left_cancel e2)))
theorem rv_cat {E : Ev} {r : Option Nat} : (rv E r).category = 1 := by cases r <;> rfl
theorem re_cat {E : Ev} {r : Option Nat} : (re E r).category = 1 := by cases r <;> rfl
def rc (n : Nat) (l : List Value) : Prop := (l.map fun v => v.category).sum ≤ n
theorem rc0 {n : Nat} : rc n [] := Nat.zero_le _
theorem rcI {n : Nat} {x : Int32} {l : List Value} (h : rc n l) : rc (n + 1) (.int x :: l) := by unfold rc at *; simp [Value.category] at *; omega
theorem rcJ {n : Nat} {x : Int64} {l : List Value} (h : rc n l) : rc (n + 2) (.long x :: l) := by unfold rc at *; simp [Value.category] at *; omega
theorem rcV {n : Nat} {E : Ev} {x : Option Nat} {l : List Value} (h : rc n l) : rc (n + 1) (rv E x :: l) := by unfold rc at *; simp only [List.map_cons, List.sum_cons, rv_cat] at *; omega
theorem rcE {n : Nat} {E : Ev} {x : Option Nat} {l : List Value} (h : rc n l) : rc (n + 1) (re E x :: l) := by unfold rc at *; simp only [List.map_cons, List.sum_cons, re_cat] at *; omega
theorem gV {own C : String} {idx maxL : Nat} {y : MethodName} {cc : ByteArray} {ret : Option FieldType} (h1 : Cond.methodLink own idx y ∈ bt) (h2 : Cond.instanceMethod y ∈ bt) (h3 : Cond.selects C y y ∈ bt) (h4 : Cond.initialized C ∈ bt) (h5 : Cond.code y cc maxL ret ∈ bt) : GoodIn bt (wsV own idx C y (Cond.code y cc maxL ret :: bt)) := by
  intro w hw
  have hm : w ∈ bt := by
    unfold wsV at hw
    simp only [List.cons_append, List.nil_append, List.mem_cons] at hw
    rcases hw with rfl | rfl | rfl | rfl | rfl | hw
    · exact h1
    · exact h2
    · exact h3
    · exact h4
    · exact h5
    · exact hw
  exact ⟨hm, good_of_word (bt_good hm)⟩
theorem gS {own : String} {idx maxL : Nat} {y : MethodName} {cc : ByteArray} {ret : Option FieldType} (h1 : Cond.methodLink own idx y ∈ bt) (h2 : Cond.static y ∈ bt) (h4 : Cond.initialized y.cls ∈ bt) (h5 : Cond.code y cc maxL ret ∈ bt) : GoodIn bt (va_wsS own idx y (Cond.code y cc maxL ret :: bt)) := by
  intro w hw
  have hm : w ∈ bt := by
    unfold va_wsS at hw
    simp only [List.cons_append, List.nil_append, List.mem_cons] at hw
    rcases hw with rfl | rfl | rfl | rfl | hw
    · exact h1
    · exact h2
    · exact h4
    · exact h5
    · exact hw
  exact ⟨hm, good_of_word (bt_good hm)⟩
theorem gC {maxL : Nat} {y : MethodName} {cc : ByteArray} {ret : Option FieldType} (h5 : Cond.code y cc maxL ret ∈ bt) : GoodIn bt (Cond.code y cc maxL ret :: bt) := by
  intro w hw
  have hm : w ∈ bt := by
    rcases List.mem_cons.mp hw with rfl | hw
    · exact h5
    · exact hw
  exact ⟨hm, good_of_word (bt_good hm)⟩
theorem HB.blind {E : Ev} {K : Kd} {w : Wd} {z : Nat} {av : List Value} : FrameBlind (va_Pc av (HB E K w z)) := fun a U g mk q => ⟨q.1, q.2.1, q.2.2.1, q.2.2.2.1.calling, HT.moved (u := U) (U := U.calling g mk a) (Vm.Alike.refl U.vm) q.2.2.2.2.1, q.2.2.2.2.2⟩
theorem HB.pre {E : Ev} {K : Kd} {w : Wd} {z : Nat} {av : List Value} {s : State} {H : Heap} {locs : List Loc} (hKs : HK E s) (hT : HT E s s.heap) (hb0 : E.2.1 ≤ s.heap.size) (hH : HQ E K z w s H locs) : ∀ U : State, U.heap = H → s.WarmedH U.vm → va_Pc av (HB E K w H.size) av.toArray U := fun U hU hW => ⟨rfl, by rw [hU], by rw [hU]; exact hH.1, hKs.warm hW, by rw [hU]; exact HT.moved hW.alike (hT.kept hH.2.1.2.1), Nat.le_trans hb0 hH.2.1.1⟩
theorem HP.recv {E : Ev} {K : Kd} {w : Wd} {s : State} {H : Heap} {a ci : Nat} {fs : List Value} {q : vw_C} (hKs : HK E s) (h : HP E K w H) (hKa : K a = some (ci, 0)) (hfs : rend E w (ci, 0) a = .inr (ci, fs)) (hc : vwCl[ci]? = some q) : ∃ cell : Cell, H[E.2.1 + a]? = some cell ∧ cell.vm.isStatics = false ∧ s.vm.findClass q.1 = some cell.cls := va_recv hKs.1 (one_P (by rw [← hfs]; exact h a _ hKa)) hc (q0 := 0) rfl
section HW
variable {p : Program} {l : Launch} {e : Env} {R : Room} {s : State} {m : MethodId} {args : Array Value} {below : List Frame} {meth : Method} {c : Code} {H : Heap} {locs : List Loc} {cells slots : Nat} {Q : State → Prop}
variable {cc : ByteArray} {pc : Nat} {ls : Array Slot} {rest : List Value} {E : Ev} {K : Kd} {z : Nat} {w : Wd}
theorem hw_get (hexec : p.tables.exec = Jvm.exec) (hb : c.code = cc) {own C : String} {T : u_T} {N ci index : Nat} (hts : ∀ w ∈ bt, w.before args s = true) (hin : ∀ w ∈ u_ws C T N, w ∈ bt) (hown : s.vm.findClass own = some m.cls) (hKs : HK E s) (hH : HQ E K z w s H locs) (hc : vwCl[ci]? = some (C, T, N)) {r : Option Nat} {a : Nat} (hr : r = some a) (hKa : K a = some (ci, 0)) {fs : List Value} (hfs : rend E w (ci, 0) a = .inr (ci, fs)) (k : Nat) (hk : k < N) (hlink : Cond.fieldLink own index (T k).1 (T k).2.1 (T k).2.2.1 ∈ bt) {v : Value} (hv : fs[k]? = some v) (hdg : decode cc pc = .ok (.getfield index, 3))
    (kk : W p l e R s m args below meth c H locs cells slots Q (F0 m (pc + 3) ls (v :: rest))) : W p l e R s m args below meth c H locs cells slots Q (F0 m pc ls (rv E r :: rest)) := by
  subst hr
  exact va_get (ws := [(E.2.1 + a, .inr (ci, fs))]) hexec hb hts hin hown hKs.1 (one_P (by rw [← hfs]; exact hH.1 a _ hKa)) 0 rfl hc k hk (hts _ hlink) (fun _ h => h) hv hdg kk
theorem hw_getN (hexec : p.tables.exec = Jvm.exec) (hb : c.code = cc) {own C host : String} {T : u_T} {N ci index : Nat} (hts : ∀ w ∈ bt, w.before args s = true) (hin : ∀ w ∈ u_ws C T N, w ∈ bt) (hown : s.vm.findClass own = some m.cls) (hKs : HK E s) (hH : HQ E K z w s H locs) (hc : vwCl[ci]? = some (C, T, N)) {r : Option Nat} {a : Nat} (hr : r = some a) (hKa : K a = some (ci, 0)) {fs : List Value} (hfs : rend E w (ci, 0) a = .inr (ci, fs)) (k : Nat) (hk : k < N) (hlink : Cond.fieldLinkNest own index (T k).1 (T k).2.1 (T k).2.2.1 host ∈ nb) {v : Value} (hv : fs[k]? = some v) (hdg : decode cc pc = .ok (.getfield index, 3))
    (kk : W p l e R s m args below meth c H locs cells slots Q (F0 m (pc + 3) ls (v :: rest))) : W p l e R s m args below meth c H locs cells slots Q (F0 m pc ls (rv E r :: rest)) := by
  subst hr
  exact va_getN (ws := [(E.2.1 + a, .inr (ci, fs))]) hexec hb hts hin hown hKs.1 (one_P (by rw [← hfs]; exact hH.1 a _ hKa)) 0 rfl hc k hk (va_Nw.use rfl (hKs.2.1 _ hlink)) (fun _ h => h) hv hdg kk
theorem hw_put (hexec : p.tables.exec = Jvm.exec) (hb : c.code = cc) {own C : String} {T : u_T} {N ci index : Nat} (hts : ∀ w ∈ bt, w.before args s = true) (hin : ∀ w ∈ u_ws C T N, w ∈ bt) (ty0 : Nat → FieldType) (hty : ∀ k, k < N → parseFieldDescriptor (T k).2.2.1 = some (ty0 k)) (hnm : ∀ a, a < N → ∀ b, b < N → a ≠ b → (T a).2.1 ≠ (T b).2.1) (hown : s.vm.findClass own = some m.cls) (hKs : HK E s) (hH : HQ E K z w s H locs) (hc : vwCl[ci]? = some (C, T, N)) {r : Option Nat} {a : Nat} (hr : r = some a) (hKa : K a = some (ci, 0)) {fs : List Value} (hfs : rend E w (ci, 0) a = .inr (ci, fs)) (k : Nat) (hk : k < N) (hlink : Cond.fieldLink own index (T k).1 (T k).2.1 (T k).2.2.1 ∈ bt) (hfin : (T k).2.2.2 = false) {ty : FieldType} {v : Value} (hd : parseFieldDescriptor (T k).2.2.1 = some ty) (hn : narrow ty v = v) (hfit : fits ty v = true) (hl : k < fs.length) {w' : Wd} (hw' : rend E w' (ci, 0) a = .inr (ci, fs.set k v)) (hrr : ∀ b y, b ≠ a → rend E w' y b = rend E w y b) (hdg : decode cc pc = .ok (.putfield index, 3))
    (kk : ∀ (H1 : Heap) (locs1 : List Loc), HQ E K z w' s H1 locs1 → W p l e R s m args below meth c H1 locs1 cells slots Q (F0 m (pc + 3) ls rest)) : W p l e R s m args below meth c H locs cells slots Q (F0 m pc ls (v :: rv E r :: rest)) := by
  subst hr
  have hap := va_apart (own := own) hts hin ty0 hty hnm hKs.1 hc
  have h0 := hH.1 a _ hKa
  rw [hfs] at h0
  obtain ⟨r, h1, cell, q1, q2, q3, q4⟩ := h0
  have hr : r = (C, T, N) := Option.some.inj (h1.symm.trans hc)
  subst hr
  obtain ⟨hS, hfc, kC, hkC, hkind⟩ := hKs.1.1 ci _ hc
  obtain ⟨cf, kf, fi, f, hi, hsl⟩ := hS k hk
  have hlay := hts _ (hin _ (u_in_lay hk))
  unfold u_lay at hlay
  rw [if_neg (by rw [hfin]; decide)] at hlay
  have hst := (u_facts hfc hkC (u_lays hts hin hk) hi).1
  have h6 := u_store hfc hkC hkind hlay hi hd hn hfit
  refine W.putK hexec hb (f := f) ⟨hown, hts _ hlink, ⟨_, _, _, hi⟩, hst⟩ (by rw [q2]; exact h6) q1 q3 (by rw [hsl]; exact k2_hasslot (q4 k hk)) rfl rfl hdg fun H' e1 e2 e3 => ?_
  rw [hsl] at e1 ⊢
  refine kk H' _ ⟨hH.1.put hKa e3 ?_ hrr, hH.2.1.put e2 e3 (Nat.le_add_right _ _), e2.trans hH.2.2⟩
  rw [hw']
  exact ⟨_, hc, t_OB.to (V := updV (vp_V fs) k v) ⟨_, e1, q2, q3, t_set q4 hap hk v⟩ (fun j _ => vp_updV_set hl v j)⟩
theorem hw_putN (hexec : p.tables.exec = Jvm.exec) (hb : c.code = cc) {own C host : String} {T : u_T} {N ci index : Nat} (hts : ∀ w ∈ bt, w.before args s = true) (hin : ∀ w ∈ u_ws C T N, w ∈ bt) (ty0 : Nat → FieldType) (hty : ∀ k, k < N → parseFieldDescriptor (T k).2.2.1 = some (ty0 k)) (hnm : ∀ a, a < N → ∀ b, b < N → a ≠ b → (T a).2.1 ≠ (T b).2.1) (hown : s.vm.findClass own = some m.cls) (hKs : HK E s) (hH : HQ E K z w s H locs) (hc : vwCl[ci]? = some (C, T, N)) {r : Option Nat} {a : Nat} (hr : r = some a) (hKa : K a = some (ci, 0)) {fs : List Value} (hfs : rend E w (ci, 0) a = .inr (ci, fs)) (k : Nat) (hk : k < N) (hlink : Cond.fieldLinkNest own index (T k).1 (T k).2.1 (T k).2.2.1 host ∈ nb) (hfin : (T k).2.2.2 = false) {ty : FieldType} {v : Value} (hd : parseFieldDescriptor (T k).2.2.1 = some ty) (hn : narrow ty v = v) (hfit : fits ty v = true) (hl : k < fs.length) {w' : Wd} (hw' : rend E w' (ci, 0) a = .inr (ci, fs.set k v)) (hrr : ∀ b y, b ≠ a → rend E w' y b = rend E w y b) (hdg : decode cc pc = .ok (.putfield index, 3))
    (kk : ∀ (H1 : Heap) (locs1 : List Loc), HQ E K z w' s H1 locs1 → W p l e R s m args below meth c H1 locs1 cells slots Q (F0 m (pc + 3) ls rest)) : W p l e R s m args below meth c H locs cells slots Q (F0 m pc ls (v :: rv E r :: rest)) := by
  subst hr
  have hap := va_apart (own := own) hts hin ty0 hty hnm hKs.1 hc
  have h0 := hH.1 a _ hKa
  rw [hfs] at h0
  obtain ⟨r, h1, cell, q1, q2, q3, q4⟩ := h0
  have hr : r = (C, T, N) := Option.some.inj (h1.symm.trans hc)
  subst hr
  obtain ⟨hS, hfc, kC, hkC, hkind⟩ := hKs.1.1 ci _ hc
  obtain ⟨cf, kf, fi, f, hi, hsl⟩ := hS k hk
  have hlay := hts _ (hin _ (u_in_lay hk))
  unfold u_lay at hlay
  rw [if_neg (by rw [hfin]; decide)] at hlay
  have hst := (u_facts hfc hkC (u_lays hts hin hk) hi).1
  have h6 := u_store hfc hkC hkind hlay hi hd hn hfit
  refine va_WputK hexec hb (f := f) hown (va_Nw.use rfl (hKs.2.1 _ hlink)) hi hst (by rw [q2]; exact h6) q1 q3 (by rw [hsl]; exact k2_hasslot (q4 k hk)) rfl rfl hdg fun H' e1 e2 e3 => ?_
  rw [hsl] at e1 ⊢
  refine kk H' _ ⟨hH.1.put hKa e3 ?_ hrr, hH.2.1.put e2 e3 (Nat.le_add_right _ _), e2.trans hH.2.2⟩
  rw [hw']
  exact ⟨_, hc, t_OB.to (V := updV (vp_V fs) k v) ⟨_, e1, q2, q3, t_set q4 hap hk v⟩ (fun j _ => vp_updV_set hl v j)⟩
theorem hw_iald (hexec : p.tables.exec = Jvm.exec) (hb : c.code = cc) (hKs : HK E s) (hH : HQ E K z w s H locs) {r : Option Nat} {a n : Nat} (hr : r = some a) (hKa : K a = some (20, n)) {i : Int32} {j : Nat} (hj : ixa i n = some j) (hdg : decode cc pc = .ok (.iaload, 1))
    (kk : W p l e R s m args below meth c H locs cells slots Q (F0 m (pc + 1) ls (.int (aI w a j) :: rest))) : W p l e R s m args below meth c H locs cells slots Q (F0 m pc ls (.int i :: rv E r :: rest)) := by
  subst hr
  obtain ⟨h1, rfl⟩ := ixa_some hj
  exact va_iald (ws := [(E.2.1 + a, .inl (E.2.2.1 20, n, .inl (aI w a)))]) hexec hb hKs.1 (one_P (hH.1 a _ hKa)) 0 0 rfl rfl h1 hdg kk
theorem hw_bald (hexec : p.tables.exec = Jvm.exec) (hb : c.code = cc) (hKs : HK E s) (hH : HQ E K z w s H locs) {r : Option Nat} {a n : Nat} (hr : r = some a) (hKa : K a = some (21, n)) {i : Int32} {j : Nat} (hj : ixa i n = some j) (hdg : decode cc pc = .ok (.baload, 1))
    (kk : W p l e R s m args below meth c H locs cells slots Q (F0 m (pc + 1) ls (.int (aI w a j) :: rest))) : W p l e R s m args below meth c H locs cells slots Q (F0 m pc ls (.int i :: rv E r :: rest)) := by
  subst hr
  obtain ⟨h1, rfl⟩ := ixa_some hj
  exact va_bald (ws := [(E.2.1 + a, .inl (E.2.2.1 21, n, .inl (aI w a)))]) hexec hb hKs.1 (one_P (hH.1 a _ hKa)) 0 1 rfl rfl h1 hdg kk
theorem hw_lald (hexec : p.tables.exec = Jvm.exec) (hb : c.code = cc) (hKs : HK E s) (hH : HQ E K z w s H locs) {r : Option Nat} {a n : Nat} (hr : r = some a) (hKa : K a = some (23, n)) {i : Int32} {j : Nat} (hj : ixa i n = some j) (hdg : decode cc pc = .ok (.laload, 1))
    (kk : W p l e R s m args below meth c H locs cells slots Q (F0 m (pc + 1) ls (.long (aJ w a j) :: rest))) : W p l e R s m args below meth c H locs cells slots Q (F0 m pc ls (.int i :: rv E r :: rest)) := by
  subst hr
  obtain ⟨h1, rfl⟩ := ixa_some hj
  exact va_lald (ws := [(E.2.1 + a, .inl (E.2.2.1 23, n, .inr (.inl (aJ w a))))]) hexec hb hKs.1 (one_P (hH.1 a _ hKa)) 0 3 rfl rfl h1 hdg kk
theorem hw_iast (hexec : p.tables.exec = Jvm.exec) (hb : c.code = cc) (hKs : HK E s) (hH : HQ E K z w s H locs) {r : Option Nat} {a n : Nat} (hr : r = some a) (hKa : K a = some (20, n)) {i : Int32} {j : Nat} (hj : ixa i n = some j) {x : Int32} (hdg : decode cc pc = .ok (.iastore, 1))
    (kk : ∀ (H1 : Heap) (locs1 : List Loc), HQ E K z (tI w a j x) s H1 locs1 → W p l e R s m args below meth c H1 locs1 cells slots Q (F0 m (pc + 1) ls rest)) : W p l e R s m args below meth c H locs cells slots Q (F0 m pc ls (.int x :: .int i :: rv E r :: rest)) := by
  subst hr
  obtain ⟨h1, rfl⟩ := ixa_some hj
  have h0 := hH.1 a _ hKa
  refine W.iast hexec hb h0 ((hKs.1.2 0 _ rfl).1 n (fun j => .int (aI w a j))) (fun q => by cases q) (by show ¬ (i < 0 ∨ (arrV _ _ _).slots.size ≤ _); rw [arrV_size]; exact h1) rfl rfl hdg fun H1 e1 e2 e3 => ?_
  refine kk H1 _ ⟨hH.1.put hKa e3 ?_ (fun b y hb => rend_tI hb), hH.2.1.put e2 e3 (Nat.le_add_right _ _), e2.trans hH.2.2⟩
  show H1[E.2.1 + a]? = some (vp_cell _ _)
  rw [e1]
  show some (Cell.setSlot (vp_cell _ (n, .inl (aI w a))) _ _) = some (vp_cell _ (n, .inl (aI (tI w a i.toNatClampNeg x) a)))
  rw [vp_cell_i, vp_cell_i, arrV_store]
  congr 2
  funext q
  by_cases hq : q = i.toNatClampNeg
  · subst hq; simp [updV, aI, tI, up2]
  · simp [updV, aI, tI, up2, hq]
theorem hw_bast (hexec : p.tables.exec = Jvm.exec) (hb : c.code = cc) (hKs : HK E s) (hH : HQ E K z w s H locs) {r : Option Nat} {a n : Nat} (hr : r = some a) (hKa : K a = some (21, n)) {i : Int32} {j : Nat} (hj : ixa i n = some j) {x : Int32} (hdg : decode cc pc = .ok (.bastore, 1))
    (kk : ∀ (H1 : Heap) (locs1 : List Loc), HQ E K z (tI w a j (vp_nar .byte x)) s H1 locs1 → W p l e R s m args below meth c H1 locs1 cells slots Q (F0 m (pc + 1) ls rest)) : W p l e R s m args below meth c H locs cells slots Q (F0 m pc ls (.int x :: .int i :: rv E r :: rest)) := by
  subst hr
  obtain ⟨h1, rfl⟩ := ixa_some hj
  have h0 := hH.1 a _ hKa
  refine W.bast hexec hb h0 ((hKs.1.2 1 _ rfl).1 n (fun j => .int (aI w a j))) (fun q => by cases q) (by show ¬ (i < 0 ∨ (arrV _ _ _).slots.size ≤ _); rw [arrV_size]; exact h1) rfl rfl hdg fun H1 e1 e2 e3 => ?_
  refine kk H1 _ ⟨hH.1.put hKa e3 ?_ (fun b y hb => rend_tI hb), hH.2.1.put e2 e3 (Nat.le_add_right _ _), e2.trans hH.2.2⟩
  show H1[E.2.1 + a]? = some (vp_cell _ _)
  rw [e1]
  show some (Cell.setSlot (vp_cell _ (n, .inl (aI w a))) _ _) = some (vp_cell _ (n, .inl (aI (tI w a i.toNatClampNeg (vp_nar .byte x)) a)))
  rw [vp_cell_i, vp_cell_i, arrV_store]
  congr 2
  funext q
  by_cases hq : q = i.toNatClampNeg
  · subst hq; simp [updV, aI, tI, up2, vp_nar, narrow]
  · simp [updV, aI, tI, up2, hq]
theorem hw_last (hexec : p.tables.exec = Jvm.exec) (hb : c.code = cc) (hKs : HK E s) (hH : HQ E K z w s H locs) {r : Option Nat} {a n : Nat} (hr : r = some a) (hKa : K a = some (23, n)) {i : Int32} {j : Nat} (hj : ixa i n = some j) {x : Int64} (hdg : decode cc pc = .ok (.lastore, 1))
    (kk : ∀ (H1 : Heap) (locs1 : List Loc), HQ E K z (tJ w a j x) s H1 locs1 → W p l e R s m args below meth c H1 locs1 cells slots Q (F0 m (pc + 1) ls rest)) : W p l e R s m args below meth c H locs cells slots Q (F0 m pc ls (.long x :: .int i :: rv E r :: rest)) := by
  subst hr
  obtain ⟨h1, rfl⟩ := ixa_some hj
  have h0 := hH.1 a _ hKa
  refine W.last hexec hb h0 ((hKs.1.2 3 _ rfl).1 n (fun j => .long (aJ w a j))) (fun q => by cases q) (by show ¬ (i < 0 ∨ (arrV _ _ _).slots.size ≤ _); rw [arrV_size]; exact h1) rfl rfl hdg fun H1 e1 e2 e3 => ?_
  refine kk H1 _ ⟨hH.1.put hKa e3 ?_ (fun b y hb => rend_tJ hb), hH.2.1.put e2 e3 (Nat.le_add_right _ _), e2.trans hH.2.2⟩
  show H1[E.2.1 + a]? = some (vp_cell _ _)
  rw [e1]
  show some (Cell.setSlot (vp_cell _ (n, .inr (.inl (aJ w a)))) _ _) = some (vp_cell _ (n, .inr (.inl (aJ (tJ w a i.toNatClampNeg x) a))))
  rw [vp_cell_l, vp_cell_l, arrV_store]
  congr 2
  funext q
  by_cases hq : q = i.toNatClampNeg
  · subst hq; simp [updV, aJ, tJ, up2]
  · simp [updV, aJ, tJ, up2, hq]
theorem hw_aald25 (hexec : p.tables.exec = Jvm.exec) (hb : c.code = cc) (hKs : HK E s) (hH : HQ E K z w s H locs) {r : Option Nat} {a n : Nat} (hr : r = some a) (hKa : K a = some (25, n)) {i : Int32} {j : Nat} (hj : ixa i n = some j) (hdg : decode cc pc = .ok (.aaload, 1))
    (kk : W p l e R s m args below meth c H locs cells slots Q (F0 m (pc + 1) ls (rv E (aR w a j) :: rest))) : W p l e R s m args below meth c H locs cells slots Q (F0 m pc ls (.int i :: rv E r :: rest)) := by
  subst hr
  obtain ⟨h1, rfl⟩ := ixa_some hj
  exact va_aldq (ws := [(E.2.1 + a, .inl (E.2.2.1 25, n, .inr (.inr (.inr (.inr (fun j => (aR w a j).map (fun b => E.2.1 + b)))))))]) hexec hb hKs.1 (one_P (hH.1 a _ hKa)) 0 5 rfl rfl h1 hdg kk
theorem hw_aald26 (hexec : p.tables.exec = Jvm.exec) (hb : c.code = cc) (hKs : HK E s) (hH : HQ E K z w s H locs) {r : Option Nat} {a n : Nat} (hr : r = some a) (hKa : K a = some (26, n)) {i : Int32} {j : Nat} (hj : ixa i n = some j) (hdg : decode cc pc = .ok (.aaload, 1))
    (kk : W p l e R s m args below meth c H locs cells slots Q (F0 m (pc + 1) ls (rv E (aR w a j) :: rest))) : W p l e R s m args below meth c H locs cells slots Q (F0 m pc ls (.int i :: rv E r :: rest)) := by
  subst hr
  obtain ⟨h1, rfl⟩ := ixa_some hj
  exact va_aldq (ws := [(E.2.1 + a, .inl (E.2.2.1 26, n, .inr (.inr (.inr (.inr (fun j => (aR w a j).map (fun b => E.2.1 + b)))))))]) hexec hb hKs.1 (one_P (hH.1 a _ hKa)) 0 6 rfl rfl h1 hdg kk
theorem hw_aald27 (hexec : p.tables.exec = Jvm.exec) (hb : c.code = cc) (hKs : HK E s) (hH : HQ E K z w s H locs) {r : Option Nat} {a n : Nat} (hr : r = some a) (hKa : K a = some (27, n)) {i : Int32} {j : Nat} (hj : ixa i n = some j) (hdg : decode cc pc = .ok (.aaload, 1))
    (kk : W p l e R s m args below meth c H locs cells slots Q (F0 m (pc + 1) ls (rv E (aR w a j) :: rest))) : W p l e R s m args below meth c H locs cells slots Q (F0 m pc ls (.int i :: rv E r :: rest)) := by
  subst hr
  obtain ⟨h1, rfl⟩ := ixa_some hj
  exact va_aldq (ws := [(E.2.1 + a, .inl (E.2.2.1 27, n, .inr (.inr (.inr (.inr (fun j => (aR w a j).map (fun b => E.2.1 + b)))))))]) hexec hb hKs.1 (one_P (hH.1 a _ hKa)) 0 7 rfl rfl h1 hdg kk
theorem hw_aald28 (hexec : p.tables.exec = Jvm.exec) (hb : c.code = cc) (hKs : HK E s) (hH : HQ E K z w s H locs) {r : Option Nat} {a n : Nat} (hr : r = some a) (hKa : K a = some (28, n)) {i : Int32} {j : Nat} (hj : ixa i n = some j) (hdg : decode cc pc = .ok (.aaload, 1))
    (kk : W p l e R s m args below meth c H locs cells slots Q (F0 m (pc + 1) ls (rv E (aR w a j) :: rest))) : W p l e R s m args below meth c H locs cells slots Q (F0 m pc ls (.int i :: rv E r :: rest)) := by
  subst hr
  obtain ⟨h1, rfl⟩ := ixa_some hj
  exact va_aldq (ws := [(E.2.1 + a, .inl (E.2.2.1 28, n, .inr (.inr (.inr (.inr (fun j => (aR w a j).map (fun b => E.2.1 + b)))))))]) hexec hb hKs.1 (one_P (hH.1 a _ hKa)) 0 8 rfl rfl h1 hdg kk
theorem hw_alen20 (hexec : p.tables.exec = Jvm.exec) (hb : c.code = cc) (hKs : HK E s) (hH : HQ E K z w s H locs) {r : Option Nat} {a n : Nat} (hr : r = some a) (hKa : K a = some (20, n)) (hdg : decode cc pc = .ok (.arraylength, 1))
    (kk : W p l e R s m args below meth c H locs cells slots Q (F0 m (pc + 1) ls (.int (nI n) :: rest))) : W p l e R s m args below meth c H locs cells slots Q (F0 m pc ls (rv E r :: rest)) := by
  subst hr
  exact va_alen (ws := [(E.2.1 + a, .inl (E.2.2.1 20, n, .inl (aI w a)))]) hexec hb hKs.1 (one_P (hH.1 a _ hKa)) 0 0 rfl rfl rfl hdg kk
theorem hw_alen21 (hexec : p.tables.exec = Jvm.exec) (hb : c.code = cc) (hKs : HK E s) (hH : HQ E K z w s H locs) {r : Option Nat} {a n : Nat} (hr : r = some a) (hKa : K a = some (21, n)) (hdg : decode cc pc = .ok (.arraylength, 1))
    (kk : W p l e R s m args below meth c H locs cells slots Q (F0 m (pc + 1) ls (.int (nI n) :: rest))) : W p l e R s m args below meth c H locs cells slots Q (F0 m pc ls (rv E r :: rest)) := by
  subst hr
  exact va_alen (ws := [(E.2.1 + a, .inl (E.2.2.1 21, n, .inl (aI w a)))]) hexec hb hKs.1 (one_P (hH.1 a _ hKa)) 0 1 rfl rfl rfl hdg kk
theorem hw_alen23 (hexec : p.tables.exec = Jvm.exec) (hb : c.code = cc) (hKs : HK E s) (hH : HQ E K z w s H locs) {r : Option Nat} {a n : Nat} (hr : r = some a) (hKa : K a = some (23, n)) (hdg : decode cc pc = .ok (.arraylength, 1))
    (kk : W p l e R s m args below meth c H locs cells slots Q (F0 m (pc + 1) ls (.int (nI n) :: rest))) : W p l e R s m args below meth c H locs cells slots Q (F0 m pc ls (rv E r :: rest)) := by
  subst hr
  exact va_alen (ws := [(E.2.1 + a, .inl (E.2.2.1 23, n, .inr (.inl (aJ w a))))]) hexec hb hKs.1 (one_P (hH.1 a _ hKa)) 0 3 rfl rfl rfl hdg kk
theorem hw_alen25 (hexec : p.tables.exec = Jvm.exec) (hb : c.code = cc) (hKs : HK E s) (hH : HQ E K z w s H locs) {r : Option Nat} {a n : Nat} (hr : r = some a) (hKa : K a = some (25, n)) (hdg : decode cc pc = .ok (.arraylength, 1))
    (kk : W p l e R s m args below meth c H locs cells slots Q (F0 m (pc + 1) ls (.int (nI n) :: rest))) : W p l e R s m args below meth c H locs cells slots Q (F0 m pc ls (rv E r :: rest)) := by
  subst hr
  exact va_alen (ws := [(E.2.1 + a, .inl (E.2.2.1 25, n, .inr (.inr (.inr (.inr (fun j => (aR w a j).map (fun b => E.2.1 + b)))))))]) hexec hb hKs.1 (one_P (hH.1 a _ hKa)) 0 5 rfl rfl rfl hdg kk
theorem hw_alen26 (hexec : p.tables.exec = Jvm.exec) (hb : c.code = cc) (hKs : HK E s) (hH : HQ E K z w s H locs) {r : Option Nat} {a n : Nat} (hr : r = some a) (hKa : K a = some (26, n)) (hdg : decode cc pc = .ok (.arraylength, 1))
    (kk : W p l e R s m args below meth c H locs cells slots Q (F0 m (pc + 1) ls (.int (nI n) :: rest))) : W p l e R s m args below meth c H locs cells slots Q (F0 m pc ls (rv E r :: rest)) := by
  subst hr
  exact va_alen (ws := [(E.2.1 + a, .inl (E.2.2.1 26, n, .inr (.inr (.inr (.inr (fun j => (aR w a j).map (fun b => E.2.1 + b)))))))]) hexec hb hKs.1 (one_P (hH.1 a _ hKa)) 0 6 rfl rfl rfl hdg kk
theorem hw_alen27 (hexec : p.tables.exec = Jvm.exec) (hb : c.code = cc) (hKs : HK E s) (hH : HQ E K z w s H locs) {r : Option Nat} {a n : Nat} (hr : r = some a) (hKa : K a = some (27, n)) (hdg : decode cc pc = .ok (.arraylength, 1))
    (kk : W p l e R s m args below meth c H locs cells slots Q (F0 m (pc + 1) ls (.int (nI n) :: rest))) : W p l e R s m args below meth c H locs cells slots Q (F0 m pc ls (rv E r :: rest)) := by
  subst hr
  exact va_alen (ws := [(E.2.1 + a, .inl (E.2.2.1 27, n, .inr (.inr (.inr (.inr (fun j => (aR w a j).map (fun b => E.2.1 + b)))))))]) hexec hb hKs.1 (one_P (hH.1 a _ hKa)) 0 7 rfl rfl rfl hdg kk
theorem hw_alen28 (hexec : p.tables.exec = Jvm.exec) (hb : c.code = cc) (hKs : HK E s) (hH : HQ E K z w s H locs) {r : Option Nat} {a n : Nat} (hr : r = some a) (hKa : K a = some (28, n)) (hdg : decode cc pc = .ok (.arraylength, 1))
    (kk : W p l e R s m args below meth c H locs cells slots Q (F0 m (pc + 1) ls (.int (nI n) :: rest))) : W p l e R s m args below meth c H locs cells slots Q (F0 m pc ls (rv E r :: rest)) := by
  subst hr
  exact va_alen (ws := [(E.2.1 + a, .inl (E.2.2.1 28, n, .inr (.inr (.inr (.inr (fun j => (aR w a j).map (fun b => E.2.1 + b)))))))]) hexec hb hKs.1 (one_P (hH.1 a _ hKa)) 0 8 rfl rfl rfl hdg kk
theorem hl_aload_n (hexec : p.tables.exec = Jvm.exec) (hb : c.code = cc) {k : Fin 4} {i : Nat} {x : Option Nat} (hdg : decode cc pc = .ok (.aload_n k, 1)) (hi : (k : Nat) = i) (hl : ls[i]? = some (.val (va_rf x)))
    (kk : W p l e R s m args below meth c H locs cells slots Q (F0 m (pc + 1) ls (va_rf x :: rest))) : W p l e R s m args below meth c H locs cells slots Q (F0 m pc ls rest) := by
  cases x with
  | none => exact lv_aload_nN hexec hb hdg hi hl kk
  | some a => exact lv_aload_n hexec hb hdg hi hl kk
theorem hl_aload (hexec : p.tables.exec = Jvm.exec) (hb : c.code = cc) {i : Nat} {x : Option Nat} (hdg : decode cc pc = .ok (.aload i, 2)) (hl : ls[i]? = some (.val (va_rf x)))
    (kk : W p l e R s m args below meth c H locs cells slots Q (F0 m (pc + 2) ls (va_rf x :: rest))) : W p l e R s m args below meth c H locs cells slots Q (F0 m pc ls rest) := by
  cases x with
  | none => exact lv_aloadN hexec hb hdg hl kk
  | some a => exact lv_aload hexec hb hdg hl kk
theorem hl_astore_n (hexec : p.tables.exec = Jvm.exec) (hb : c.code = cc) {k : Fin 4} {i nL : Nat} {x : Option Nat} {lv lv' : List (Nat × Value)} (hdg : decode cc pc = .ok (.astore_n k, 1)) (hi : (k : Nat) = i) (h : lv_has ls nL lv) (hn : i < nL) (hl : (i, va_rf x) :: lv.filter (fun q => !(q.1 == i) && !(q.1 + 1 == i && q.2.category == 2)) = lv')
    (kk : ∀ ls' : Array Slot, lv_has ls' nL lv' → W p l e R s m args below meth c H locs cells slots Q (F0 m (pc + 1) ls' rest)) : W p l e R s m args below meth c H locs cells slots Q (F0 m pc ls (va_rf x :: rest)) := by
  cases x with
  | none => exact lv_astore_nN hexec hb hdg hi h hn hl kk
  | some a => exact lv_astore_n hexec hb hdg hi h hn hl kk
theorem hl_astore (hexec : p.tables.exec = Jvm.exec) (hb : c.code = cc) {i nL : Nat} {x : Option Nat} {lv lv' : List (Nat × Value)} (hdg : decode cc pc = .ok (.astore i, 2)) (h : lv_has ls nL lv) (hn : i < nL) (hl : (i, va_rf x) :: lv.filter (fun q => !(q.1 == i) && !(q.1 + 1 == i && q.2.category == 2)) = lv')
    (kk : ∀ ls' : Array Slot, lv_has ls' nL lv' → W p l e R s m args below meth c H locs cells slots Q (F0 m (pc + 2) ls' rest)) : W p l e R s m args below meth c H locs cells slots Q (F0 m pc ls (va_rf x :: rest)) := by
  cases x with
  | none => exact lv_astoreN hexec hb hdg h hn hl kk
  | some a => exact lv_astore hexec hb hdg h hn hl kk
theorem hw_iret (hexec : p.tables.exec = Jvm.exec) (hb : c.code = cc) (hret : meth.sig.returnType = some .int) {v r : Int32} {w' : Wd} (hf : some (v, w) = some (r, w')) (hH : HQ E K z w s H locs) (hlocks : meth.locks = false) (hdg : decode cc pc = .ok (.ireturn, 1)) : W p l e R s m args below meth c H locs 0 0 (MQ below (QI E K z w' r) args s 0 0 (hA E)) (F0 m pc ls [.int v]) := by
  cases hf
  exact W.iret hexec hb hret (fun t ht hW => ⟨⟨v, (), rfl, rfl, by rw [ht]; exact hH.2.2, by rw [ht]; exact hH.1⟩, hH.2.1.F ht⟩) hH.2.1.2.2 hdg hlocks
theorem hw_zret (hexec : p.tables.exec = Jvm.exec) (hb : c.code = cc) (hret : meth.sig.returnType = some .boolean) {v : Int32} {b r : Bool} {w' : Wd} (hv : v = b2i b) (hf : some (b, w) = some (r, w')) (hH : HQ E K z w s H locs) (hlocks : meth.locks = false) (hdg : decode cc pc = .ok (.ireturn, 1)) : W p l e R s m args below meth c H locs 0 0 (MQ below (QI E K z w' (b2i r)) args s 0 0 (hA E)) (F0 m pc ls [.int v]) := by
  cases hf
  exact W.zret hexec hb hret (by rw [hv]; cases b <;> rfl) (fun t ht hW => ⟨⟨v, (), rfl, hv, by rw [ht]; exact hH.2.2, by rw [ht]; exact hH.1⟩, hH.2.1.F ht⟩) hH.2.1.2.2 hdg hlocks
theorem hw_lret (hexec : p.tables.exec = Jvm.exec) (hb : c.code = cc) (hret : meth.sig.returnType = some .long) {v r : Int64} {w' : Wd} (hf : some (v, w) = some (r, w')) (hH : HQ E K z w s H locs) (hlocks : meth.locks = false) (hdg : decode cc pc = .ok (.lreturn, 1)) : W p l e R s m args below meth c H locs 0 0 (MQ below (QL E K z w' r) args s 0 0 (hA E)) (F0 m pc ls [.long v]) := by
  cases hf
  exact W.lret hexec hb hret (fun t ht hW => ⟨⟨v, (), rfl, rfl, by rw [ht]; exact hH.2.2, by rw [ht]; exact hH.1⟩, hH.2.1.F ht⟩) hH.2.1.2.2 hdg hlocks
theorem hw_vret (hexec : p.tables.exec = Jvm.exec) (hb : c.code = cc) (hret : meth.sig.returnType = none) {w' : Wd} (hf : some w = some w') (hH : HQ E K z w s H locs) (hlocks : meth.locks = false) (hdg : decode cc pc = .ok (.return_, 1)) : W p l e R s m args below meth c H locs 0 0 (MQ below (QV E K z w') args s 0 0 (hA E)) (F0 m pc ls []) := by
  cases hf
  exact W.vret hexec hb hret (fun t ht hW => ⟨⟨(), rfl, trivial, by rw [ht]; exact hH.2.2, by rw [ht]; exact hH.1⟩, hH.2.1.F ht⟩) hH.2.1.2.2 hdg hlocks
theorem hcV_i (hexec : p.tables.exec = Jvm.exec) (hb : c.code = cc) {own : String} {nL : Nat} (hml : c.maxLocals = nL) (hown : s.vm.findClass own = some m.cls) (hts : ∀ w ∈ bt, w.before args s = true) (hKs : HK E s) (hT : HT E s s.heap) (hb0 : E.2.1 ≤ s.heap.size) (hH : HQ E K z w s H locs) {y : MethodName} {bytes : ByteArray} {maxL nn index : Nat} {ret : Option FieldType} {rm : Room} {As : List Value} {st0 : List Value} {r0 : Int32} {w' : Wd} {a ci : Nat} {C : String} {r : Option Nat} {q : vw_C} {fs : List Value}
    (hM : Met l y (Cond.code y bytes maxL ret :: bt) rm (va_Pc (rv E (some a) :: As) (HB E K w H.size)) (QI E K H.size w' r0) 0 0 (hA E)) (hG : GoodIn bt (wsV own index C y (Cond.code y bytes maxL ret :: bt))) (hd : y.cls = C ∧ y.cls ≠ "java/lang/invoke/MethodHandle" ∧ y.cls ≠ "java/lang/invoke/VarHandle" ∧ (parseMethodDescriptor y.desc).map (fun d => d.parameters.length) = some nn) (hR : rm.frames + 1 ≤ R.frames ∧ 8 + (maxL + 11) + rm.locals ≤ R.locals ∧ rm.cells = 0 ∧ rm.slots = 0) (hr : r = some a) (hKa : K a = some (ci, 0)) (hfs : rend E w (ci, 0) a = .inr (ci, fs)) (hc : vwCl[ci]? = some q) (hq : q.1 = C) (hsz : ls.size = nL) (hn : As.length = nn) (hrm : rc 8 rest) (hst : st0 = As.reverse ++ rv E r :: rest) (hdg : decode cc pc = .ok (.invokevirtual index, 3)) (hcs : cells + 0 ≤ R.cells ∧ slots + 0 ≤ R.slots) (kk : ∀ (H1 : Heap) (locs1 : List Loc), HQ E K z w' s H1 locs1 → W p l e R s m args below meth c H1 locs1 cells slots Q (F0 m (pc + 3) ls (.int r0 :: rest))) : W p l e R s m args below meth c H locs cells slots Q (F0 m pc ls st0) := by
  subst hr
  subst hst
  subst hq
  refine va_calli (va_runV (As := As) (rest := rest) ⟨hexec, hb, hml, hown, hts⟩ hM (cwV nn hts hG rfl hR.2.2.1 hR.2.2.2 hd ⟨hR.1, hR.2.1⟩) ⟨HB.blind, hH.1.recv hKs hKa hfs hc, HB.pre hKs hT hb0 hH⟩ rfl hn hsz rfl (lv_room hrm) hdg hcs) hH.2.1 (fun q _ h => h) (fun q h => h) (fun x u t H1 locs1 ht hvm hp hB hz hk hS => ?_)
  subst hp
  exact kk H1 locs1 ⟨by rw [← ht]; exact hB.2, hS, by rw [← ht]; exact hB.1.trans hH.2.2⟩
theorem hcN_i (hexec : p.tables.exec = Jvm.exec) (hb : c.code = cc) {own : String} {nL : Nat} (hml : c.maxLocals = nL) (hown : s.vm.findClass own = some m.cls) (hts : ∀ w ∈ bt, w.before args s = true) (hKs : HK E s) (hT : HT E s s.heap) (hb0 : E.2.1 ≤ s.heap.size) (hH : HQ E K z w s H locs) {y : MethodName} {bytes : ByteArray} {maxL nn index : Nat} {ret : Option FieldType} {rm : Room} {As : List Value} {st0 : List Value} {r0 : Int32} {w' : Wd} {a ci : Nat} {C host : String} {r : Option Nat} {q : vw_C} {fs : List Value}
    (hM : Met l y (Cond.code y bytes maxL ret :: bt) rm (va_Pc (rv E (some a) :: As) (HB E K w H.size)) (QI E K H.size w' r0) 0 0 (hA E)) (hl : Cond.methodLinkNest own index y host ∈ nb) (hin : Cond.instanceMethod y ∈ bt) (hse : Cond.selects C y y ∈ bt) (hini : Cond.initialized y.cls ∈ bt) (hco : Cond.code y bytes maxL ret ∈ bt) (hd : y.cls ≠ "java/lang/invoke/MethodHandle" ∧ y.cls ≠ "java/lang/invoke/VarHandle" ∧ (parseMethodDescriptor y.desc).map (fun d => d.parameters.length) = some nn) (hR : rm.frames + 1 ≤ R.frames ∧ 8 + (maxL + 11) + rm.locals ≤ R.locals ∧ rm.cells = 0 ∧ rm.slots = 0) (hr : r = some a) (hKa : K a = some (ci, 0)) (hfs : rend E w (ci, 0) a = .inr (ci, fs)) (hc : vwCl[ci]? = some q) (hq : q.1 = C) (hsz : ls.size = nL) (hn : As.length = nn) (hrm : rc 8 rest) (hst : st0 = As.reverse ++ rv E r :: rest) (hdg : decode cc pc = .ok (.invokevirtual index, 3)) (hcs : cells + 0 ≤ R.cells ∧ slots + 0 ≤ R.slots) (kk : ∀ (H1 : Heap) (locs1 : List Loc), HQ E K z w' s H1 locs1 → W p l e R s m args below meth c H1 locs1 cells slots Q (F0 m (pc + 3) ls (.int r0 :: rest))) : W p l e R s m args below meth c H locs cells slots Q (F0 m pc ls st0) := by
  subst hr
  subst hst
  subst hq
  refine va_calli (va_runVN (As := As) (rest := rest) ⟨hexec, hb, hml, hown, hts⟩ hM ⟨va_cnB nn hts (gC hco) rfl hR.2.2.1 hR.2.2.2 (hKs.2.1 _ hl) (hts _ hini) hd ⟨hR.1, hR.2.1⟩, hts _ hin, hts _ hse⟩ ⟨HB.blind, hH.1.recv hKs hKa hfs hc, HB.pre hKs hT hb0 hH⟩ rfl hn hsz rfl (lv_room hrm) hdg hcs) hH.2.1 (fun q _ h => h) (fun q h => h) (fun x u t H1 locs1 ht hvm hp hB hz hk hS => ?_)
  subst hp
  exact kk H1 locs1 ⟨by rw [← ht]; exact hB.2, hS, by rw [← ht]; exact hB.1.trans hH.2.2⟩
theorem hcS_i (hexec : p.tables.exec = Jvm.exec) (hb : c.code = cc) {own : String} {nL : Nat} (hml : c.maxLocals = nL) (hown : s.vm.findClass own = some m.cls) (hts : ∀ w ∈ bt, w.before args s = true) (hKs : HK E s) (hT : HT E s s.heap) (hb0 : E.2.1 ≤ s.heap.size) (hH : HQ E K z w s H locs) {y : MethodName} {bytes : ByteArray} {maxL nn index : Nat} {ret : Option FieldType} {rm : Room} {As : List Value} {st0 : List Value} {r0 : Int32} {w' : Wd}
    (hM : Met l y (Cond.code y bytes maxL ret :: bt) rm (va_Pc As (HB E K w H.size)) (QI E K H.size w' r0) 0 0 (hA E)) (hG : GoodIn bt (va_wsS own index y (Cond.code y bytes maxL ret :: bt))) (hd : y.cls ≠ "java/lang/invoke/MethodHandle" ∧ y.cls ≠ "java/lang/invoke/VarHandle" ∧ (parseMethodDescriptor y.desc).map (fun d => d.parameters.length) = some nn) (hR : rm.frames + 1 ≤ R.frames ∧ 8 + (maxL + 11) + rm.locals ≤ R.locals ∧ rm.cells = 0 ∧ rm.slots = 0) (hsz : ls.size = nL) (hn : As.length = nn) (hrm : rc 8 rest) (hst : st0 = As.reverse ++ rest) (hdg : decode cc pc = .ok (.invokestatic index, 3)) (hcs : cells + 0 ≤ R.cells ∧ slots + 0 ≤ R.slots) (kk : ∀ (H1 : Heap) (locs1 : List Loc), HQ E K z w' s H1 locs1 → W p l e R s m args below meth c H1 locs1 cells slots Q (F0 m (pc + 3) ls (.int r0 :: rest))) : W p l e R s m args below meth c H locs cells slots Q (F0 m pc ls st0) := by
  subst hst
  refine va_calli (va_runS (As := As) (rest := rest) ⟨hexec, hb, hml, hown, hts⟩ hM (va_cwS nn hts hG rfl hR.2.2.1 hR.2.2.2 hd ⟨hR.1, hR.2.1⟩) ⟨HB.blind, HB.pre hKs hT hb0 hH⟩ rfl hn hsz rfl (lv_room hrm) hdg hcs) hH.2.1 (fun q _ h => h) (fun q h => h) (fun x u t H1 locs1 ht hvm hp hB hz hk hS => ?_)
  subst hp
  exact kk H1 locs1 ⟨by rw [← ht]; exact hB.2, hS, by rw [← ht]; exact hB.1.trans hH.2.2⟩
theorem hcV_l (hexec : p.tables.exec = Jvm.exec) (hb : c.code = cc) {own : String} {nL : Nat} (hml : c.maxLocals = nL) (hown : s.vm.findClass own = some m.cls) (hts : ∀ w ∈ bt, w.before args s = true) (hKs : HK E s) (hT : HT E s s.heap) (hb0 : E.2.1 ≤ s.heap.size) (hH : HQ E K z w s H locs) {y : MethodName} {bytes : ByteArray} {maxL nn index : Nat} {ret : Option FieldType} {rm : Room} {As : List Value} {st0 : List Value} {r0 : Int64} {w' : Wd} {a ci : Nat} {C : String} {r : Option Nat} {q : vw_C} {fs : List Value}
    (hM : Met l y (Cond.code y bytes maxL ret :: bt) rm (va_Pc (rv E (some a) :: As) (HB E K w H.size)) (QL E K H.size w' r0) 0 0 (hA E)) (hG : GoodIn bt (wsV own index C y (Cond.code y bytes maxL ret :: bt))) (hd : y.cls = C ∧ y.cls ≠ "java/lang/invoke/MethodHandle" ∧ y.cls ≠ "java/lang/invoke/VarHandle" ∧ (parseMethodDescriptor y.desc).map (fun d => d.parameters.length) = some nn) (hR : rm.frames + 1 ≤ R.frames ∧ 8 + (maxL + 11) + rm.locals ≤ R.locals ∧ rm.cells = 0 ∧ rm.slots = 0) (hr : r = some a) (hKa : K a = some (ci, 0)) (hfs : rend E w (ci, 0) a = .inr (ci, fs)) (hc : vwCl[ci]? = some q) (hq : q.1 = C) (hsz : ls.size = nL) (hn : As.length = nn) (hrm : rc 8 rest) (hst : st0 = As.reverse ++ rv E r :: rest) (hdg : decode cc pc = .ok (.invokevirtual index, 3)) (hcs : cells + 0 ≤ R.cells ∧ slots + 0 ≤ R.slots) (kk : ∀ (H1 : Heap) (locs1 : List Loc), HQ E K z w' s H1 locs1 → W p l e R s m args below meth c H1 locs1 cells slots Q (F0 m (pc + 3) ls (.long r0 :: rest))) : W p l e R s m args below meth c H locs cells slots Q (F0 m pc ls st0) := by
  subst hr
  subst hst
  subst hq
  refine va_calll (va_runV (As := As) (rest := rest) ⟨hexec, hb, hml, hown, hts⟩ hM (cwV nn hts hG rfl hR.2.2.1 hR.2.2.2 hd ⟨hR.1, hR.2.1⟩) ⟨HB.blind, hH.1.recv hKs hKa hfs hc, HB.pre hKs hT hb0 hH⟩ rfl hn hsz rfl (lv_room hrm) hdg hcs) hH.2.1 (fun q _ h => h) (fun q h => h) (fun x u t H1 locs1 ht hvm hp hB hz hk hS => ?_)
  subst hp
  exact kk H1 locs1 ⟨by rw [← ht]; exact hB.2, hS, by rw [← ht]; exact hB.1.trans hH.2.2⟩
theorem hcN_l (hexec : p.tables.exec = Jvm.exec) (hb : c.code = cc) {own : String} {nL : Nat} (hml : c.maxLocals = nL) (hown : s.vm.findClass own = some m.cls) (hts : ∀ w ∈ bt, w.before args s = true) (hKs : HK E s) (hT : HT E s s.heap) (hb0 : E.2.1 ≤ s.heap.size) (hH : HQ E K z w s H locs) {y : MethodName} {bytes : ByteArray} {maxL nn index : Nat} {ret : Option FieldType} {rm : Room} {As : List Value} {st0 : List Value} {r0 : Int64} {w' : Wd} {a ci : Nat} {C host : String} {r : Option Nat} {q : vw_C} {fs : List Value}
    (hM : Met l y (Cond.code y bytes maxL ret :: bt) rm (va_Pc (rv E (some a) :: As) (HB E K w H.size)) (QL E K H.size w' r0) 0 0 (hA E)) (hl : Cond.methodLinkNest own index y host ∈ nb) (hin : Cond.instanceMethod y ∈ bt) (hse : Cond.selects C y y ∈ bt) (hini : Cond.initialized y.cls ∈ bt) (hco : Cond.code y bytes maxL ret ∈ bt) (hd : y.cls ≠ "java/lang/invoke/MethodHandle" ∧ y.cls ≠ "java/lang/invoke/VarHandle" ∧ (parseMethodDescriptor y.desc).map (fun d => d.parameters.length) = some nn) (hR : rm.frames + 1 ≤ R.frames ∧ 8 + (maxL + 11) + rm.locals ≤ R.locals ∧ rm.cells = 0 ∧ rm.slots = 0) (hr : r = some a) (hKa : K a = some (ci, 0)) (hfs : rend E w (ci, 0) a = .inr (ci, fs)) (hc : vwCl[ci]? = some q) (hq : q.1 = C) (hsz : ls.size = nL) (hn : As.length = nn) (hrm : rc 8 rest) (hst : st0 = As.reverse ++ rv E r :: rest) (hdg : decode cc pc = .ok (.invokevirtual index, 3)) (hcs : cells + 0 ≤ R.cells ∧ slots + 0 ≤ R.slots) (kk : ∀ (H1 : Heap) (locs1 : List Loc), HQ E K z w' s H1 locs1 → W p l e R s m args below meth c H1 locs1 cells slots Q (F0 m (pc + 3) ls (.long r0 :: rest))) : W p l e R s m args below meth c H locs cells slots Q (F0 m pc ls st0) := by
  subst hr
  subst hst
  subst hq
  refine va_calll (va_runVN (As := As) (rest := rest) ⟨hexec, hb, hml, hown, hts⟩ hM ⟨va_cnB nn hts (gC hco) rfl hR.2.2.1 hR.2.2.2 (hKs.2.1 _ hl) (hts _ hini) hd ⟨hR.1, hR.2.1⟩, hts _ hin, hts _ hse⟩ ⟨HB.blind, hH.1.recv hKs hKa hfs hc, HB.pre hKs hT hb0 hH⟩ rfl hn hsz rfl (lv_room hrm) hdg hcs) hH.2.1 (fun q _ h => h) (fun q h => h) (fun x u t H1 locs1 ht hvm hp hB hz hk hS => ?_)
  subst hp
  exact kk H1 locs1 ⟨by rw [← ht]; exact hB.2, hS, by rw [← ht]; exact hB.1.trans hH.2.2⟩
theorem hcS_l (hexec : p.tables.exec = Jvm.exec) (hb : c.code = cc) {own : String} {nL : Nat} (hml : c.maxLocals = nL) (hown : s.vm.findClass own = some m.cls) (hts : ∀ w ∈ bt, w.before args s = true) (hKs : HK E s) (hT : HT E s s.heap) (hb0 : E.2.1 ≤ s.heap.size) (hH : HQ E K z w s H locs) {y : MethodName} {bytes : ByteArray} {maxL nn index : Nat} {ret : Option FieldType} {rm : Room} {As : List Value} {st0 : List Value} {r0 : Int64} {w' : Wd}
    (hM : Met l y (Cond.code y bytes maxL ret :: bt) rm (va_Pc As (HB E K w H.size)) (QL E K H.size w' r0) 0 0 (hA E)) (hG : GoodIn bt (va_wsS own index y (Cond.code y bytes maxL ret :: bt))) (hd : y.cls ≠ "java/lang/invoke/MethodHandle" ∧ y.cls ≠ "java/lang/invoke/VarHandle" ∧ (parseMethodDescriptor y.desc).map (fun d => d.parameters.length) = some nn) (hR : rm.frames + 1 ≤ R.frames ∧ 8 + (maxL + 11) + rm.locals ≤ R.locals ∧ rm.cells = 0 ∧ rm.slots = 0) (hsz : ls.size = nL) (hn : As.length = nn) (hrm : rc 8 rest) (hst : st0 = As.reverse ++ rest) (hdg : decode cc pc = .ok (.invokestatic index, 3)) (hcs : cells + 0 ≤ R.cells ∧ slots + 0 ≤ R.slots) (kk : ∀ (H1 : Heap) (locs1 : List Loc), HQ E K z w' s H1 locs1 → W p l e R s m args below meth c H1 locs1 cells slots Q (F0 m (pc + 3) ls (.long r0 :: rest))) : W p l e R s m args below meth c H locs cells slots Q (F0 m pc ls st0) := by
  subst hst
  refine va_calll (va_runS (As := As) (rest := rest) ⟨hexec, hb, hml, hown, hts⟩ hM (va_cwS nn hts hG rfl hR.2.2.1 hR.2.2.2 hd ⟨hR.1, hR.2.1⟩) ⟨HB.blind, HB.pre hKs hT hb0 hH⟩ rfl hn hsz rfl (lv_room hrm) hdg hcs) hH.2.1 (fun q _ h => h) (fun q h => h) (fun x u t H1 locs1 ht hvm hp hB hz hk hS => ?_)
  subst hp
  exact kk H1 locs1 ⟨by rw [← ht]; exact hB.2, hS, by rw [← ht]; exact hB.1.trans hH.2.2⟩
theorem hcV_v (hexec : p.tables.exec = Jvm.exec) (hb : c.code = cc) {own : String} {nL : Nat} (hml : c.maxLocals = nL) (hown : s.vm.findClass own = some m.cls) (hts : ∀ w ∈ bt, w.before args s = true) (hKs : HK E s) (hT : HT E s s.heap) (hb0 : E.2.1 ≤ s.heap.size) (hH : HQ E K z w s H locs) {y : MethodName} {bytes : ByteArray} {maxL nn index : Nat} {ret : Option FieldType} {rm : Room} {As : List Value} {st0 : List Value}  {w' : Wd} {a ci : Nat} {C : String} {r : Option Nat} {q : vw_C} {fs : List Value}
    (hM : Met l y (Cond.code y bytes maxL ret :: bt) rm (va_Pc (rv E (some a) :: As) (HB E K w H.size)) (QV E K H.size w') 0 0 (hA E)) (hG : GoodIn bt (wsV own index C y (Cond.code y bytes maxL ret :: bt))) (hd : y.cls = C ∧ y.cls ≠ "java/lang/invoke/MethodHandle" ∧ y.cls ≠ "java/lang/invoke/VarHandle" ∧ (parseMethodDescriptor y.desc).map (fun d => d.parameters.length) = some nn) (hR : rm.frames + 1 ≤ R.frames ∧ 8 + (maxL + 11) + rm.locals ≤ R.locals ∧ rm.cells = 0 ∧ rm.slots = 0) (hr : r = some a) (hKa : K a = some (ci, 0)) (hfs : rend E w (ci, 0) a = .inr (ci, fs)) (hc : vwCl[ci]? = some q) (hq : q.1 = C) (hsz : ls.size = nL) (hn : As.length = nn) (hrm : rc 8 rest) (hst : st0 = As.reverse ++ rv E r :: rest) (hdg : decode cc pc = .ok (.invokevirtual index, 3)) (hcs : cells + 0 ≤ R.cells ∧ slots + 0 ≤ R.slots) (kk : ∀ (H1 : Heap) (locs1 : List Loc), HQ E K z w' s H1 locs1 → W p l e R s m args below meth c H1 locs1 cells slots Q (F0 m (pc + 3) ls rest)) : W p l e R s m args below meth c H locs cells slots Q (F0 m pc ls st0) := by
  subst hr
  subst hst
  subst hq
  refine va_callv (va_runV (As := As) (rest := rest) ⟨hexec, hb, hml, hown, hts⟩ hM (cwV nn hts hG rfl hR.2.2.1 hR.2.2.2 hd ⟨hR.1, hR.2.1⟩) ⟨HB.blind, hH.1.recv hKs hKa hfs hc, HB.pre hKs hT hb0 hH⟩ rfl hn hsz rfl (lv_room hrm) hdg hcs) hH.2.1 (fun q _ h => h) (fun q h => h) (fun u t H1 locs1 ht hvm hp hB hz hk hS => ?_)
  exact kk H1 locs1 ⟨by rw [← ht]; exact hB.2, hS, by rw [← ht]; exact hB.1.trans hH.2.2⟩
theorem hcN_v (hexec : p.tables.exec = Jvm.exec) (hb : c.code = cc) {own : String} {nL : Nat} (hml : c.maxLocals = nL) (hown : s.vm.findClass own = some m.cls) (hts : ∀ w ∈ bt, w.before args s = true) (hKs : HK E s) (hT : HT E s s.heap) (hb0 : E.2.1 ≤ s.heap.size) (hH : HQ E K z w s H locs) {y : MethodName} {bytes : ByteArray} {maxL nn index : Nat} {ret : Option FieldType} {rm : Room} {As : List Value} {st0 : List Value}  {w' : Wd} {a ci : Nat} {C host : String} {r : Option Nat} {q : vw_C} {fs : List Value}
    (hM : Met l y (Cond.code y bytes maxL ret :: bt) rm (va_Pc (rv E (some a) :: As) (HB E K w H.size)) (QV E K H.size w') 0 0 (hA E)) (hl : Cond.methodLinkNest own index y host ∈ nb) (hin : Cond.instanceMethod y ∈ bt) (hse : Cond.selects C y y ∈ bt) (hini : Cond.initialized y.cls ∈ bt) (hco : Cond.code y bytes maxL ret ∈ bt) (hd : y.cls ≠ "java/lang/invoke/MethodHandle" ∧ y.cls ≠ "java/lang/invoke/VarHandle" ∧ (parseMethodDescriptor y.desc).map (fun d => d.parameters.length) = some nn) (hR : rm.frames + 1 ≤ R.frames ∧ 8 + (maxL + 11) + rm.locals ≤ R.locals ∧ rm.cells = 0 ∧ rm.slots = 0) (hr : r = some a) (hKa : K a = some (ci, 0)) (hfs : rend E w (ci, 0) a = .inr (ci, fs)) (hc : vwCl[ci]? = some q) (hq : q.1 = C) (hsz : ls.size = nL) (hn : As.length = nn) (hrm : rc 8 rest) (hst : st0 = As.reverse ++ rv E r :: rest) (hdg : decode cc pc = .ok (.invokevirtual index, 3)) (hcs : cells + 0 ≤ R.cells ∧ slots + 0 ≤ R.slots) (kk : ∀ (H1 : Heap) (locs1 : List Loc), HQ E K z w' s H1 locs1 → W p l e R s m args below meth c H1 locs1 cells slots Q (F0 m (pc + 3) ls rest)) : W p l e R s m args below meth c H locs cells slots Q (F0 m pc ls st0) := by
  subst hr
  subst hst
  subst hq
  refine va_callv (va_runVN (As := As) (rest := rest) ⟨hexec, hb, hml, hown, hts⟩ hM ⟨va_cnB nn hts (gC hco) rfl hR.2.2.1 hR.2.2.2 (hKs.2.1 _ hl) (hts _ hini) hd ⟨hR.1, hR.2.1⟩, hts _ hin, hts _ hse⟩ ⟨HB.blind, hH.1.recv hKs hKa hfs hc, HB.pre hKs hT hb0 hH⟩ rfl hn hsz rfl (lv_room hrm) hdg hcs) hH.2.1 (fun q _ h => h) (fun q h => h) (fun u t H1 locs1 ht hvm hp hB hz hk hS => ?_)
  exact kk H1 locs1 ⟨by rw [← ht]; exact hB.2, hS, by rw [← ht]; exact hB.1.trans hH.2.2⟩
theorem hcS_v (hexec : p.tables.exec = Jvm.exec) (hb : c.code = cc) {own : String} {nL : Nat} (hml : c.maxLocals = nL) (hown : s.vm.findClass own = some m.cls) (hts : ∀ w ∈ bt, w.before args s = true) (hKs : HK E s) (hT : HT E s s.heap) (hb0 : E.2.1 ≤ s.heap.size) (hH : HQ E K z w s H locs) {y : MethodName} {bytes : ByteArray} {maxL nn index : Nat} {ret : Option FieldType} {rm : Room} {As : List Value} {st0 : List Value}  {w' : Wd}
    (hM : Met l y (Cond.code y bytes maxL ret :: bt) rm (va_Pc As (HB E K w H.size)) (QV E K H.size w') 0 0 (hA E)) (hG : GoodIn bt (va_wsS own index y (Cond.code y bytes maxL ret :: bt))) (hd : y.cls ≠ "java/lang/invoke/MethodHandle" ∧ y.cls ≠ "java/lang/invoke/VarHandle" ∧ (parseMethodDescriptor y.desc).map (fun d => d.parameters.length) = some nn) (hR : rm.frames + 1 ≤ R.frames ∧ 8 + (maxL + 11) + rm.locals ≤ R.locals ∧ rm.cells = 0 ∧ rm.slots = 0) (hsz : ls.size = nL) (hn : As.length = nn) (hrm : rc 8 rest) (hst : st0 = As.reverse ++ rest) (hdg : decode cc pc = .ok (.invokestatic index, 3)) (hcs : cells + 0 ≤ R.cells ∧ slots + 0 ≤ R.slots) (kk : ∀ (H1 : Heap) (locs1 : List Loc), HQ E K z w' s H1 locs1 → W p l e R s m args below meth c H1 locs1 cells slots Q (F0 m (pc + 3) ls rest)) : W p l e R s m args below meth c H locs cells slots Q (F0 m pc ls st0) := by
  subst hst
  refine va_callv (va_runS (As := As) (rest := rest) ⟨hexec, hb, hml, hown, hts⟩ hM (va_cwS nn hts hG rfl hR.2.2.1 hR.2.2.2 hd ⟨hR.1, hR.2.1⟩) ⟨HB.blind, HB.pre hKs hT hb0 hH⟩ rfl hn hsz rfl (lv_room hrm) hdg hcs) hH.2.1 (fun q _ h => h) (fun q h => h) (fun u t H1 locs1 ht hvm hp hB hz hk hS => ?_)
  exact kk H1 locs1 ⟨by rw [← ht]; exact hB.2, hS, by rw [← ht]; exact hB.1.trans hH.2.2⟩
theorem hcV_q (hexec : p.tables.exec = Jvm.exec) (hb : c.code = cc) {own : String} {nL : Nat} (hml : c.maxLocals = nL) (hown : s.vm.findClass own = some m.cls) (hts : ∀ w ∈ bt, w.before args s = true) (hKs : HK E s) (hT : HT E s s.heap) (hb0 : E.2.1 ≤ s.heap.size) (hH : HQ E K z w s H locs) {y : MethodName} {bytes : ByteArray} {maxL nn index : Nat} {ret : Option FieldType} {rm : Room} {As : List Value} {st0 : List Value} {r0 : Option Nat} {w' : Wd} {a ci : Nat} {C : String} {r : Option Nat} {q : vw_C} {fs : List Value}
    (hM : Met l y (Cond.code y bytes maxL ret :: bt) rm (va_Pc (rv E (some a) :: As) (HB E K w H.size)) (QR E K H.size w' r0) 0 0 (hA E)) (hG : GoodIn bt (wsV own index C y (Cond.code y bytes maxL ret :: bt))) (hd : y.cls = C ∧ y.cls ≠ "java/lang/invoke/MethodHandle" ∧ y.cls ≠ "java/lang/invoke/VarHandle" ∧ (parseMethodDescriptor y.desc).map (fun d => d.parameters.length) = some nn) (hR : rm.frames + 1 ≤ R.frames ∧ 8 + (maxL + 11) + rm.locals ≤ R.locals ∧ rm.cells = 0 ∧ rm.slots = 0) (hr : r = some a) (hKa : K a = some (ci, 0)) (hfs : rend E w (ci, 0) a = .inr (ci, fs)) (hc : vwCl[ci]? = some q) (hq : q.1 = C) (hsz : ls.size = nL) (hn : As.length = nn) (hrm : rc 8 rest) (hst : st0 = As.reverse ++ rv E r :: rest) (hdg : decode cc pc = .ok (.invokevirtual index, 3)) (hcs : cells + 0 ≤ R.cells ∧ slots + 0 ≤ R.slots) (kk : ∀ (H1 : Heap) (locs1 : List Loc), HQ E K z w' s H1 locs1 → W p l e R s m args below meth c H1 locs1 cells slots Q (F0 m (pc + 3) ls (rv E r0 :: rest))) : W p l e R s m args below meth c H locs cells slots Q (F0 m pc ls st0) := by
  subst hr
  subst hst
  subst hq
  refine va_callq (va_runV (As := As) (rest := rest) ⟨hexec, hb, hml, hown, hts⟩ hM (cwV nn hts hG rfl hR.2.2.1 hR.2.2.2 hd ⟨hR.1, hR.2.1⟩) ⟨HB.blind, hH.1.recv hKs hKa hfs hc, HB.pre hKs hT hb0 hH⟩ rfl hn hsz rfl (lv_room hrm) hdg hcs) hH.2.1 (fun q _ h => h) (fun q h => h) (fun x u t H1 locs1 ht hvm hp hB hz hk hS => ?_)
  subst hp
  exact kk H1 locs1 ⟨by rw [← ht]; exact hB.2, hS, by rw [← ht]; exact hB.1.trans hH.2.2⟩
theorem hcN_q (hexec : p.tables.exec = Jvm.exec) (hb : c.code = cc) {own : String} {nL : Nat} (hml : c.maxLocals = nL) (hown : s.vm.findClass own = some m.cls) (hts : ∀ w ∈ bt, w.before args s = true) (hKs : HK E s) (hT : HT E s s.heap) (hb0 : E.2.1 ≤ s.heap.size) (hH : HQ E K z w s H locs) {y : MethodName} {bytes : ByteArray} {maxL nn index : Nat} {ret : Option FieldType} {rm : Room} {As : List Value} {st0 : List Value} {r0 : Option Nat} {w' : Wd} {a ci : Nat} {C host : String} {r : Option Nat} {q : vw_C} {fs : List Value}
    (hM : Met l y (Cond.code y bytes maxL ret :: bt) rm (va_Pc (rv E (some a) :: As) (HB E K w H.size)) (QR E K H.size w' r0) 0 0 (hA E)) (hl : Cond.methodLinkNest own index y host ∈ nb) (hin : Cond.instanceMethod y ∈ bt) (hse : Cond.selects C y y ∈ bt) (hini : Cond.initialized y.cls ∈ bt) (hco : Cond.code y bytes maxL ret ∈ bt) (hd : y.cls ≠ "java/lang/invoke/MethodHandle" ∧ y.cls ≠ "java/lang/invoke/VarHandle" ∧ (parseMethodDescriptor y.desc).map (fun d => d.parameters.length) = some nn) (hR : rm.frames + 1 ≤ R.frames ∧ 8 + (maxL + 11) + rm.locals ≤ R.locals ∧ rm.cells = 0 ∧ rm.slots = 0) (hr : r = some a) (hKa : K a = some (ci, 0)) (hfs : rend E w (ci, 0) a = .inr (ci, fs)) (hc : vwCl[ci]? = some q) (hq : q.1 = C) (hsz : ls.size = nL) (hn : As.length = nn) (hrm : rc 8 rest) (hst : st0 = As.reverse ++ rv E r :: rest) (hdg : decode cc pc = .ok (.invokevirtual index, 3)) (hcs : cells + 0 ≤ R.cells ∧ slots + 0 ≤ R.slots) (kk : ∀ (H1 : Heap) (locs1 : List Loc), HQ E K z w' s H1 locs1 → W p l e R s m args below meth c H1 locs1 cells slots Q (F0 m (pc + 3) ls (rv E r0 :: rest))) : W p l e R s m args below meth c H locs cells slots Q (F0 m pc ls st0) := by
  subst hr
  subst hst
  subst hq
  refine va_callq (va_runVN (As := As) (rest := rest) ⟨hexec, hb, hml, hown, hts⟩ hM ⟨va_cnB nn hts (gC hco) rfl hR.2.2.1 hR.2.2.2 (hKs.2.1 _ hl) (hts _ hini) hd ⟨hR.1, hR.2.1⟩, hts _ hin, hts _ hse⟩ ⟨HB.blind, hH.1.recv hKs hKa hfs hc, HB.pre hKs hT hb0 hH⟩ rfl hn hsz rfl (lv_room hrm) hdg hcs) hH.2.1 (fun q _ h => h) (fun q h => h) (fun x u t H1 locs1 ht hvm hp hB hz hk hS => ?_)
  subst hp
  exact kk H1 locs1 ⟨by rw [← ht]; exact hB.2, hS, by rw [← ht]; exact hB.1.trans hH.2.2⟩
theorem hcS_q (hexec : p.tables.exec = Jvm.exec) (hb : c.code = cc) {own : String} {nL : Nat} (hml : c.maxLocals = nL) (hown : s.vm.findClass own = some m.cls) (hts : ∀ w ∈ bt, w.before args s = true) (hKs : HK E s) (hT : HT E s s.heap) (hb0 : E.2.1 ≤ s.heap.size) (hH : HQ E K z w s H locs) {y : MethodName} {bytes : ByteArray} {maxL nn index : Nat} {ret : Option FieldType} {rm : Room} {As : List Value} {st0 : List Value} {r0 : Option Nat} {w' : Wd}
    (hM : Met l y (Cond.code y bytes maxL ret :: bt) rm (va_Pc As (HB E K w H.size)) (QR E K H.size w' r0) 0 0 (hA E)) (hG : GoodIn bt (va_wsS own index y (Cond.code y bytes maxL ret :: bt))) (hd : y.cls ≠ "java/lang/invoke/MethodHandle" ∧ y.cls ≠ "java/lang/invoke/VarHandle" ∧ (parseMethodDescriptor y.desc).map (fun d => d.parameters.length) = some nn) (hR : rm.frames + 1 ≤ R.frames ∧ 8 + (maxL + 11) + rm.locals ≤ R.locals ∧ rm.cells = 0 ∧ rm.slots = 0) (hsz : ls.size = nL) (hn : As.length = nn) (hrm : rc 8 rest) (hst : st0 = As.reverse ++ rest) (hdg : decode cc pc = .ok (.invokestatic index, 3)) (hcs : cells + 0 ≤ R.cells ∧ slots + 0 ≤ R.slots) (kk : ∀ (H1 : Heap) (locs1 : List Loc), HQ E K z w' s H1 locs1 → W p l e R s m args below meth c H1 locs1 cells slots Q (F0 m (pc + 3) ls (rv E r0 :: rest))) : W p l e R s m args below meth c H locs cells slots Q (F0 m pc ls st0) := by
  subst hst
  refine va_callq (va_runS (As := As) (rest := rest) ⟨hexec, hb, hml, hown, hts⟩ hM (va_cwS nn hts hG rfl hR.2.2.1 hR.2.2.2 hd ⟨hR.1, hR.2.1⟩) ⟨HB.blind, HB.pre hKs hT hb0 hH⟩ rfl hn hsz rfl (lv_room hrm) hdg hcs) hH.2.1 (fun q _ h => h) (fun q h => h) (fun x u t H1 locs1 ht hvm hp hB hz hk hS => ?_)
  subst hp
  exact kk H1 locs1 ⟨by rw [← ht]; exact hB.2, hS, by rw [← ht]; exact hB.1.trans hH.2.2⟩
theorem hcV_t (hexec : p.tables.exec = Jvm.exec) (hb : c.code = cc) {own : String} {nL : Nat} (hml : c.maxLocals = nL) (hown : s.vm.findClass own = some m.cls) (hts : ∀ w ∈ bt, w.before args s = true) (hKs : HK E s) (hT : HT E s s.heap) (hb0 : E.2.1 ≤ s.heap.size) (hH : HQ E K z w s H locs) {y : MethodName} {bytes : ByteArray} {maxL nn index : Nat} {ret : Option FieldType} {rm : Room} {As : List Value} {st0 : List Value} {r0 : Option Nat} {w' : Wd} {a ci : Nat} {C : String} {r : Option Nat} {q : vw_C} {fs : List Value}
    (hM : Met l y (Cond.code y bytes maxL ret :: bt) rm (va_Pc (rv E (some a) :: As) (HB E K w H.size)) (QT E K H.size w' r0) 0 0 (hA E)) (hG : GoodIn bt (wsV own index C y (Cond.code y bytes maxL ret :: bt))) (hd : y.cls = C ∧ y.cls ≠ "java/lang/invoke/MethodHandle" ∧ y.cls ≠ "java/lang/invoke/VarHandle" ∧ (parseMethodDescriptor y.desc).map (fun d => d.parameters.length) = some nn) (hR : rm.frames + 1 ≤ R.frames ∧ 8 + (maxL + 11) + rm.locals ≤ R.locals ∧ rm.cells = 0 ∧ rm.slots = 0) (hr : r = some a) (hKa : K a = some (ci, 0)) (hfs : rend E w (ci, 0) a = .inr (ci, fs)) (hc : vwCl[ci]? = some q) (hq : q.1 = C) (hsz : ls.size = nL) (hn : As.length = nn) (hrm : rc 8 rest) (hst : st0 = As.reverse ++ rv E r :: rest) (hdg : decode cc pc = .ok (.invokevirtual index, 3)) (hcs : cells + 0 ≤ R.cells ∧ slots + 0 ≤ R.slots) (kk : ∀ (H1 : Heap) (locs1 : List Loc), HQ E K z w' s H1 locs1 → W p l e R s m args below meth c H1 locs1 cells slots Q (F0 m (pc + 3) ls (re E r0 :: rest))) : W p l e R s m args below meth c H locs cells slots Q (F0 m pc ls st0) := by
  subst hr
  subst hst
  subst hq
  refine va_calle (va_runV (As := As) (rest := rest) ⟨hexec, hb, hml, hown, hts⟩ hM (cwV nn hts hG rfl hR.2.2.1 hR.2.2.2 hd ⟨hR.1, hR.2.1⟩) ⟨HB.blind, hH.1.recv hKs hKa hfs hc, HB.pre hKs hT hb0 hH⟩ rfl hn hsz rfl (lv_room hrm) hdg hcs) hH.2.1 (fun q _ h => h) (fun q h => h) (fun x u t H1 locs1 ht hvm hp hB hz hk hS => ?_)
  subst hp
  exact kk H1 locs1 ⟨by rw [← ht]; exact hB.2, hS, by rw [← ht]; exact hB.1.trans hH.2.2⟩
theorem hcN_t (hexec : p.tables.exec = Jvm.exec) (hb : c.code = cc) {own : String} {nL : Nat} (hml : c.maxLocals = nL) (hown : s.vm.findClass own = some m.cls) (hts : ∀ w ∈ bt, w.before args s = true) (hKs : HK E s) (hT : HT E s s.heap) (hb0 : E.2.1 ≤ s.heap.size) (hH : HQ E K z w s H locs) {y : MethodName} {bytes : ByteArray} {maxL nn index : Nat} {ret : Option FieldType} {rm : Room} {As : List Value} {st0 : List Value} {r0 : Option Nat} {w' : Wd} {a ci : Nat} {C host : String} {r : Option Nat} {q : vw_C} {fs : List Value}
    (hM : Met l y (Cond.code y bytes maxL ret :: bt) rm (va_Pc (rv E (some a) :: As) (HB E K w H.size)) (QT E K H.size w' r0) 0 0 (hA E)) (hl : Cond.methodLinkNest own index y host ∈ nb) (hin : Cond.instanceMethod y ∈ bt) (hse : Cond.selects C y y ∈ bt) (hini : Cond.initialized y.cls ∈ bt) (hco : Cond.code y bytes maxL ret ∈ bt) (hd : y.cls ≠ "java/lang/invoke/MethodHandle" ∧ y.cls ≠ "java/lang/invoke/VarHandle" ∧ (parseMethodDescriptor y.desc).map (fun d => d.parameters.length) = some nn) (hR : rm.frames + 1 ≤ R.frames ∧ 8 + (maxL + 11) + rm.locals ≤ R.locals ∧ rm.cells = 0 ∧ rm.slots = 0) (hr : r = some a) (hKa : K a = some (ci, 0)) (hfs : rend E w (ci, 0) a = .inr (ci, fs)) (hc : vwCl[ci]? = some q) (hq : q.1 = C) (hsz : ls.size = nL) (hn : As.length = nn) (hrm : rc 8 rest) (hst : st0 = As.reverse ++ rv E r :: rest) (hdg : decode cc pc = .ok (.invokevirtual index, 3)) (hcs : cells + 0 ≤ R.cells ∧ slots + 0 ≤ R.slots) (kk : ∀ (H1 : Heap) (locs1 : List Loc), HQ E K z w' s H1 locs1 → W p l e R s m args below meth c H1 locs1 cells slots Q (F0 m (pc + 3) ls (re E r0 :: rest))) : W p l e R s m args below meth c H locs cells slots Q (F0 m pc ls st0) := by
  subst hr
  subst hst
  subst hq
  refine va_calle (va_runVN (As := As) (rest := rest) ⟨hexec, hb, hml, hown, hts⟩ hM ⟨va_cnB nn hts (gC hco) rfl hR.2.2.1 hR.2.2.2 (hKs.2.1 _ hl) (hts _ hini) hd ⟨hR.1, hR.2.1⟩, hts _ hin, hts _ hse⟩ ⟨HB.blind, hH.1.recv hKs hKa hfs hc, HB.pre hKs hT hb0 hH⟩ rfl hn hsz rfl (lv_room hrm) hdg hcs) hH.2.1 (fun q _ h => h) (fun q h => h) (fun x u t H1 locs1 ht hvm hp hB hz hk hS => ?_)
  subst hp
  exact kk H1 locs1 ⟨by rw [← ht]; exact hB.2, hS, by rw [← ht]; exact hB.1.trans hH.2.2⟩
theorem hcS_t (hexec : p.tables.exec = Jvm.exec) (hb : c.code = cc) {own : String} {nL : Nat} (hml : c.maxLocals = nL) (hown : s.vm.findClass own = some m.cls) (hts : ∀ w ∈ bt, w.before args s = true) (hKs : HK E s) (hT : HT E s s.heap) (hb0 : E.2.1 ≤ s.heap.size) (hH : HQ E K z w s H locs) {y : MethodName} {bytes : ByteArray} {maxL nn index : Nat} {ret : Option FieldType} {rm : Room} {As : List Value} {st0 : List Value} {r0 : Option Nat} {w' : Wd}
    (hM : Met l y (Cond.code y bytes maxL ret :: bt) rm (va_Pc As (HB E K w H.size)) (QT E K H.size w' r0) 0 0 (hA E)) (hG : GoodIn bt (va_wsS own index y (Cond.code y bytes maxL ret :: bt))) (hd : y.cls ≠ "java/lang/invoke/MethodHandle" ∧ y.cls ≠ "java/lang/invoke/VarHandle" ∧ (parseMethodDescriptor y.desc).map (fun d => d.parameters.length) = some nn) (hR : rm.frames + 1 ≤ R.frames ∧ 8 + (maxL + 11) + rm.locals ≤ R.locals ∧ rm.cells = 0 ∧ rm.slots = 0) (hsz : ls.size = nL) (hn : As.length = nn) (hrm : rc 8 rest) (hst : st0 = As.reverse ++ rest) (hdg : decode cc pc = .ok (.invokestatic index, 3)) (hcs : cells + 0 ≤ R.cells ∧ slots + 0 ≤ R.slots) (kk : ∀ (H1 : Heap) (locs1 : List Loc), HQ E K z w' s H1 locs1 → W p l e R s m args below meth c H1 locs1 cells slots Q (F0 m (pc + 3) ls (re E r0 :: rest))) : W p l e R s m args below meth c H locs cells slots Q (F0 m pc ls st0) := by
  subst hst
  refine va_calle (va_runS (As := As) (rest := rest) ⟨hexec, hb, hml, hown, hts⟩ hM (va_cwS nn hts hG rfl hR.2.2.1 hR.2.2.2 hd ⟨hR.1, hR.2.1⟩) ⟨HB.blind, HB.pre hKs hT hb0 hH⟩ rfl hn hsz rfl (lv_room hrm) hdg hcs) hH.2.1 (fun q _ h => h) (fun q h => h) (fun x u t H1 locs1 ht hvm hp hB hz hk hS => ?_)
  subst hp
  exact kk H1 locs1 ⟨by rw [← ht]; exact hB.2, hS, by rw [← ht]; exact hB.1.trans hH.2.2⟩
end HW
/-! Small things that the walks use. -/
def fu : Nat := 1000000
def ushr (x y : Int32) : Int32 := (x.toUInt32 >>> (y.toUInt32 &&& Int32.toUInt32 31)).toInt32
def lsl (x : Int64) (y : Int32) : Int64 := x <<< (y.toInt64 &&& 63)
def lsr (x : Int64) (y : Int32) : Int64 := (x.toUInt64 >>> (y.toInt64.toUInt64 &&& Int64.toUInt64 63)).toInt64
def CX (p : Program) (l : Launch) (e : Env) (s : State) (m : MethodId) (args : Array Value) (meth : Method) (c : Code) (cc : ByteArray) (nL : Nat) (own : String) (ret : Option FieldType) (E : Ev) : Prop :=
  p.tables.exec = Jvm.exec ∧ c.code = cc ∧ c.maxLocals = nL ∧ s.vm.findClass own = some m.cls ∧ (∀ w ∈ bt, w.before args s = true) ∧ HK E s ∧ HT E s s.heap ∧ E.2.1 ≤ s.heap.size ∧ meth.locks = false ∧ meth.sig.returnType = ret
theorem lg_len_nil : (lg_sl []).length = 0 := rfl
theorem lg_len_i {x : Int32} {l : List Value} : (lg_sl (.int x :: l)).length = (lg_sl l).length + 1 := by simp [lg_sl, Value.category]
theorem lg_len_j {x : Int64} {l : List Value} : (lg_sl (.long x :: l)).length = (lg_sl l).length + 2 := by simp [lg_sl, Value.category]
theorem lg_len_q {x : Option Nat} {l : List Value} : (lg_sl (va_rf x :: l)).length = (lg_sl l).length + 1 := by cases x <;> simp [lg_sl, Value.category, va_rf]
theorem cat_i {x : Int32} : (Value.int x).category = 1 := rfl
theorem cat_j {x : Int64} : (Value.long x).category = 2 := rfl
theorem cat_q {x : Option Nat} : (va_rf x).category = 1 := by cases x <;> rfl
section HW2
variable {p : Program} {l : Launch} {e : Env} {R : Room} {s : State} {m : MethodId} {args : Array Value} {below : List Frame} {meth : Method} {c : Code} {H : Heap} {locs : List Loc} {cells slots : Nat} {Q : State → Prop}
variable {cc : ByteArray} {pc : Nat} {ls : Array Slot} {rest : List Value} {E : Ev} {K : Kd} {z : Nat} {w : Wd}
theorem hl_tabOut (hexec : p.tables.exec = Jvm.exec) (hb : c.code = cc) {dflt lo hi : Int} {offs : Array Int} {len : Nat} {x a b : Int32} {tgt : Nat} (hdg : decode cc pc = .ok (.tableswitch dflt lo hi offs, len)) (h : x < a ∨ b < x) (ha : a.toInt = lo) (hb2 : b.toInt = hi) (ht : (pc : Int) + dflt = (tgt : Int))
    (k : W p l e R s m args below meth c H locs cells slots Q (F0 m tgt ls rest)) : W p l e R s m args below meth c H locs cells slots Q (F0 m pc ls (.int x :: rest)) :=
  lv_tableOut hexec hb hdg (by rw [← ha, ← hb2]; exact h.imp Int32.lt_iff_toInt_lt.mp Int32.lt_iff_toInt_lt.mp) ht k
theorem hl_tabIn (hexec : p.tables.exec = Jvm.exec) (hb : c.code = cc) {dflt lo hi : Int} {offs : Array Int} {len : Nat} {x a : Int32} {off : Int} {tgt : Nat} (hdg : decode cc pc = .ok (.tableswitch dflt lo hi offs, len)) (h : x = a) (h1 : ¬ a.toInt < lo) (h2 : ¬ hi < a.toInt) (ho : offs[(a.toInt - lo).toNat]? = some off) (ht : (pc : Int) + off = (tgt : Int))
    (k : W p l e R s m args below meth c H locs cells slots Q (F0 m tgt ls rest)) : W p l e R s m args below meth c H locs cells slots Q (F0 m pc ls (.int x :: rest)) := by
  subst h
  exact lv_tableIn hexec hb hdg h1 h2 ho ht k
theorem hw_qret (hexec : p.tables.exec = Jvm.exec) (hb : c.code = cc) {rt : FieldType} (hret : meth.sig.returnType = some rt) (hrt : (∃ n, rt = .object n) ∨ ∃ t, rt = .array t) {v r : Option Nat} {w' : Wd} (hf : some (v, w) = some (r, w')) (hH : HQ E K z w s H locs) (hlocks : meth.locks = false) (hdg : decode cc pc = .ok (.areturn, 1)) : W p l e R s m args below meth c H locs 0 0 (MQ below (QR E K z w' r) args s 0 0 (hA E)) (F0 m pc ls [rv E v]) := by
  cases hf
  exact W.aret hexec hb hret hrt (by cases v with | none => exact Or.inl rfl | some a => exact Or.inr ⟨_, rfl⟩) (fun t ht hW => ⟨⟨v.map (fun a => E.2.1 + a), (), rfl, rfl, by rw [ht]; exact hH.2.2, by rw [ht]; exact hH.1⟩, hH.2.1.F ht⟩) hH.2.1.2.2 hdg hlocks
end HW2
/-! Calls between nest mates of static methods; System.arraycopy; the tokens; throws. -/
def tA (w : Wd) (a : Nat) (g : Nat → Int32) : Wd := (w.1, w.2.1, w.2.2.1, w.2.2.2.1, (fun x => if x = a then g else w.2.2.2.2.1 x), w.2.2.2.2.2)
theorem rend_tA {E : Ev} {w : Wd} {q : Nat × Nat} {a b : Nat} {g : Nat → Int32} (h : b ≠ a) : rend E (tA w a g) q b = rend E w q b := by
  apply rend_congr <;> intros <;> simp [wI, wR, wJ, wZ, aI, aJ, aR, aD, tA, h]
theorem aI_tA {w : Wd} {a : Nat} {g : Nat → Int32} : aI (tA w a g) a = g := by simp [aI, tA]
def tkB (r : Option Nat) : Bool := match r with
  | none => true
  | some k => decide (k < 21)
theorem tkB_inj {E : Ev} {U : State} {H : Heap} (hT : HT E U H) {x y : Option Nat} (hx : tkB x = true) (hy : tkB y = true) : x.map E.2.2.2.1 = y.map E.2.2.2.1 ↔ x = y := by
  cases x <;> cases y <;> simp [tkB] at *
  exact ⟨fun h => hT.1.2 _ _ hx hy h, fun h => by rw [h]⟩
theorem nb_use {w : Cond} {args : Array Value} {s : State} (hw : w ∈ nb) (h : va_Nw w s) : w.before args s = true := by
  have h2 := (List.mem_filter.mp hw).2
  cases w <;> first | exact va_Nw.use rfl h | exact absurd h2 (by simp [isNest])
def exN (k : Nat) : String := match k with
  | 1 => "java/lang/IndexOutOfBoundsException"
  | 2 => "java/lang/IllegalArgumentException"
  | 3 => "java/lang/IllegalStateException"
  | _ => "java/util/NoSuchElementException"
def xk {α β : Type} (q : (α ⊕ Nat) × Wd) (k : α → Option ((β ⊕ Nat) × Wd)) : Option ((β ⊕ Nat) × Wd) := match q.1 with
  | .inl v => k v
  | .inr x => some (.inr x, q.2)
theorem xk_inl {α β : Type} {q : (α ⊕ Nat) × Wd} {k : α → Option ((β ⊕ Nat) × Wd)} {v : α} (h : q.1 = .inl v) : xk q k = k v := by unfold xk; rw [h]
theorem xk_inr {α β : Type} {q : (α ⊕ Nat) × Wd} {k : α → Option ((β ⊕ Nat) × Wd)} {v : Nat} (h : q.1 = .inr v) : xk q k = some (.inr v, q.2) := by unfold xk; rw [h]
abbrev XI (E : Ev) (K : Kd) (z : Nat) (w : Wd) (r : Int32 ⊕ Nat) : Array Value → State → Outcome → State → Prop := va_Qi (fun x (_ : Unit) => r = .inl x) (fun _ t => HE E K w z t) (hA E)
abbrev XZ (E : Ev) (K : Kd) (z : Nat) (w : Wd) (r : Bool ⊕ Nat) : Array Value → State → Outcome → State → Prop := va_Qi (fun x (b : Bool) => x = b2i b ∧ r = .inl b) (fun _ t => HE E K w z t) (hA E)
abbrev XV (E : Ev) (K : Kd) (z : Nat) (w : Wd) (r : Unit ⊕ Nat) : Array Value → State → Outcome → State → Prop := va_Qv (fun (_ : Unit) => r = .inl ()) (fun _ t => HE E K w z t) (hA E)
abbrev XX {α : Type} (E : Ev) (K : Kd) (w : Wd) (r : α ⊕ Nat) : String → State → State → Prop := vx_X (fun (c : Nat) => r = .inr c) (fun Es c t => Es = exN c ∧ HP E K w t.heap) (hA E)
section HW3
variable {p : Program} {l : Launch} {e : Env} {R : Room} {s : State} {m : MethodId} {args : Array Value} {below : List Frame} {meth : Method} {c : Code} {H : Heap} {locs : List Loc} {cells slots : Nat} {Q : State → Prop}
variable {cc : ByteArray} {pc : Nat} {ls : Array Slot} {rest : List Value} {E : Ev} {K : Kd} {z : Nat} {w : Wd}
theorem hw_copy (hexec : p.tables.exec = Jvm.exec) (hb : c.code = cc) (hml : c.maxLocals = ls.size) {own : String} {index : Nat} (hown : s.vm.findClass own = some m.cls) (hlink : (Cond.methodLink own index arraycopyName).before args s = true) (hnat : (Cond.native arraycopyName).before args s = true) (hstat : (Cond.static arraycopyName).before args s = true) (hini : (Cond.initialized "java/lang/System").before args s = true) (hKs : HK E s) (hH : HQ E K z w s H locs) {r0 r1 : Option Nat} {a0 a1 n0 n1 : Nat} (hr0 : r0 = some a0) (hK0 : K a0 = some (20, n0)) (hr1 : r1 = some a1) (hK1 : K a1 = some (20, n1)) {sp dp n : Int32} (h1 : ¬ sp < 0) (h2 : ¬ dp < 0) (h3 : ¬ n < 0) (h4 : sp.toNatClampNeg + n.toNatClampNeg ≤ n0) (h5 : dp.toNatClampNeg + n.toNatClampNeg ≤ n1) (hframes : 1 ≤ R.frames) (hlocals : (rest.map fun v => v.category).sum + (nativeFrameWords "java/lang/System" "arraycopy" 5 + 11) ≤ R.locals) (hdg : decode cc pc = .ok (.invokestatic index, 3))
    (kk : ∀ (H1 : Heap) (locs1 : List Loc), HQ E K z (tA w a1 (va_cpy (aI w a0) (aI w a1) sp.toNatClampNeg dp.toNatClampNeg n.toNatClampNeg)) s H1 locs1 → W p l e R s m args below meth c H1 locs1 cells slots Q (F0 m (pc + 3) ls rest)) : W p l e R s m args below meth c H locs cells slots Q (F0 m pc ls (.int n :: .int dp :: rv E r1 :: .int sp :: rv E r0 :: rest)) := by
  subst hr0
  subst hr1
  have nn : ∀ x : Int32, ¬ x < 0 → x.toInt = (x.toNatClampNeg : Int) := by
    intro x hx
    have hx0 : (0 : Int) ≤ x.toInt := by
      have := Int32.not_lt.mp hx
      simpa using Int32.le_iff_toInt_le.mp this
    show x.toInt = ((x.toInt.toNat : Nat) : Int)
    omega
  intro T hT X
  have hc0 : H[E.2.1 + a0]? = some (vp_cell (E.2.2.1 20) (n0, .inl (aI w a0))) := hH.1 a0 _ hK0
  have hc1 : H[E.2.1 + a1]? = some (vp_cell (E.2.2.1 20) (n1, .inl (aI w a1))) := hH.1 a1 _ hK1
  obtain ⟨-, k0, hk0, cm0, hkk0⟩ := (hKs.1.2 0 _ rfl).1 n0 (fun j => .int (aI w a0 j))
  obtain ⟨-, k1, hk1, cm1, hkk1⟩ := (hKs.1.2 0 _ rfl).1 n1 (fun j => .int (aI w a1 j))
  obtain ⟨vm', X', step⟩ := X.arraycopy hexec hown hlink hnat hstat hini (src := E.2.1 + a0) (dst := E.2.1 + a1) (cs := vp_cell (E.2.2.1 20) (n0, .inl (aI w a0))) (cd := vp_cell (E.2.2.1 20) (n1, .inl (aI w a1))) (srcPos := sp) (destPos := dp) (n := n) (by rw [hT]; exact hc0) (by rw [hT]; exact hc1)
    (fun _ h => by cases h) (fun _ h => by cases h) (fun h => by cases h) (fun h => by cases h) hk0 hk1 hkk0 hkk1 (by simp [refKind]) h1 h2 h3
    (by rw [nn sp h1, nn n h3]; show ¬ _ > ((arrV (E.2.2.1 20) n0 (fun j => .int (aI w a0 j))).slots.size : Int); rw [arrV_size]; omega)
    (by rw [nn dp h2, nn n h3]; show ¬ _ > ((arrV (E.2.2.1 20) n1 (fun j => .int (aI w a1 j))).slots.size : Int); rw [arrV_size]; omega)
    (fun vm₁ _ i hi => by
      have e : (vp_cell (E.2.2.1 20) (n0, .inl (aI w a0))).slots.getD (sp.toNatClampNeg + i) .null = .int (aI w a0 (sp.toNatClampNeg + i)) := by
        show (arrV (E.2.2.1 20) n0 (fun j => .int (aI w a0 j))).slots.getD _ _ = _
        rw [Array.getD_eq_getD_getElem?, arrV_read _ _ (by omega)]
        rfl
      refine ⟨?_, ?_⟩
      · rw [e]; rfl
      · rw [e]; exact trivial)
    (g := F0 m pc ls (.int n :: .int dp :: rv E (some a1) :: .int sp :: rv E (some a0) :: rest)) rfl (by rw [hml]) (rest := rest) rfl (by rw [hb]; exact hdg) hframes (by show 2 * 0 + _ + _ ≤ _; omega)
  have e1 : copied (vp_cell (E.2.2.1 20) (n0, .inl (aI w a0))) (vp_cell (E.2.2.1 20) (n1, .inl (aI w a1))) sp dp n = vp_cell (E.2.2.1 20) (n1, .inl (va_cpy (aI w a0) (aI w a1) sp.toNatClampNeg dp.toNatClampNeg n.toNatClampNeg)) := va_copied (fun x => .int x) (E.2.2.1 20) (E.2.2.1 20) (aI w a0) (aI w a1) h4
  rw [e1] at X' step
  have hl : E.2.1 + a1 < H.size := (Array.getElem?_eq_some_iff.mp hc1).1
  have oq : ∀ (x : Cell) (q : Nat), q ≠ E.2.1 + a1 → (H.setIfInBounds (E.2.1 + a1) x)[q]? = H[q]? := fun x q hq => by simp [Array.getElem?_setIfInBounds, Ne.symm hq]
  obtain ⟨t, b1, b2⟩ := kk _ _ ⟨hH.1.put (H1 := H.setIfInBounds (E.2.1 + a1) (vp_cell (E.2.2.1 20) (n1, .inl (va_cpy (aI w a0) (aI w a1) sp.toNatClampNeg dp.toNatClampNeg n.toNatClampNeg)))) hK1 (oq _) (by
      show (H.setIfInBounds (E.2.1 + a1) _)[E.2.1 + a1]? = some (vp_cell (E.2.2.1 20) (n1, .inl (aI (tA w a1 _) a1)))
      rw [aI_tA]
      simp [Array.getElem?_setIfInBounds, hl]) (fun b y hb2 => rend_tA hb2), ⟨by simp; exact hH.2.1.1, fun q g1 g2 => by
      rw [oq _ q (fun e => g2 (by rw [e]; exact Nat.le_add_right _ _))]
      exact hH.2.1.2.1 q g1 g2, fun q hq => by
      rcases List.mem_append.mp hq with h | h
      · exact hH.2.1.2.2 q h
      · obtain ⟨z, -, hz⟩ := List.mem_map.mp h
        rw [← hz]
        exact Nat.le_add_right _ _⟩, by simp; exact hH.2.2⟩ _ (by rw [← hT]; rfl) X'
  exact ⟨t, step t b1, b2⟩
theorem hw_copyB (hexec : p.tables.exec = Jvm.exec) (hb : c.code = cc) (hml : c.maxLocals = ls.size) {own : String} {index : Nat} (hown : s.vm.findClass own = some m.cls) (hlink : (Cond.methodLink own index arraycopyName).before args s = true) (hnat : (Cond.native arraycopyName).before args s = true) (hstat : (Cond.static arraycopyName).before args s = true) (hini : (Cond.initialized "java/lang/System").before args s = true) (hKs : HK E s) (hH : HQ E K z w s H locs) {r0 r1 : Option Nat} {a0 a1 n0 n1 : Nat} (hr0 : r0 = some a0) (hK0 : K a0 = some (21, n0)) (hr1 : r1 = some a1) (hK1 : K a1 = some (21, n1)) {sp dp n : Int32} (h1 : ¬ sp < 0) (h2 : ¬ dp < 0) (h3 : ¬ n < 0) (h4 : sp.toNatClampNeg + n.toNatClampNeg ≤ n0) (h5 : dp.toNatClampNeg + n.toNatClampNeg ≤ n1) (h6 : ∀ i, i < n.toNatClampNeg → fits .byte (.int (aI w a0 (sp.toNatClampNeg + i))) = true) (hframes : 1 ≤ R.frames) (hlocals : (rest.map fun v => v.category).sum + (nativeFrameWords "java/lang/System" "arraycopy" 5 + 11) ≤ R.locals) (hdg : decode cc pc = .ok (.invokestatic index, 3))
    (kk : ∀ (H1 : Heap) (locs1 : List Loc), HQ E K z (tA w a1 (va_cpy (aI w a0) (aI w a1) sp.toNatClampNeg dp.toNatClampNeg n.toNatClampNeg)) s H1 locs1 → W p l e R s m args below meth c H1 locs1 cells slots Q (F0 m (pc + 3) ls rest)) : W p l e R s m args below meth c H locs cells slots Q (F0 m pc ls (.int n :: .int dp :: rv E r1 :: .int sp :: rv E r0 :: rest)) := by
  subst hr0
  subst hr1
  have nn : ∀ x : Int32, ¬ x < 0 → x.toInt = (x.toNatClampNeg : Int) := by
    intro x hx
    have hx0 : (0 : Int) ≤ x.toInt := by
      have := Int32.not_lt.mp hx
      simpa using Int32.le_iff_toInt_le.mp this
    show x.toInt = ((x.toInt.toNat : Nat) : Int)
    omega
  intro T hT X
  have hc0 : H[E.2.1 + a0]? = some (vp_cell (E.2.2.1 21) (n0, .inl (aI w a0))) := hH.1 a0 _ hK0
  have hc1 : H[E.2.1 + a1]? = some (vp_cell (E.2.2.1 21) (n1, .inl (aI w a1))) := hH.1 a1 _ hK1
  obtain ⟨-, k0, hk0, cm0, hkk0⟩ := (hKs.1.2 1 _ rfl).1 n0 (fun j => .int (aI w a0 j))
  obtain ⟨-, k1, hk1, cm1, hkk1⟩ := (hKs.1.2 1 _ rfl).1 n1 (fun j => .int (aI w a1 j))
  obtain ⟨vm', X', step⟩ := X.arraycopy hexec hown hlink hnat hstat hini (src := E.2.1 + a0) (dst := E.2.1 + a1) (cs := vp_cell (E.2.2.1 21) (n0, .inl (aI w a0))) (cd := vp_cell (E.2.2.1 21) (n1, .inl (aI w a1))) (srcPos := sp) (destPos := dp) (n := n) (by rw [hT]; exact hc0) (by rw [hT]; exact hc1)
    (fun _ h => by cases h) (fun _ h => by cases h) (fun h => by cases h) (fun h => by cases h) hk0 hk1 hkk0 hkk1 (by simp [refKind]) h1 h2 h3
    (by rw [nn sp h1, nn n h3]; show ¬ _ > ((arrV (E.2.2.1 21) n0 (fun j => .int (aI w a0 j))).slots.size : Int); rw [arrV_size]; omega)
    (by rw [nn dp h2, nn n h3]; show ¬ _ > ((arrV (E.2.2.1 21) n1 (fun j => .int (aI w a1 j))).slots.size : Int); rw [arrV_size]; omega)
    (fun vm₁ _ i hi => by
      have e : (vp_cell (E.2.2.1 21) (n0, .inl (aI w a0))).slots.getD (sp.toNatClampNeg + i) .null = .int (aI w a0 (sp.toNatClampNeg + i)) := by
        show (arrV (E.2.2.1 21) n0 (fun j => .int (aI w a0 j))).slots.getD _ _ = _
        rw [Array.getD_eq_getD_getElem?, arrV_read _ _ (by omega)]
        rfl
      refine ⟨?_, ?_⟩
      · rw [e]; exact h6 i hi
      · rw [e]; exact trivial)
    (g := F0 m pc ls (.int n :: .int dp :: rv E (some a1) :: .int sp :: rv E (some a0) :: rest)) rfl (by rw [hml]) (rest := rest) rfl (by rw [hb]; exact hdg) hframes (by show 2 * 0 + _ + _ ≤ _; omega)
  have e1 : copied (vp_cell (E.2.2.1 21) (n0, .inl (aI w a0))) (vp_cell (E.2.2.1 21) (n1, .inl (aI w a1))) sp dp n = vp_cell (E.2.2.1 21) (n1, .inl (va_cpy (aI w a0) (aI w a1) sp.toNatClampNeg dp.toNatClampNeg n.toNatClampNeg)) := va_copied (fun x => .int x) (E.2.2.1 21) (E.2.2.1 21) (aI w a0) (aI w a1) h4
  rw [e1] at X' step
  have hl : E.2.1 + a1 < H.size := (Array.getElem?_eq_some_iff.mp hc1).1
  have oq : ∀ (x : Cell) (q : Nat), q ≠ E.2.1 + a1 → (H.setIfInBounds (E.2.1 + a1) x)[q]? = H[q]? := fun x q hq => by simp [Array.getElem?_setIfInBounds, Ne.symm hq]
  obtain ⟨t, b1, b2⟩ := kk _ _ ⟨hH.1.put (H1 := H.setIfInBounds (E.2.1 + a1) (vp_cell (E.2.2.1 21) (n1, .inl (va_cpy (aI w a0) (aI w a1) sp.toNatClampNeg dp.toNatClampNeg n.toNatClampNeg)))) hK1 (oq _) (by
      show (H.setIfInBounds (E.2.1 + a1) _)[E.2.1 + a1]? = some (vp_cell (E.2.2.1 21) (n1, .inl (aI (tA w a1 _) a1)))
      rw [aI_tA]
      simp [Array.getElem?_setIfInBounds, hl]) (fun b y hb2 => rend_tA hb2), ⟨by simp; exact hH.2.1.1, fun q g1 g2 => by
      rw [oq _ q (fun e => g2 (by rw [e]; exact Nat.le_add_right _ _))]
      exact hH.2.1.2.1 q g1 g2, fun q hq => by
      rcases List.mem_append.mp hq with h | h
      · exact hH.2.1.2.2 q h
      · obtain ⟨z, -, hz⟩ := List.mem_map.mp h
        rw [← hz]
        exact Nat.le_add_right _ _⟩, by simp; exact hH.2.2⟩ _ (by rw [← hT]; rfl) X'
  exact ⟨t, step t b1, b2⟩
theorem hw_tok (hexec : p.tables.exec = Jvm.exec) (hb : c.code = cc) (k : Nat) (hk : k < 21) {own : String} {index : Nat} (hts : ∀ w ∈ bt, w.before args s = true) (hown : s.vm.findClass own = some m.cls) (hT : HT E s s.heap) (hH : HQ E K z w s H locs) (hlink : Cond.fieldLink own index "CourtCalendar$Token" (tokN.getD k "") "LCourtCalendar$Token;" ∈ bt) (hdg : decode cc pc = .ok (.getstatic index, 3))
    (kk : W p l e R s m args below meth c H locs cells slots Q (F0 m (pc + 3) ls (re E (some k) :: rest))) : W p l e R s m args below meth c H locs cells slots Q (F0 m pc ls rest) := va_gets hexec hb (hT.1.1 k hk).1 hH.2.1 hown (hts _ hlink) (fun _ h => h) hdg kk
theorem hw_all (hexec : p.tables.exec = Jvm.exec) (hb : c.code = cc) {own : String} {index : Nat} (hts : ∀ w ∈ bt, w.before args s = true) (hown : s.vm.findClass own = some m.cls) (hT : HT E s s.heap) (hH : HQ E K z w s H locs) (hlink : Cond.fieldLink own index "CourtCalendar$Token" "ALL" "[LCourtCalendar$Token;" ∈ bt) (hdg : decode cc pc = .ok (.getstatic index, 3))
    (kk : W p l e R s m args below meth c H locs cells slots Q (F0 m (pc + 3) ls (.ref (E.2.2.2.1 100) :: rest))) : W p l e R s m args below meth c H locs cells slots Q (F0 m pc ls rest) := va_gets hexec hb hT.2.2.1.1 hH.2.1 hown (hts _ hlink) (fun _ h => h) hdg kk
theorem hw_sw (hexec : p.tables.exec = Jvm.exec) (hb : c.code = cc) {own : String} {index : Nat} (hts : ∀ w ∈ bt, w.before args s = true) (hown : s.vm.findClass own = some m.cls) (hT : HT E s s.heap) (hH : HQ E K z w s H locs) (hlink : Cond.fieldLink own index "CourtCalendar$1" "$SwitchMap$CourtCalendar$Token" "[I" ∈ bt) (hdg : decode cc pc = .ok (.getstatic index, 3))
    (kk : W p l e R s m args below meth c H locs cells slots Q (F0 m (pc + 3) ls (.ref (E.2.2.2.1 101) :: rest))) : W p l e R s m args below meth c H locs cells slots Q (F0 m pc ls rest) := va_gets hexec hb hT.2.2.2.1.1 hH.2.1 hown (hts _ hlink) (fun _ h => h) hdg kk
theorem hw_alllen (hexec : p.tables.exec = Jvm.exec) (hb : c.code = cc) (hT : HT E s s.heap) (hH : HQ E K z w s H locs) (hdg : decode cc pc = .ok (.arraylength, 1))
    (kk : W p l e R s m args below meth c H locs cells slots Q (F0 m (pc + 1) ls (.int 21 :: rest))) : W p l e R s m args below meth c H locs cells slots Q (F0 m pc ls (.ref (E.2.2.2.1 100) :: rest)) := va_tlen hexec hb hT.2.2.1.2 hH.2.1 rfl hdg kk
theorem hw_allat (hexec : p.tables.exec = Jvm.exec) (hb : c.code = cc) (hT : HT E s s.heap) (hH : HQ E K z w s H locs) {i : Int32} {j : Nat} (hj : ixa i 21 = some j) (hdg : decode cc pc = .ok (.aaload, 1))
    (kk : W p l e R s m args below meth c H locs cells slots Q (F0 m (pc + 1) ls (re E (some j) :: rest))) : W p l e R s m args below meth c H locs cells slots Q (F0 m pc ls (.int i :: .ref (E.2.2.2.1 100) :: rest)) := by
  obtain ⟨h1, rfl⟩ := ixa_some hj
  exact vb_tq hexec hb hT.2.2.1.2 hH.2.1 h1 rfl hdg kk
theorem hw_swat (hexec : p.tables.exec = Jvm.exec) (hb : c.code = cc) (hT : HT E s s.heap) (hH : HQ E K z w s H locs) {i : Int32} {j : Nat} (hj : ixa i 21 = some j) (hdg : decode cc pc = .ok (.iaload, 1))
    (kk : W p l e R s m args below meth c H locs cells slots Q (F0 m (pc + 1) ls (.int (swm.getD j 0) :: rest))) : W p l e R s m args below meth c H locs cells slots Q (F0 m pc ls (.int i :: .ref (E.2.2.2.1 101) :: rest)) := by
  obtain ⟨h1, rfl⟩ := ixa_some hj
  exact va_ti hexec hb hT.2.2.2.1.2 hH.2.1 h1 rfl hdg kk
theorem hw_packed (hexec : p.tables.exec = Jvm.exec) (hb : c.code = cc) {own : String} {index k : Nat} (hk : k < 21) (hts : ∀ w ∈ bt, w.before args s = true) (hown : s.vm.findClass own = some m.cls) (hT : HT E s s.heap) (hH : HQ E K z w s H locs) (hlink : Cond.fieldLink own index "CourtCalendar$Token" "packed" "J" ∈ bt) (hdg : decode cc pc = .ok (.getfield index, 3))
    (kk : W p l e R s m args below meth c H locs cells slots Q (F0 m (pc + 3) ls (.long (tokP.getD k 0) :: rest))) : W p l e R s m args below meth c H locs cells slots Q (F0 m pc ls (re E (some k) :: rest)) := vk_getf hexec hb (hT.2.1 k hk) hH.2.1 hown (hts _ hlink) (fun _ h => h) hdg kk
theorem hw_acmp_ne (hexec : p.tables.exec = Jvm.exec) (hb : c.code = cc) (hT : HT E s s.heap) {rx ry : Option Nat} (h1 : tkB rx = true) (h2 : tkB ry = true) {off : Int} {tgt : Nat} (hdg : decode cc pc = .ok (.if_acmp .ne off, 3)) (ht : (pc : Int) + off = (tgt : Int))
    (kt : ¬ rx = ry → W p l e R s m args below meth c H locs cells slots Q (F0 m tgt ls rest)) (kf : rx = ry → W p l e R s m args below meth c H locs cells slots Q (F0 m (pc + 3) ls rest)) : W p l e R s m args below meth c H locs cells slots Q (F0 m pc ls (re E ry :: re E rx :: rest)) :=
  lv_acmp_ne hexec hb hdg ht (fun h => kt (fun q => h ((tkB_inj hT h1 h2).mpr q))) (fun h => kf ((tkB_inj hT h1 h2).mp h))
theorem hw_acmp_eq (hexec : p.tables.exec = Jvm.exec) (hb : c.code = cc) (hT : HT E s s.heap) {rx ry : Option Nat} (h1 : tkB rx = true) (h2 : tkB ry = true) {off : Int} {tgt : Nat} (hdg : decode cc pc = .ok (.if_acmp .eq off, 3)) (ht : (pc : Int) + off = (tgt : Int))
    (kt : rx = ry → W p l e R s m args below meth c H locs cells slots Q (F0 m tgt ls rest)) (kf : ¬ rx = ry → W p l e R s m args below meth c H locs cells slots Q (F0 m (pc + 3) ls rest)) : W p l e R s m args below meth c H locs cells slots Q (F0 m pc ls (re E ry :: re E rx :: rest)) :=
  lv_acmp_eq hexec hb hdg ht (fun h => kt ((tkB_inj hT h1 h2).mp h)) (fun h => kf (fun q => h ((tkB_inj hT h1 h2).mpr q)))
theorem hw_tret (hexec : p.tables.exec = Jvm.exec) (hb : c.code = cc) {rt : FieldType} (hret : meth.sig.returnType = some rt) (hrt : (∃ n, rt = .object n) ∨ ∃ t, rt = .array t) {v r : Option Nat} {w' : Wd} (hf : some (v, w) = some (r, w')) (hH : HQ E K z w s H locs) (hlocks : meth.locks = false) (hdg : decode cc pc = .ok (.areturn, 1)) : W p l e R s m args below meth c H locs 0 0 (MQ below (QT E K z w' r) args s 0 0 (hA E)) (F0 m pc ls [re E v]) := by
  cases hf
  exact W.aret hexec hb hret hrt (by cases v with | none => exact Or.inl rfl | some a => exact Or.inr ⟨_, rfl⟩) (fun t ht hW => ⟨⟨v, (), rfl, rfl, by rw [ht]; exact hH.2.2, by rw [ht]; exact hH.1⟩, hH.2.1.F ht⟩) hH.2.1.2.2 hdg hlocks
-- BYPROGRAM
theorem hcM_i (hexec : p.tables.exec = Jvm.exec) (hb : c.code = cc) {own : String} {nL : Nat} (hml : c.maxLocals = nL) (hown : s.vm.findClass own = some m.cls) (hts : ∀ w ∈ bt, w.before args s = true) (hKs : HK E s) (hT : HT E s s.heap) (hb0 : E.2.1 ≤ s.heap.size) (hH : HQ E K z w s H locs) {y : MethodName} {bytes : ByteArray} {maxL nn index : Nat} {ret : Option FieldType} {rm : Room} {As : List Value} {st0 : List Value} {r0 : Int32} {w' : Wd} {host : String}
    (hM : Met l y (Cond.code y bytes maxL ret :: bt) rm (va_Pc As (HB E K w H.size)) (QI E K H.size w' r0) 0 0 (hA E)) (hl : Cond.methodLinkNest own index y host ∈ nb) (hse : Cond.static y ∈ bt) (hini : Cond.initialized y.cls ∈ bt) (hco : Cond.code y bytes maxL ret ∈ bt) (hd : y.cls ≠ "java/lang/invoke/MethodHandle" ∧ y.cls ≠ "java/lang/invoke/VarHandle" ∧ (parseMethodDescriptor y.desc).map (fun d => d.parameters.length) = some nn) (hR : rm.frames + 1 ≤ R.frames ∧ 8 + (maxL + 11) + rm.locals ≤ R.locals ∧ rm.cells = 0 ∧ rm.slots = 0) (hsz : ls.size = nL) (hn : As.length = nn) (hrm : rc 8 rest) (hst : st0 = As.reverse ++ rest) (hdg : decode cc pc = .ok (.invokestatic index, 3)) (hcs : cells + 0 ≤ R.cells ∧ slots + 0 ≤ R.slots) (kk : ∀ (H1 : Heap) (locs1 : List Loc), HQ E K z w' s H1 locs1 → W p l e R s m args below meth c H1 locs1 cells slots Q (F0 m (pc + 3) ls (.int r0 :: rest))) : W p l e R s m args below meth c H locs cells slots Q (F0 m pc ls st0) := by
  subst hst
  refine va_calli (va_runSN (As := As) (rest := rest) ⟨hexec, hb, hml, hown, hts⟩ hM ⟨va_cnB nn hts (gC hco) rfl hR.2.2.1 hR.2.2.2 (hKs.2.1 _ hl) (hts _ hini) hd ⟨hR.1, hR.2.1⟩, hts _ hse, trivial⟩ ⟨HB.blind, HB.pre hKs hT hb0 hH⟩ rfl hn hsz rfl (lv_room hrm) hdg hcs) hH.2.1 (fun q _ h => h) (fun q h => h) (fun x u t H1 locs1 ht hvm hp hB hz hk hS => ?_)
  subst hp
  exact kk H1 locs1 ⟨by rw [← ht]; exact hB.2, hS, by rw [← ht]; exact hB.1.trans hH.2.2⟩
theorem hcM_l (hexec : p.tables.exec = Jvm.exec) (hb : c.code = cc) {own : String} {nL : Nat} (hml : c.maxLocals = nL) (hown : s.vm.findClass own = some m.cls) (hts : ∀ w ∈ bt, w.before args s = true) (hKs : HK E s) (hT : HT E s s.heap) (hb0 : E.2.1 ≤ s.heap.size) (hH : HQ E K z w s H locs) {y : MethodName} {bytes : ByteArray} {maxL nn index : Nat} {ret : Option FieldType} {rm : Room} {As : List Value} {st0 : List Value} {r0 : Int64} {w' : Wd} {host : String}
    (hM : Met l y (Cond.code y bytes maxL ret :: bt) rm (va_Pc As (HB E K w H.size)) (QL E K H.size w' r0) 0 0 (hA E)) (hl : Cond.methodLinkNest own index y host ∈ nb) (hse : Cond.static y ∈ bt) (hini : Cond.initialized y.cls ∈ bt) (hco : Cond.code y bytes maxL ret ∈ bt) (hd : y.cls ≠ "java/lang/invoke/MethodHandle" ∧ y.cls ≠ "java/lang/invoke/VarHandle" ∧ (parseMethodDescriptor y.desc).map (fun d => d.parameters.length) = some nn) (hR : rm.frames + 1 ≤ R.frames ∧ 8 + (maxL + 11) + rm.locals ≤ R.locals ∧ rm.cells = 0 ∧ rm.slots = 0) (hsz : ls.size = nL) (hn : As.length = nn) (hrm : rc 8 rest) (hst : st0 = As.reverse ++ rest) (hdg : decode cc pc = .ok (.invokestatic index, 3)) (hcs : cells + 0 ≤ R.cells ∧ slots + 0 ≤ R.slots) (kk : ∀ (H1 : Heap) (locs1 : List Loc), HQ E K z w' s H1 locs1 → W p l e R s m args below meth c H1 locs1 cells slots Q (F0 m (pc + 3) ls (.long r0 :: rest))) : W p l e R s m args below meth c H locs cells slots Q (F0 m pc ls st0) := by
  subst hst
  refine va_calll (va_runSN (As := As) (rest := rest) ⟨hexec, hb, hml, hown, hts⟩ hM ⟨va_cnB nn hts (gC hco) rfl hR.2.2.1 hR.2.2.2 (hKs.2.1 _ hl) (hts _ hini) hd ⟨hR.1, hR.2.1⟩, hts _ hse, trivial⟩ ⟨HB.blind, HB.pre hKs hT hb0 hH⟩ rfl hn hsz rfl (lv_room hrm) hdg hcs) hH.2.1 (fun q _ h => h) (fun q h => h) (fun x u t H1 locs1 ht hvm hp hB hz hk hS => ?_)
  subst hp
  exact kk H1 locs1 ⟨by rw [← ht]; exact hB.2, hS, by rw [← ht]; exact hB.1.trans hH.2.2⟩
theorem hcM_v (hexec : p.tables.exec = Jvm.exec) (hb : c.code = cc) {own : String} {nL : Nat} (hml : c.maxLocals = nL) (hown : s.vm.findClass own = some m.cls) (hts : ∀ w ∈ bt, w.before args s = true) (hKs : HK E s) (hT : HT E s s.heap) (hb0 : E.2.1 ≤ s.heap.size) (hH : HQ E K z w s H locs) {y : MethodName} {bytes : ByteArray} {maxL nn index : Nat} {ret : Option FieldType} {rm : Room} {As : List Value} {st0 : List Value}  {w' : Wd} {host : String}
    (hM : Met l y (Cond.code y bytes maxL ret :: bt) rm (va_Pc As (HB E K w H.size)) (QV E K H.size w') 0 0 (hA E)) (hl : Cond.methodLinkNest own index y host ∈ nb) (hse : Cond.static y ∈ bt) (hini : Cond.initialized y.cls ∈ bt) (hco : Cond.code y bytes maxL ret ∈ bt) (hd : y.cls ≠ "java/lang/invoke/MethodHandle" ∧ y.cls ≠ "java/lang/invoke/VarHandle" ∧ (parseMethodDescriptor y.desc).map (fun d => d.parameters.length) = some nn) (hR : rm.frames + 1 ≤ R.frames ∧ 8 + (maxL + 11) + rm.locals ≤ R.locals ∧ rm.cells = 0 ∧ rm.slots = 0) (hsz : ls.size = nL) (hn : As.length = nn) (hrm : rc 8 rest) (hst : st0 = As.reverse ++ rest) (hdg : decode cc pc = .ok (.invokestatic index, 3)) (hcs : cells + 0 ≤ R.cells ∧ slots + 0 ≤ R.slots) (kk : ∀ (H1 : Heap) (locs1 : List Loc), HQ E K z w' s H1 locs1 → W p l e R s m args below meth c H1 locs1 cells slots Q (F0 m (pc + 3) ls rest)) : W p l e R s m args below meth c H locs cells slots Q (F0 m pc ls st0) := by
  subst hst
  refine va_callv (va_runSN (As := As) (rest := rest) ⟨hexec, hb, hml, hown, hts⟩ hM ⟨va_cnB nn hts (gC hco) rfl hR.2.2.1 hR.2.2.2 (hKs.2.1 _ hl) (hts _ hini) hd ⟨hR.1, hR.2.1⟩, hts _ hse, trivial⟩ ⟨HB.blind, HB.pre hKs hT hb0 hH⟩ rfl hn hsz rfl (lv_room hrm) hdg hcs) hH.2.1 (fun q _ h => h) (fun q h => h) (fun u t H1 locs1 ht hvm hp hB hz hk hS => ?_)
  exact kk H1 locs1 ⟨by rw [← ht]; exact hB.2, hS, by rw [← ht]; exact hB.1.trans hH.2.2⟩
theorem hx_iret (hexec : p.tables.exec = Jvm.exec) (hb : c.code = cc) {mc ms : Nat} (hcm : cells ≤ mc) (hsm : slots ≤ ms) (hret : meth.sig.returnType = some .int) {v : Int32} {r : Int32 ⊕ Nat} {w' : Wd} (hf : some (.inl v, w) = some (r, w')) (hH : HQ E K z w s H locs) (hlocks : meth.locks = false) (hdg : decode cc pc = .ok (.ireturn, 1)) : W p l e R s m args below meth c H locs cells slots (vx_MQ below (XI E K z w' r) (XX E K w' r) args s mc ms (hA E)) (F0 m pc ls [.int v]) := by
  cases hf
  exact vx_ret (W.widen hcm hsm (W.iret hexec hb hret (fun t ht hW => ⟨⟨v, (), rfl, rfl, by rw [ht]; exact hH.2.2, by rw [ht]; exact hH.1⟩, hH.2.1.F ht⟩) hH.2.1.2.2 hdg hlocks))
theorem hx_zret (hexec : p.tables.exec = Jvm.exec) (hb : c.code = cc) {mc ms : Nat} (hcm : cells ≤ mc) (hsm : slots ≤ ms) (hret : meth.sig.returnType = some .boolean) {v : Int32} {b : Bool} {r : Bool ⊕ Nat} {w' : Wd} (hv : v = b2i b) (hf : some (.inl b, w) = some (r, w')) (hH : HQ E K z w s H locs) (hlocks : meth.locks = false) (hdg : decode cc pc = .ok (.ireturn, 1)) : W p l e R s m args below meth c H locs cells slots (vx_MQ below (XZ E K z w' r) (XX E K w' r) args s mc ms (hA E)) (F0 m pc ls [.int v]) := by
  cases hf
  exact vx_ret (W.widen hcm hsm (W.zret hexec hb hret (by rw [hv]; cases b <;> rfl) (fun t ht hW => ⟨⟨v, b, rfl, ⟨hv, rfl⟩, by rw [ht]; exact hH.2.2, by rw [ht]; exact hH.1⟩, hH.2.1.F ht⟩) hH.2.1.2.2 hdg hlocks))
theorem hx_vret (hexec : p.tables.exec = Jvm.exec) (hb : c.code = cc) {mc ms : Nat} (hcm : cells ≤ mc) (hsm : slots ≤ ms) (hret : meth.sig.returnType = none) {r : Unit ⊕ Nat} {w' : Wd} (hf : some (.inl (), w) = some (r, w')) (hH : HQ E K z w s H locs) (hlocks : meth.locks = false) (hdg : decode cc pc = .ok (.return_, 1)) : W p l e R s m args below meth c H locs cells slots (vx_MQ below (XV E K z w' r) (XX E K w' r) args s mc ms (hA E)) (F0 m pc ls []) := by
  cases hf
  exact vx_ret (W.widen hcm hsm (W.vret hexec hb hret (fun t ht hW => ⟨⟨(), rfl, rfl, by rw [ht]; exact hH.2.2, by rw [ht]; exact hH.1⟩, hH.2.1.F ht⟩) hH.2.1.2.2 hdg hlocks))
theorem hx_throw {α : Type} (hexec : p.tables.exec = Jvm.exec) (hb : c.code = cc) (hl : l.stackTraces = false) {own cls : String} {ik ic code mc ms nL : Nat} {Qc : Array Value → State → Outcome → State → Prop} (hml : c.maxLocals = nL) (hsz : ls.size = nL) (hown : s.vm.findClass own = some m.cls) (hts : ∀ w ∈ bt, w.before args s = true) (hKs : HK E s) (hT : HT E s s.heap) (hb0 : E.2.1 ≤ s.heap.size) (hH : HQ E K z w s H locs) (hcls : Bundle.fit cls = true) (hcode : exN code = cls) (hk : Cond.classLink own ik cls ∈ bt) (hini : Cond.initialized cls ∈ bt) (hat : ∀ w ∈ vx_at0 own ic cls ["java/lang/RuntimeException", "java/lang/Exception"], w ∈ bt ∨ w ∈ nb)
    (d0 : decode cc pc = .ok (.new ik, 3)) (d3 : decode cc (pc + 3) = .ok (.dup, 1)) (d4 : decode cc (pc + 4) = .ok (.invokespecial ic, 3)) (d7 : decode cc (pc + 7) = .ok (.athrow, 1)) (hout : ∀ x ∈ c.exceptionTable.toList, False) (hRf : 5 < R.frames) (hrm : rc 8 rest) (hRl : 8 + 81 ≤ R.locals) (hRc : cells + 1 ≤ R.cells) (hRs : slots + 6 ≤ R.slots) (hlocks : meth.locks = false) {r : α ⊕ Nat} {w' : Wd} (hf : some ((.inr code : α ⊕ Nat), w) = some (r, w')) (hcm : cells + 1 ≤ mc) (hsm : slots + 6 ≤ ms) :
    W p l e R s m args below meth c H locs cells slots (vx_MQ below Qc (XX E K w' r) args s mc ms (hA E)) (F0 m pc ls rest) := by
  cases hf
  refine vx_throw0 (names := ["java/lang/RuntimeException", "java/lang/Exception"]) (A := hA E) hexec hb hl hown hcls (by decide) (hts _ hk) (hts _ hini) (fun w h => (hat w h).elim (hts w) (fun q => nb_use q (hKs.2.1 w q))) (fun w h => ?_) hT.2.2.2.2.2.1 hT.2.2.2.2.2.2.1 hH.2.1 (hsz.trans hml.symm) d0 d3 d4 d7 (fun x hx => absurd (hout x hx) id) hRf (by have h9 : (rest.map fun v => v.category).sum ≤ 8 := hrm; have h8 : (["java/lang/RuntimeException", "java/lang/Exception"] : List String).length = 2 := rfl; omega) hRc hRs hlocks (fun t hvm hz hk => ?_) hH.2.1.2.2 hcm hsm
  · have g : ∀ w, w ∈ bt ∨ w ∈ nb → vx_ot w = true := fun w h => by
      rcases h with h | h
      · simp [vx_ot, bt_good h]
      · have h2 := (List.mem_filter.mp h).2
        cases w <;> first | rfl | exact absurd h2 (by simp [isNest])
    rcases List.mem_cons.mp h with rfl | h
    · exact g _ (Or.inl hk)
    · rcases List.mem_cons.mp h with rfl | h
      · exact g _ (Or.inl hini)
      · exact g _ (hat w h)
  · exact ⟨code, rfl, ⟨hcode.symm, fun a q hq => (hH.1 a q hq).kept (hk _ (hH.1 a q hq).lt)⟩, Nat.le_trans hH.2.1.1 hz, fun q h1 h2 => (hk q (Nat.lt_of_lt_of_le h1 hH.2.1.1)).trans (hH.2.1.2.1 q h1 h2)⟩
theorem hxV_i {α : Type} (hexec : p.tables.exec = Jvm.exec) (hb : c.code = cc) {own : String} {nL : Nat} (hml : c.maxLocals = nL) (hown : s.vm.findClass own = some m.cls) (hts : ∀ w ∈ bt, w.before args s = true) (hKs : HK E s) (hT : HT E s s.heap) (hb0 : E.2.1 ≤ s.heap.size) (hH : HQ E K z w s H locs) {y : MethodName} {bytes : ByteArray} {maxL nn index kc ks mc ms : Nat} {ret : Option FieldType} {rm : Room} {As : List Value} {st0 : List Value} {ρ : Int32 ⊕ Nat} {w1 w' : Wd} {r' : α ⊕ Nat} {Qc : Array Value → State → Outcome → State → Prop} {a ci : Nat} {C : String} {r : Option Nat} {q : vw_C} {fs : List Value}
    (hM : vx_Met l y (Cond.code y bytes maxL ret :: bt) rm (va_Pc (rv E (some a) :: As) (HB E K w H.size)) (XI E K H.size w1 ρ) (XX E K w1 ρ) kc ks (hA E)) (hG : GoodIn bt (wsV own index C y (Cond.code y bytes maxL ret :: bt))) (hd : y.cls = C ∧ y.cls ≠ "java/lang/invoke/MethodHandle" ∧ y.cls ≠ "java/lang/invoke/VarHandle" ∧ (parseMethodDescriptor y.desc).map (fun d => d.parameters.length) = some nn) (hR : rm.frames + 1 ≤ R.frames ∧ 8 + (maxL + 11) + rm.locals ≤ R.locals ∧ rm.cells = kc ∧ rm.slots = ks) (hr : r = some a) (hKa : K a = some (ci, 0)) (hfs : rend E w (ci, 0) a = .inr (ci, fs)) (hc : vwCl[ci]? = some q) (hq : q.1 = C) (hsz : ls.size = nL) (hn : As.length = nn) (hrm : rc 8 rest) (hst : st0 = As.reverse ++ rv E r :: rest) (hdg : decode cc pc = .ok (.invokevirtual index, 3)) (hcs : cells + kc ≤ R.cells ∧ slots + ks ≤ R.slots) (hcm : cells + kc ≤ mc ∧ slots + ks ≤ ms) (hout : ∀ x ∈ c.exceptionTable.toList, False) (hlocks : meth.locks = false) (kx : ∀ x, ρ = .inr x → r' = .inr x ∧ w' = w1) (kk : ∀ v, ρ = .inl v → ∀ (H1 : Heap) (locs1 : List Loc), HQ E K z w1 s H1 locs1 → W p l e R s m args below meth c H1 locs1 (cells + kc) (slots + ks) (vx_MQ below Qc (XX E K w' r') args s mc ms (hA E)) (F0 m (pc + 3) ls (.int v :: rest))) : W p l e R s m args below meth c H locs cells slots (vx_MQ below Qc (XX E K w' r') args s mc ms (hA E)) (F0 m pc ls st0) := by
  subst hr
  subst hst
  subst hq
  refine vx_calli (vx_runV (As := As) (rest := rest) ⟨hexec, hb, hml, hown, hts⟩ hM (cwV nn hts hG rfl hR.2.2.1 hR.2.2.2 hd ⟨hR.1, hR.2.1⟩) ⟨HB.blind, hH.1.recv hKs hKa hfs hc, HB.pre hKs hT hb0 hH⟩ rfl hn hsz rfl (lv_room hrm) hdg hcs) hH.2.1 (fun q _ h => h) (fun q h => h) (fun q _ h => h) (fun Es ce q9 u t H1 locs1 ht hvm hp hB hz hk hS hce hv hcl => ?_) (fun x u t H1 locs1 ht hvm hp hB hz hk hS => ?_)
  · obtain ⟨g1, g2⟩ := kx u hp
    subst g2
    exact vx_out (fun x hx => absurd (hout x hx) id) hlocks hce hv hcl (fun t2 ht2 hvm2 => ⟨u, g1, ⟨hB.1, by rw [ht2, ← ht]; exact hB.2⟩, hS.F ht2⟩) hS.2.2 hcm.1 hcm.2
  · exact kk x hp H1 locs1 ⟨by rw [← ht]; exact hB.2, hS, by rw [← ht]; exact hB.1.trans hH.2.2⟩
theorem hxV_z {α : Type} (hexec : p.tables.exec = Jvm.exec) (hb : c.code = cc) {own : String} {nL : Nat} (hml : c.maxLocals = nL) (hown : s.vm.findClass own = some m.cls) (hts : ∀ w ∈ bt, w.before args s = true) (hKs : HK E s) (hT : HT E s s.heap) (hb0 : E.2.1 ≤ s.heap.size) (hH : HQ E K z w s H locs) {y : MethodName} {bytes : ByteArray} {maxL nn index kc ks mc ms : Nat} {ret : Option FieldType} {rm : Room} {As : List Value} {st0 : List Value} {ρ : Bool ⊕ Nat} {w1 w' : Wd} {r' : α ⊕ Nat} {Qc : Array Value → State → Outcome → State → Prop} {a ci : Nat} {C : String} {r : Option Nat} {q : vw_C} {fs : List Value}
    (hM : vx_Met l y (Cond.code y bytes maxL ret :: bt) rm (va_Pc (rv E (some a) :: As) (HB E K w H.size)) (XZ E K H.size w1 ρ) (XX E K w1 ρ) kc ks (hA E)) (hG : GoodIn bt (wsV own index C y (Cond.code y bytes maxL ret :: bt))) (hd : y.cls = C ∧ y.cls ≠ "java/lang/invoke/MethodHandle" ∧ y.cls ≠ "java/lang/invoke/VarHandle" ∧ (parseMethodDescriptor y.desc).map (fun d => d.parameters.length) = some nn) (hR : rm.frames + 1 ≤ R.frames ∧ 8 + (maxL + 11) + rm.locals ≤ R.locals ∧ rm.cells = kc ∧ rm.slots = ks) (hr : r = some a) (hKa : K a = some (ci, 0)) (hfs : rend E w (ci, 0) a = .inr (ci, fs)) (hc : vwCl[ci]? = some q) (hq : q.1 = C) (hsz : ls.size = nL) (hn : As.length = nn) (hrm : rc 8 rest) (hst : st0 = As.reverse ++ rv E r :: rest) (hdg : decode cc pc = .ok (.invokevirtual index, 3)) (hcs : cells + kc ≤ R.cells ∧ slots + ks ≤ R.slots) (hcm : cells + kc ≤ mc ∧ slots + ks ≤ ms) (hout : ∀ x ∈ c.exceptionTable.toList, False) (hlocks : meth.locks = false) (kx : ∀ x, ρ = .inr x → r' = .inr x ∧ w' = w1) (kk : ∀ v, ρ = .inl v → ∀ (H1 : Heap) (locs1 : List Loc), HQ E K z w1 s H1 locs1 → W p l e R s m args below meth c H1 locs1 (cells + kc) (slots + ks) (vx_MQ below Qc (XX E K w' r') args s mc ms (hA E)) (F0 m (pc + 3) ls (.int (b2i v) :: rest))) : W p l e R s m args below meth c H locs cells slots (vx_MQ below Qc (XX E K w' r') args s mc ms (hA E)) (F0 m pc ls st0) := by
  subst hr
  subst hst
  subst hq
  refine vx_calli (vx_runV (As := As) (rest := rest) ⟨hexec, hb, hml, hown, hts⟩ hM (cwV nn hts hG rfl hR.2.2.1 hR.2.2.2 hd ⟨hR.1, hR.2.1⟩) ⟨HB.blind, hH.1.recv hKs hKa hfs hc, HB.pre hKs hT hb0 hH⟩ rfl hn hsz rfl (lv_room hrm) hdg hcs) hH.2.1 (fun q _ h => h) (fun q h => h) (fun q _ h => h) (fun Es ce q9 u t H1 locs1 ht hvm hp hB hz hk hS hce hv hcl => ?_) (fun x u t H1 locs1 ht hvm hp hB hz hk hS => ?_)
  · obtain ⟨g1, g2⟩ := kx u hp
    subst g2
    exact vx_out (fun x hx => absurd (hout x hx) id) hlocks hce hv hcl (fun t2 ht2 hvm2 => ⟨u, g1, ⟨hB.1, by rw [ht2, ← ht]; exact hB.2⟩, hS.F ht2⟩) hS.2.2 hcm.1 hcm.2
  · rw [hp.1]; exact kk u hp.2 H1 locs1 ⟨by rw [← ht]; exact hB.2, hS, by rw [← ht]; exact hB.1.trans hH.2.2⟩
theorem hxV_v {α : Type} (hexec : p.tables.exec = Jvm.exec) (hb : c.code = cc) {own : String} {nL : Nat} (hml : c.maxLocals = nL) (hown : s.vm.findClass own = some m.cls) (hts : ∀ w ∈ bt, w.before args s = true) (hKs : HK E s) (hT : HT E s s.heap) (hb0 : E.2.1 ≤ s.heap.size) (hH : HQ E K z w s H locs) {y : MethodName} {bytes : ByteArray} {maxL nn index kc ks mc ms : Nat} {ret : Option FieldType} {rm : Room} {As : List Value} {st0 : List Value} {ρ : Unit ⊕ Nat} {w1 w' : Wd} {r' : α ⊕ Nat} {Qc : Array Value → State → Outcome → State → Prop} {a ci : Nat} {C : String} {r : Option Nat} {q : vw_C} {fs : List Value}
    (hM : vx_Met l y (Cond.code y bytes maxL ret :: bt) rm (va_Pc (rv E (some a) :: As) (HB E K w H.size)) (XV E K H.size w1 ρ) (XX E K w1 ρ) kc ks (hA E)) (hG : GoodIn bt (wsV own index C y (Cond.code y bytes maxL ret :: bt))) (hd : y.cls = C ∧ y.cls ≠ "java/lang/invoke/MethodHandle" ∧ y.cls ≠ "java/lang/invoke/VarHandle" ∧ (parseMethodDescriptor y.desc).map (fun d => d.parameters.length) = some nn) (hR : rm.frames + 1 ≤ R.frames ∧ 8 + (maxL + 11) + rm.locals ≤ R.locals ∧ rm.cells = kc ∧ rm.slots = ks) (hr : r = some a) (hKa : K a = some (ci, 0)) (hfs : rend E w (ci, 0) a = .inr (ci, fs)) (hc : vwCl[ci]? = some q) (hq : q.1 = C) (hsz : ls.size = nL) (hn : As.length = nn) (hrm : rc 8 rest) (hst : st0 = As.reverse ++ rv E r :: rest) (hdg : decode cc pc = .ok (.invokevirtual index, 3)) (hcs : cells + kc ≤ R.cells ∧ slots + ks ≤ R.slots) (hcm : cells + kc ≤ mc ∧ slots + ks ≤ ms) (hout : ∀ x ∈ c.exceptionTable.toList, False) (hlocks : meth.locks = false) (kx : ∀ x, ρ = .inr x → r' = .inr x ∧ w' = w1) (kk : ∀ v, ρ = .inl v → ∀ (H1 : Heap) (locs1 : List Loc), HQ E K z w1 s H1 locs1 → W p l e R s m args below meth c H1 locs1 (cells + kc) (slots + ks) (vx_MQ below Qc (XX E K w' r') args s mc ms (hA E)) (F0 m (pc + 3) ls rest)) : W p l e R s m args below meth c H locs cells slots (vx_MQ below Qc (XX E K w' r') args s mc ms (hA E)) (F0 m pc ls st0) := by
  subst hr
  subst hst
  subst hq
  refine vx_callv (vx_runV (As := As) (rest := rest) ⟨hexec, hb, hml, hown, hts⟩ hM (cwV nn hts hG rfl hR.2.2.1 hR.2.2.2 hd ⟨hR.1, hR.2.1⟩) ⟨HB.blind, hH.1.recv hKs hKa hfs hc, HB.pre hKs hT hb0 hH⟩ rfl hn hsz rfl (lv_room hrm) hdg hcs) hH.2.1 (fun q _ h => h) (fun q h => h) (fun q _ h => h) (fun Es ce q9 u t H1 locs1 ht hvm hp hB hz hk hS hce hv hcl => ?_) (fun u t H1 locs1 ht hvm hp hB hz hk hS => ?_)
  · obtain ⟨g1, g2⟩ := kx u hp
    subst g2
    exact vx_out (fun x hx => absurd (hout x hx) id) hlocks hce hv hcl (fun t2 ht2 hvm2 => ⟨u, g1, ⟨hB.1, by rw [ht2, ← ht]; exact hB.2⟩, hS.F ht2⟩) hS.2.2 hcm.1 hcm.2
  · exact kk () hp H1 locs1 ⟨by rw [← ht]; exact hB.2, hS, by rw [← ht]; exact hB.1.trans hH.2.2⟩
end HW3
theorem ixa_lt {i : Int32} {n j : Nat} (h : ixa i n = some j) : j < n := by
  obtain ⟨h1, rfl⟩ := ixa_some h
  exact Nat.not_le.mp fun q => h1 (Or.inr q)
section HW4
variable {p : Program} {l : Launch} {e : Env} {R : Room} {s : State} {m : MethodId} {args : Array Value} {below : List Frame} {meth : Method} {c : Code} {H : Heap} {locs : List Loc} {cells slots : Nat} {Q : State → Prop}
variable {cc : ByteArray} {pc : Nat} {ls : Array Slot} {rest : List Value} {E : Ev} {K : Kd} {z : Nat} {w : Wd}
theorem hw_aast25 (hexec : p.tables.exec = Jvm.exec) (hb : c.code = cc) (hKs : HK E s) (hH : HQ E K z w s H locs) {r rv0 : Option Nat} {a n v : Nat} (hr : r = some a) (hKa : K a = some (25, n)) (hv0 : rv0 = some v) (hKv : K v = some (2, 0)) {i : Int32} {j : Nat} (hj : ixa i n = some j) (hdg : decode cc pc = .ok (.aastore, 1))
    (kk : ∀ (H1 : Heap) (locs1 : List Loc), HQ E K z (tR w a j (some v)) s H1 locs1 → W p l e R s m args below meth c H1 locs1 cells slots Q (F0 m (pc + 1) ls rest)) : W p l e R s m args below meth c H locs cells slots Q (F0 m pc ls (rv E rv0 :: .int i :: rv E r :: rest)) := by
  subst hr
  subst hv0
  obtain ⟨h1, rfl⟩ := ixa_some hj
  have hlt : i.toNatClampNeg < n := Nat.not_le.mp fun q => h1 (Or.inr q)
  have h0 : ¬ i < 0 := fun q => h1 (Or.inl q)
  obtain ⟨r', hr', cellV, g1, g2, g3, -⟩ : va_at E.1 vwCl (E.2.1 + v, .inr (2, fsX3 E w v)) H := hH.1 v _ hKv
  have hcls := (hKs.1.1 2 _ rfl).2
  obtain ⟨kA, comp, k1, k2, k3, -⟩ := (hKs.1.2 5 _ rfl).2
  have hcomp : comp = E.1.1 2 := Option.some.inj (k3.symm.trans hcls.1)
  subst hcomp
  obtain ⟨kC, hkC, -⟩ := hcls.2
  have hc0 : H[E.2.1 + a]? = some (vp_cell (E.2.2.1 25) (n, .inr (.inr (.inr (.inr (fun j => (aR w a j).map (fun b => E.2.1 + b))))))) := hH.1 a _ hKa
  refine W.aast hexec hb hc0 (fun q h => by cases h) (fun h => by cases h) k1 k2 rfl hkC ⟨h0, by show _ < (arrV _ _ _).slots.size; rw [arrV_size]; exact hlt⟩ g1 (fun q h => by rw [g3] at h; cases h) (by rw [g2]; exact hkC) (by rw [g2]; exact va_assign hcls) rfl rfl hdg fun H1 e1 e2 e3 => ?_
  refine kk H1 _ ⟨hH.1.put hKa e3 ?_ (fun b y hb => rend_tR hb), hH.2.1.put e2 e3 (Nat.le_add_right _ _), e2.trans hH.2.2⟩
  show H1[E.2.1 + a]? = some (vp_cell _ (n, .inr (.inr (.inr (.inr (fun j => (aR (tR w a i.toNatClampNeg (some v)) a j).map (fun b => E.2.1 + b)))))))
  rw [e1]
  rw [vp_cell_q, vp_cell_q, arrV_store]
  congr 2
  funext q
  by_cases hq : q = i.toNatClampNeg
  · subst hq; simp [updV, aR, tR, up2, va_rf]
  · simp [updV, aR, tR, up2, hq]
theorem hw_aast26 (hexec : p.tables.exec = Jvm.exec) (hb : c.code = cc) (hKs : HK E s) (hH : HQ E K z w s H locs) {r rv0 : Option Nat} {a n v : Nat} (hr : r = some a) (hKa : K a = some (26, n)) (hv0 : rv0 = some v) (hKv : K v = some (3, 0)) {i : Int32} {j : Nat} (hj : ixa i n = some j) (hdg : decode cc pc = .ok (.aastore, 1))
    (kk : ∀ (H1 : Heap) (locs1 : List Loc), HQ E K z (tR w a j (some v)) s H1 locs1 → W p l e R s m args below meth c H1 locs1 cells slots Q (F0 m (pc + 1) ls rest)) : W p l e R s m args below meth c H locs cells slots Q (F0 m pc ls (rv E rv0 :: .int i :: rv E r :: rest)) := by
  subst hr
  subst hv0
  obtain ⟨h1, rfl⟩ := ixa_some hj
  have hlt : i.toNatClampNeg < n := Nat.not_le.mp fun q => h1 (Or.inr q)
  have h0 : ¬ i < 0 := fun q => h1 (Or.inl q)
  obtain ⟨r', hr', cellV, g1, g2, g3, -⟩ : va_at E.1 vwCl (E.2.1 + v, .inr (3, fsX4 E w v)) H := hH.1 v _ hKv
  have hcls := (hKs.1.1 3 _ rfl).2
  obtain ⟨kA, comp, k1, k2, k3, -⟩ := (hKs.1.2 6 _ rfl).2
  have hcomp : comp = E.1.1 3 := Option.some.inj (k3.symm.trans hcls.1)
  subst hcomp
  obtain ⟨kC, hkC, -⟩ := hcls.2
  have hc0 : H[E.2.1 + a]? = some (vp_cell (E.2.2.1 26) (n, .inr (.inr (.inr (.inr (fun j => (aR w a j).map (fun b => E.2.1 + b))))))) := hH.1 a _ hKa
  refine W.aast hexec hb hc0 (fun q h => by cases h) (fun h => by cases h) k1 k2 rfl hkC ⟨h0, by show _ < (arrV _ _ _).slots.size; rw [arrV_size]; exact hlt⟩ g1 (fun q h => by rw [g3] at h; cases h) (by rw [g2]; exact hkC) (by rw [g2]; exact va_assign hcls) rfl rfl hdg fun H1 e1 e2 e3 => ?_
  refine kk H1 _ ⟨hH.1.put hKa e3 ?_ (fun b y hb => rend_tR hb), hH.2.1.put e2 e3 (Nat.le_add_right _ _), e2.trans hH.2.2⟩
  show H1[E.2.1 + a]? = some (vp_cell _ (n, .inr (.inr (.inr (.inr (fun j => (aR (tR w a i.toNatClampNeg (some v)) a j).map (fun b => E.2.1 + b)))))))
  rw [e1]
  rw [vp_cell_q, vp_cell_q, arrV_store]
  congr 2
  funext q
  by_cases hq : q = i.toNatClampNeg
  · subst hq; simp [updV, aR, tR, up2, va_rf]
  · simp [updV, aR, tR, up2, hq]
theorem hw_aast27 (hexec : p.tables.exec = Jvm.exec) (hb : c.code = cc) (hKs : HK E s) (hH : HQ E K z w s H locs) {r rv0 : Option Nat} {a n v : Nat} (hr : r = some a) (hKa : K a = some (27, n)) (hv0 : rv0 = some v) (hKv : K v = some (6, 0)) {i : Int32} {j : Nat} (hj : ixa i n = some j) (hdg : decode cc pc = .ok (.aastore, 1))
    (kk : ∀ (H1 : Heap) (locs1 : List Loc), HQ E K z (tR w a j (some v)) s H1 locs1 → W p l e R s m args below meth c H1 locs1 cells slots Q (F0 m (pc + 1) ls rest)) : W p l e R s m args below meth c H locs cells slots Q (F0 m pc ls (rv E rv0 :: .int i :: rv E r :: rest)) := by
  subst hr
  subst hv0
  obtain ⟨h1, rfl⟩ := ixa_some hj
  have hlt : i.toNatClampNeg < n := Nat.not_le.mp fun q => h1 (Or.inr q)
  have h0 : ¬ i < 0 := fun q => h1 (Or.inl q)
  obtain ⟨r', hr', cellV, g1, g2, g3, -⟩ : va_at E.1 vwCl (E.2.1 + v, .inr (6, fsX7 E w v)) H := hH.1 v _ hKv
  have hcls := (hKs.1.1 6 _ rfl).2
  obtain ⟨kA, comp, k1, k2, k3, -⟩ := (hKs.1.2 7 _ rfl).2
  have hcomp : comp = E.1.1 6 := Option.some.inj (k3.symm.trans hcls.1)
  subst hcomp
  obtain ⟨kC, hkC, -⟩ := hcls.2
  have hc0 : H[E.2.1 + a]? = some (vp_cell (E.2.2.1 27) (n, .inr (.inr (.inr (.inr (fun j => (aR w a j).map (fun b => E.2.1 + b))))))) := hH.1 a _ hKa
  refine W.aast hexec hb hc0 (fun q h => by cases h) (fun h => by cases h) k1 k2 rfl hkC ⟨h0, by show _ < (arrV _ _ _).slots.size; rw [arrV_size]; exact hlt⟩ g1 (fun q h => by rw [g3] at h; cases h) (by rw [g2]; exact hkC) (by rw [g2]; exact va_assign hcls) rfl rfl hdg fun H1 e1 e2 e3 => ?_
  refine kk H1 _ ⟨hH.1.put hKa e3 ?_ (fun b y hb => rend_tR hb), hH.2.1.put e2 e3 (Nat.le_add_right _ _), e2.trans hH.2.2⟩
  show H1[E.2.1 + a]? = some (vp_cell _ (n, .inr (.inr (.inr (.inr (fun j => (aR (tR w a i.toNatClampNeg (some v)) a j).map (fun b => E.2.1 + b)))))))
  rw [e1]
  rw [vp_cell_q, vp_cell_q, arrV_store]
  congr 2
  funext q
  by_cases hq : q = i.toNatClampNeg
  · subst hq; simp [updV, aR, tR, up2, va_rf]
  · simp [updV, aR, tR, up2, hq]
theorem hw_aast28 (hexec : p.tables.exec = Jvm.exec) (hb : c.code = cc) (hKs : HK E s) (hH : HQ E K z w s H locs) {r rv0 : Option Nat} {a n v : Nat} (hr : r = some a) (hKa : K a = some (28, n)) (hv0 : rv0 = some v) (hKv : K v = some (9, 0)) {i : Int32} {j : Nat} (hj : ixa i n = some j) (hdg : decode cc pc = .ok (.aastore, 1))
    (kk : ∀ (H1 : Heap) (locs1 : List Loc), HQ E K z (tR w a j (some v)) s H1 locs1 → W p l e R s m args below meth c H1 locs1 cells slots Q (F0 m (pc + 1) ls rest)) : W p l e R s m args below meth c H locs cells slots Q (F0 m pc ls (rv E rv0 :: .int i :: rv E r :: rest)) := by
  subst hr
  subst hv0
  obtain ⟨h1, rfl⟩ := ixa_some hj
  have hlt : i.toNatClampNeg < n := Nat.not_le.mp fun q => h1 (Or.inr q)
  have h0 : ¬ i < 0 := fun q => h1 (Or.inl q)
  obtain ⟨r', hr', cellV, g1, g2, g3, -⟩ : va_at E.1 vwCl (E.2.1 + v, .inr (9, fsX10 E w v)) H := hH.1 v _ hKv
  have hcls := (hKs.1.1 9 _ rfl).2
  obtain ⟨kA, comp, k1, k2, k3, -⟩ := (hKs.1.2 8 _ rfl).2
  have hcomp : comp = E.1.1 9 := Option.some.inj (k3.symm.trans hcls.1)
  subst hcomp
  obtain ⟨kC, hkC, -⟩ := hcls.2
  have hc0 : H[E.2.1 + a]? = some (vp_cell (E.2.2.1 28) (n, .inr (.inr (.inr (.inr (fun j => (aR w a j).map (fun b => E.2.1 + b))))))) := hH.1 a _ hKa
  refine W.aast hexec hb hc0 (fun q h => by cases h) (fun h => by cases h) k1 k2 rfl hkC ⟨h0, by show _ < (arrV _ _ _).slots.size; rw [arrV_size]; exact hlt⟩ g1 (fun q h => by rw [g3] at h; cases h) (by rw [g2]; exact hkC) (by rw [g2]; exact va_assign hcls) rfl rfl hdg fun H1 e1 e2 e3 => ?_
  refine kk H1 _ ⟨hH.1.put hKa e3 ?_ (fun b y hb => rend_tR hb), hH.2.1.put e2 e3 (Nat.le_add_right _ _), e2.trans hH.2.2⟩
  show H1[E.2.1 + a]? = some (vp_cell _ (n, .inr (.inr (.inr (.inr (fun j => (aR (tR w a i.toNatClampNeg (some v)) a j).map (fun b => E.2.1 + b)))))))
  rw [e1]
  rw [vp_cell_q, vp_cell_q, arrV_store]
  congr 2
  funext q
  by_cases hq : q = i.toNatClampNeg
  · subst hq; simp [updV, aR, tR, up2, va_rf]
  · simp [updV, aR, tR, up2, hq]
end HW4
