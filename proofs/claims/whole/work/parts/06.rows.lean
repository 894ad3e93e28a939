/-! The machine's rows over a memory. -/
def hA (E : Ev) : Nat → Prop := fun q => E.2.1 ≤ q
def HP (E : Ev) (K : Kd) (w : Wd) (H : Heap) : Prop := ∀ (a : Nat) (q : Nat × Nat), K a = some q → va_at E.1 vwCl (E.2.1 + a, rend E w q a) H
def tokN : List String := ["HOLIDAY", "ROOM", "SLOTS", "OFFICER", "OFF", "WITNESS", "DAYS", "CASE", "FILED", "LIMIT", "CUSTODY", "NEEDS", "BAR", "CONFLICT", "LENGTHEN", "CAP", "NAME", "NUMBER", "SEMICOLON", "END", "WRONG"]
def tokO : List Int32 := [0, 1, 2, 3, 4, 5, 6, 7, 8, 9, 10, 11, 12, 13, 14, 15, 16, 17, 18, 19, 20]
def tokP : List Int64 := [29395908993245561, 1919905645, 495740482675, 31356312455701874, 7300710, 33611471017833331, 1684109683, 1667330917, 439855375716, 465625246068, 27995161429501049, 474147546227, 6447474, 7165066918354314100, 7810770519357678958, 6513008, 0, 0, 0, 0, 0]
def swm : List Int32 := [1, 2, 0, 3, 0, 4, 0, 5, 0, 0, 0, 0, 6, 7, 8, 9, 0, 0, 0, 0, 0]
def wordsB : List Int32 := [104, 111, 108, 105, 100, 97, 121, 32, 114, 111, 111, 109, 32, 115, 108, 111, 116, 115, 32, 111, 102, 102, 105, 99, 101, 114, 32, 111, 102, 102, 32, 119, 105, 116, 110, 101, 115, 115, 32, 100, 97, 121, 115, 32, 99, 97, 115, 101, 32, 102, 105, 108, 101, 100, 32, 108, 105, 109, 105, 116, 32, 99, 117, 115, 116, 111, 100, 121, 32, 110, 101, 101, 100, 115, 32, 98, 97, 114, 32, 99, 111, 110, 102, 108, 105, 99, 116, 32, 108, 101, 110, 103, 116, 104, 101, 110, 32, 99, 97, 112, 32]
/-- what is constant: the tokens, their array, the switch's table, the words -/
def HT (E : Ev) (U : State) (H : Heap) : Prop :=
  va_En "CourtCalendar$Token" "LCourtCalendar$Token;" tokN [("java/lang/Enum", "ordinal", "I", tokO)] E.2.2.2 (hA E) U H ∧
  (∀ i, i < 21 → va_OF "CourtCalendar$Token" "packed" "J" (.long (tokP.getD i 0)) (E.2.2.2 i) (hA E) U H) ∧
  (va_Z "CourtCalendar$Token" "ALL" "[LCourtCalendar$Token;" (.ref (E.2.2.2 100)) (hA E) U H ∧ va_T (.object "CourtCalendar$Token") (E.2.2.2 100) 21 (fun j => .ref (E.2.2.2 j)) (hA E) U H) ∧
  (va_Z "CourtCalendar$1" "$SwitchMap$CourtCalendar$Token" "[I" (.ref (E.2.2.2 101)) (hA E) U H ∧ va_T .int (E.2.2.2 101) 21 (fun j => .int (swm.getD j 0)) (hA E) U H) ∧
  vk_S 1 [101] [wordsB] (fun i => E.2.2.2 (102 + i)) (fun i => E.2.2.2 (202 + i)) (hA E) U H
theorem HT.moved {E : Ev} {u U : State} {H : Heap} (hvm : u.vm.Alike U.vm) (h : HT E u H) : HT E U H :=
  ⟨va_En.moved hvm h.1, fun i hi => va_OF.moved hvm (h.2.1 i hi), ⟨va_Z.moved hvm h.2.2.1.1, va_T.moved hvm h.2.2.1.2⟩, ⟨va_Z.moved hvm h.2.2.2.1.1, va_T.moved hvm h.2.2.2.1.2⟩, vk_S.moved hvm h.2.2.2.2⟩
theorem HT.kept {E : Ev} {U : State} {H H1 : Heap} (h : HT E U H) (hq : ∀ a : Nat, a < H.size → ¬ hA E a → H1[a]? = H[a]?) : HT E U H1 :=
  ⟨h.1.kept hq, fun i hi => (h.2.1 i hi).kept hq, ⟨h.2.2.1.1.kept hq, h.2.2.1.2.kept hq⟩, ⟨h.2.2.2.1.1.kept hq, h.2.2.2.1.2.kept hq⟩, h.2.2.2.2.kept hq⟩
/-- what the tables say, in any state of the run -/
def HK (E : Ev) (U : State) : Prop := va_K E.1 vwCl (tyl E) U ∧ ∀ w, w ∈ nb → va_Nw w U
theorem HK.warm {E : Ev} {s U : State} (hW : s.WarmedH U.vm) (h : HK E s) : HK E U := ⟨va_K.moved hW.alike h.1, fun w hw => by
  have h1 := h.2 w hw
  have h2 := (List.mem_filter.mp hw).2
  cases w <;> first | exact va_Nw.warmF hW h1 | exact va_Nw.warmM hW h1 | exact absurd h2 (by simp [isNest])⟩
theorem HK.calling {E : Ev} {U : State} {g : JFrame} {mk : MethodId} {a : Array Value} (h : HK E U) : HK E (U.calling g mk a) := ⟨va_K.moved (u := U) (U := U.calling g mk a) (Vm.Alike.refl U.vm) h.1, fun w hw => by
  have h1 := h.2 w hw
  have h2 := (List.mem_filter.mp hw).2
  cases w <;> first | exact va_Nw.same rfl rfl h1 | exact absurd h2 (by simp [isNest])⟩
/-- a method's start: the memory is K, w; z cells stand -/
def HB (E : Ev) (K : Kd) (w : Wd) (z : Nat) (U : State) : Prop := U.heap.size = z ∧ HP E K w U.heap ∧ HK E U ∧ HT E U U.heap ∧ E.2.1 ≤ z
/-- a method's end -/
def HE (E : Ev) (K : Kd) (w : Wd) (z : Nat) (U : State) : Prop := U.heap.size = z ∧ HP E K w U.heap
/-- within a method -/
def HQ (E : Ev) (K : Kd) (z : Nat) (w : Wd) (s : State) (H : Heap) (locs : List Loc) : Prop := HP E K w H ∧ va_S (hA E) s.heap H locs ∧ H.size = z
abbrev QI (E : Ev) (K : Kd) (z : Nat) (w : Wd) (r : Int32) : Array Value → State → Outcome → State → Prop := va_Qi (fun x (_ : Unit) => x = r) (fun _ t => HE E K w z t) (hA E)
abbrev QL (E : Ev) (K : Kd) (z : Nat) (w : Wd) (r : Int64) : Array Value → State → Outcome → State → Prop := va_Ql (fun x (_ : Unit) => x = r) (fun _ t => HE E K w z t) (hA E)
abbrev QV (E : Ev) (K : Kd) (z : Nat) (w : Wd) : Array Value → State → Outcome → State → Prop := va_Qv (fun (_ : Unit) => True) (fun _ t => HE E K w z t) (hA E)
abbrev QR (E : Ev) (K : Kd) (z : Nat) (w : Wd) (r : Option Nat) : Array Value → State → Outcome → State → Prop := va_Qq (fun x (_ : Unit) => x = r.map (fun a => E.2.1 + a)) (fun _ t => HE E K w z t) (hA E)
abbrev QT (E : Ev) (K : Kd) (z : Nat) (w : Wd) (r : Option Nat) : Array Value → State → Outcome → State → Prop := va_Qe E.2.2.2 (fun x (_ : Unit) => x = r) (fun _ t => HE E K w z t) (hA E)
theorem one_P {D : va_G} {q : Nat × va_E} {H : Heap} (h : va_at D vwCl q H) : va_P D vwCl [q] H := fun k x hx => by
  match k, hx with
  | 0, hx => cases hx; exact h
  | k + 1, hx => simp at hx
theorem HP.put {E : Ev} {K : Kd} {w w' : Wd} {H H1 : Heap} {a : Nat} {q : Nat × Nat} (h : HP E K w H) (hq : K a = some q) (ho : ∀ x, x ≠ E.2.1 + a → H1[x]? = H[x]?) (ha : va_at E.1 vwCl (E.2.1 + a, rend E w' q a) H1) (hr : ∀ b y, b ≠ a → rend E w' y b = rend E w y b) : HP E K w' H1 := by
  intro b y hb
  by_cases e : b = a
  · subst e
    rw [hq] at hb
    cases hb
    exact ha
  · rw [hr b y e]
    exact (h b y hb).kept (ho _ (fun e2 => e (Nat.add_left_cancel e2)))
theorem rv_cat {E : Ev} {r : Option Nat} : (rv E r).category = 1 := by cases r <;> rfl
theorem re_cat {E : Ev} {r : Option Nat} : (re E r).category = 1 := by cases r <;> rfl
def rc (n : Nat) (l : List Value) : Prop := (l.map fun v => v.category).sum ≤ n
theorem rc0 {n : Nat} : rc n [] := Nat.zero_le _
theorem rcI {n : Nat} {x : Int32} {l : List Value} (h : rc n l) : rc (n + 1) (.int x :: l) := by unfold rc at *; simp [Value.category] at *; omega
theorem rcJ {n : Nat} {x : Int64} {l : List Value} (h : rc n l) : rc (n + 2) (.long x :: l) := by unfold rc at *; simp [Value.category] at *; omega
theorem rcV {n : Nat} {E : Ev} {x : Option Nat} {l : List Value} (h : rc n l) : rc (n + 1) (rv E x :: l) := by unfold rc at *; simp only [List.map_cons, List.sum_cons, rv_cat] at *; omega
theorem rcE {n : Nat} {E : Ev} {x : Option Nat} {l : List Value} (h : rc n l) : rc (n + 1) (re E x :: l) := by unfold rc at *; simp only [List.map_cons, List.sum_cons, re_cat] at *; omega
theorem gV {own C : String} {idx maxL : Nat} {y : MethodName} {cc : ByteArray} {ret : Option FieldType} (h1 : Cond.methodLink own idx y ∈ bt) (h2 : Cond.instanceMethod y ∈ bt) (h3 : Cond.selects C y y ∈ bt) (h4 : Cond.initialized C ∈ bt) (h5 : Cond.code y cc maxL ret ∈ bt) : GoodIn bt (wsV own idx C y (Cond.code y cc maxL ret :: bt)) := by
  intro w hw
  have hm : w ∈ bt := by
    unfold wsV at hw
    simp only [List.cons_append, List.nil_append, List.mem_cons] at hw
    rcases hw with rfl | rfl | rfl | rfl | rfl | hw
    · exact h1
    · exact h2
    · exact h3
    · exact h4
    · exact h5
    · exact hw
  exact ⟨hm, good_of_word (List.mem_filter.mp hm).2⟩
theorem gS {own : String} {idx maxL : Nat} {y : MethodName} {cc : ByteArray} {ret : Option FieldType} (h1 : Cond.methodLink own idx y ∈ bt) (h2 : Cond.static y ∈ bt) (h4 : Cond.initialized y.cls ∈ bt) (h5 : Cond.code y cc maxL ret ∈ bt) : GoodIn bt (va_wsS own idx y (Cond.code y cc maxL ret :: bt)) := by
  intro w hw
  have hm : w ∈ bt := by
    unfold va_wsS at hw
    simp only [List.cons_append, List.nil_append, List.mem_cons] at hw
    rcases hw with rfl | rfl | rfl | rfl | hw
    · exact h1
    · exact h2
    · exact h4
    · exact h5
    · exact hw
  exact ⟨hm, good_of_word (List.mem_filter.mp hm).2⟩
theorem gC {maxL : Nat} {y : MethodName} {cc : ByteArray} {ret : Option FieldType} (h5 : Cond.code y cc maxL ret ∈ bt) : GoodIn bt (Cond.code y cc maxL ret :: bt) := by
  intro w hw
  have hm : w ∈ bt := by
    rcases List.mem_cons.mp hw with rfl | hw
    · exact h5
    · exact hw
  exact ⟨hm, good_of_word (List.mem_filter.mp hm).2⟩
theorem HB.blind {E : Ev} {K : Kd} {w : Wd} {z : Nat} {av : List Value} : FrameBlind (va_Pc av (HB E K w z)) := fun a U g mk q => ⟨q.1, q.2.1, q.2.2.1, q.2.2.2.1.calling, HT.moved (u := U) (U := U.calling g mk a) (Vm.Alike.refl U.vm) q.2.2.2.2.1, q.2.2.2.2.2⟩
theorem HB.pre {E : Ev} {K : Kd} {w : Wd} {z : Nat} {av : List Value} {s : State} {H : Heap} {locs : List Loc} (hKs : HK E s) (hT : HT E s s.heap) (hb0 : E.2.1 ≤ s.heap.size) (hH : HQ E K z w s H locs) : ∀ U : State, U.heap = H → s.WarmedH U.vm → va_Pc av (HB E K w H.size) av.toArray U := fun U hU hW => ⟨rfl, by rw [hU], by rw [hU]; exact hH.1, hKs.warm hW, by rw [hU]; exact HT.moved hW.alike (hT.kept hH.2.1.2.1), Nat.le_trans hb0 hH.2.1.1⟩
theorem HP.recv {E : Ev} {K : Kd} {w : Wd} {s : State} {H : Heap} {a ci : Nat} {fs : List Value} {q : vw_C} (hKs : HK E s) (h : HP E K w H) (hKa : K a = some (ci, 0)) (hfs : rend E w (ci, 0) a = .inr (ci, fs)) (hc : vwCl[ci]? = some q) : ∃ cell : Cell, H[E.2.1 + a]? = some cell ∧ cell.vm.isStatics = false ∧ s.vm.findClass q.1 = some cell.cls := va_recv hKs.1 (one_P (by rw [← hfs]; exact h a _ hKa)) hc (q0 := 0) rfl
section HW
variable {p : Program} {l : Launch} {e : Env} {R : Room} {s : State} {m : MethodId} {args : Array Value} {below : List Frame} {meth : Method} {c : Code} {H : Heap} {locs : List Loc} {cells slots : Nat} {Q : State → Prop}
variable {cc : ByteArray} {pc : Nat} {ls : Array Slot} {rest : List Value} {E : Ev} {K : Kd} {z : Nat} {w : Wd}
theorem hw_get (hexec : p.tables.exec = Jvm.exec) (hb : c.code = cc) {own C : String} {T : u_T} {N ci index : Nat} (hts : ∀ w ∈ bt, w.before args s = true) (hin : ∀ w ∈ u_ws C T N, w ∈ bt) (hown : s.vm.findClass own = some m.cls) (hKs : HK E s) (hH : HQ E K z w s H locs) (hc : vwCl[ci]? = some (C, T, N)) {r : Option Nat} {a : Nat} (hr : r = some a) (hKa : K a = some (ci, 0)) {fs : List Value} (hfs : rend E w (ci, 0) a = .inr (ci, fs)) (k : Nat) (hk : k < N) (hlink : Cond.fieldLink own index (T k).1 (T k).2.1 (T k).2.2.1 ∈ bt) {v : Value} (hv : fs[k]? = some v) (hdg : decode cc pc = .ok (.getfield index, 3))
    (kk : W p l e R s m args below meth c H locs cells slots Q (F0 m (pc + 3) ls (v :: rest))) : W p l e R s m args below meth c H locs cells slots Q (F0 m pc ls (rv E r :: rest)) := by
  subst hr
  exact va_get (ws := [(E.2.1 + a, .inr (ci, fs))]) hexec hb hts hin hown hKs.1 (one_P (by rw [← hfs]; exact hH.1 a _ hKa)) 0 rfl hc k hk (hts _ hlink) (fun _ h => h) hv hdg kk
theorem hw_getN (hexec : p.tables.exec = Jvm.exec) (hb : c.code = cc) {own C host : String} {T : u_T} {N ci index : Nat} (hts : ∀ w ∈ bt, w.before args s = true) (hin : ∀ w ∈ u_ws C T N, w ∈ bt) (hown : s.vm.findClass own = some m.cls) (hKs : HK E s) (hH : HQ E K z w s H locs) (hc : vwCl[ci]? = some (C, T, N)) {r : Option Nat} {a : Nat} (hr : r = some a) (hKa : K a = some (ci, 0)) {fs : List Value} (hfs : rend E w (ci, 0) a = .inr (ci, fs)) (k : Nat) (hk : k < N) (hlink : Cond.fieldLinkNest own index (T k).1 (T k).2.1 (T k).2.2.1 host ∈ nb) {v : Value} (hv : fs[k]? = some v) (hdg : decode cc pc = .ok (.getfield index, 3))
    (kk : W p l e R s m args below meth c H locs cells slots Q (F0 m (pc + 3) ls (v :: rest))) : W p l e R s m args below meth c H locs cells slots Q (F0 m pc ls (rv E r :: rest)) := by
  subst hr
  exact va_getN (ws := [(E.2.1 + a, .inr (ci, fs))]) hexec hb hts hin hown hKs.1 (one_P (by rw [← hfs]; exact hH.1 a _ hKa)) 0 rfl hc k hk (va_Nw.use rfl (hKs.2 _ hlink)) (fun _ h => h) hv hdg kk
theorem hw_put (hexec : p.tables.exec = Jvm.exec) (hb : c.code = cc) {own C : String} {T : u_T} {N ci index : Nat} (hts : ∀ w ∈ bt, w.before args s = true) (hin : ∀ w ∈ u_ws C T N, w ∈ bt) (ty0 : Nat → FieldType) (hty : ∀ k, k < N → parseFieldDescriptor (T k).2.2.1 = some (ty0 k)) (hnm : ∀ a, a < N → ∀ b, b < N → a ≠ b → (T a).2.1 ≠ (T b).2.1) (hown : s.vm.findClass own = some m.cls) (hKs : HK E s) (hH : HQ E K z w s H locs) (hc : vwCl[ci]? = some (C, T, N)) {r : Option Nat} {a : Nat} (hr : r = some a) (hKa : K a = some (ci, 0)) {fs : List Value} (hfs : rend E w (ci, 0) a = .inr (ci, fs)) (k : Nat) (hk : k < N) (hlink : Cond.fieldLink own index (T k).1 (T k).2.1 (T k).2.2.1 ∈ bt) (hfin : (T k).2.2.2 = false) {ty : FieldType} {v : Value} (hd : parseFieldDescriptor (T k).2.2.1 = some ty) (hn : narrow ty v = v) (hfit : fits ty v = true) (hl : k < fs.length) {w' : Wd} (hw' : rend E w' (ci, 0) a = .inr (ci, fs.set k v)) (hrr : ∀ b y, b ≠ a → rend E w' y b = rend E w y b) (hdg : decode cc pc = .ok (.putfield index, 3))
    (kk : ∀ (H1 : Heap) (locs1 : List Loc), HQ E K z w' s H1 locs1 → W p l e R s m args below meth c H1 locs1 cells slots Q (F0 m (pc + 3) ls rest)) : W p l e R s m args below meth c H locs cells slots Q (F0 m pc ls (v :: rv E r :: rest)) := by
  subst hr
  have hap := va_apart (own := own) hts hin ty0 hty hnm hKs.1 hc
  have h0 := hH.1 a _ hKa
  rw [hfs] at h0
  obtain ⟨r, h1, cell, q1, q2, q3, q4⟩ := h0
  have hr : r = (C, T, N) := Option.some.inj (h1.symm.trans hc)
  subst hr
  obtain ⟨hS, hfc, kC, hkC, hkind⟩ := hKs.1.1 ci _ hc
  obtain ⟨cf, kf, fi, f, hi, hsl⟩ := hS k hk
  have hlay := hts _ (hin _ (u_in_lay hk))
  unfold u_lay at hlay
  rw [if_neg (by rw [hfin]; decide)] at hlay
  have hst := (u_facts hfc hkC (u_lays hts hin hk) hi).1
  have h6 := u_store hfc hkC hkind hlay hi hd hn hfit
  refine W.putK hexec hb (f := f) ⟨hown, hts _ hlink, ⟨_, _, _, hi⟩, hst⟩ (by rw [q2]; exact h6) q1 q3 (by rw [hsl]; exact k2_hasslot (q4 k hk)) rfl rfl hdg fun H' e1 e2 e3 => ?_
  rw [hsl] at e1 ⊢
  refine kk H' _ ⟨hH.1.put hKa e3 ?_ hrr, hH.2.1.put e2 e3 (Nat.le_add_right _ _), e2.trans hH.2.2⟩
  rw [hw']
  exact ⟨_, hc, t_OB.to (V := updV (vp_V fs) k v) ⟨_, e1, q2, q3, t_set q4 hap hk v⟩ (fun j _ => vp_updV_set hl v j)⟩
theorem hw_putN (hexec : p.tables.exec = Jvm.exec) (hb : c.code = cc) {own C host : String} {T : u_T} {N ci index : Nat} (hts : ∀ w ∈ bt, w.before args s = true) (hin : ∀ w ∈ u_ws C T N, w ∈ bt) (ty0 : Nat → FieldType) (hty : ∀ k, k < N → parseFieldDescriptor (T k).2.2.1 = some (ty0 k)) (hnm : ∀ a, a < N → ∀ b, b < N → a ≠ b → (T a).2.1 ≠ (T b).2.1) (hown : s.vm.findClass own = some m.cls) (hKs : HK E s) (hH : HQ E K z w s H locs) (hc : vwCl[ci]? = some (C, T, N)) {r : Option Nat} {a : Nat} (hr : r = some a) (hKa : K a = some (ci, 0)) {fs : List Value} (hfs : rend E w (ci, 0) a = .inr (ci, fs)) (k : Nat) (hk : k < N) (hlink : Cond.fieldLinkNest own index (T k).1 (T k).2.1 (T k).2.2.1 host ∈ nb) (hfin : (T k).2.2.2 = false) {ty : FieldType} {v : Value} (hd : parseFieldDescriptor (T k).2.2.1 = some ty) (hn : narrow ty v = v) (hfit : fits ty v = true) (hl : k < fs.length) {w' : Wd} (hw' : rend E w' (ci, 0) a = .inr (ci, fs.set k v)) (hrr : ∀ b y, b ≠ a → rend E w' y b = rend E w y b) (hdg : decode cc pc = .ok (.putfield index, 3))
    (kk : ∀ (H1 : Heap) (locs1 : List Loc), HQ E K z w' s H1 locs1 → W p l e R s m args below meth c H1 locs1 cells slots Q (F0 m (pc + 3) ls rest)) : W p l e R s m args below meth c H locs cells slots Q (F0 m pc ls (v :: rv E r :: rest)) := by
  subst hr
  have hap := va_apart (own := own) hts hin ty0 hty hnm hKs.1 hc
  have h0 := hH.1 a _ hKa
  rw [hfs] at h0
  obtain ⟨r, h1, cell, q1, q2, q3, q4⟩ := h0
  have hr : r = (C, T, N) := Option.some.inj (h1.symm.trans hc)
  subst hr
  obtain ⟨hS, hfc, kC, hkC, hkind⟩ := hKs.1.1 ci _ hc
  obtain ⟨cf, kf, fi, f, hi, hsl⟩ := hS k hk
  have hlay := hts _ (hin _ (u_in_lay hk))
  unfold u_lay at hlay
  rw [if_neg (by rw [hfin]; decide)] at hlay
  have hst := (u_facts hfc hkC (u_lays hts hin hk) hi).1
  have h6 := u_store hfc hkC hkind hlay hi hd hn hfit
  refine va_WputK hexec hb (f := f) hown (va_Nw.use rfl (hKs.2 _ hlink)) hi hst (by rw [q2]; exact h6) q1 q3 (by rw [hsl]; exact k2_hasslot (q4 k hk)) rfl rfl hdg fun H' e1 e2 e3 => ?_
  rw [hsl] at e1 ⊢
  refine kk H' _ ⟨hH.1.put hKa e3 ?_ hrr, hH.2.1.put e2 e3 (Nat.le_add_right _ _), e2.trans hH.2.2⟩
  rw [hw']
  exact ⟨_, hc, t_OB.to (V := updV (vp_V fs) k v) ⟨_, e1, q2, q3, t_set q4 hap hk v⟩ (fun j _ => vp_updV_set hl v j)⟩
theorem hw_iald (hexec : p.tables.exec = Jvm.exec) (hb : c.code = cc) (hKs : HK E s) (hH : HQ E K z w s H locs) {r : Option Nat} {a n : Nat} (hr : r = some a) (hKa : K a = some (20, n)) {i : Int32} {j : Nat} (hj : ixa i n = some j) (hdg : decode cc pc = .ok (.iaload, 1))
    (kk : W p l e R s m args below meth c H locs cells slots Q (F0 m (pc + 1) ls (.int (aI w a j) :: rest))) : W p l e R s m args below meth c H locs cells slots Q (F0 m pc ls (.int i :: rv E r :: rest)) := by
  subst hr
  obtain ⟨h1, rfl⟩ := ixa_some hj
  exact va_iald (ws := [(E.2.1 + a, .inl (E.2.2.1 20, n, .inl (aI w a)))]) hexec hb hKs.1 (one_P (hH.1 a _ hKa)) 0 0 rfl rfl h1 hdg kk
theorem hw_bald (hexec : p.tables.exec = Jvm.exec) (hb : c.code = cc) (hKs : HK E s) (hH : HQ E K z w s H locs) {r : Option Nat} {a n : Nat} (hr : r = some a) (hKa : K a = some (21, n)) {i : Int32} {j : Nat} (hj : ixa i n = some j) (hdg : decode cc pc = .ok (.baload, 1))
    (kk : W p l e R s m args below meth c H locs cells slots Q (F0 m (pc + 1) ls (.int (aI w a j) :: rest))) : W p l e R s m args below meth c H locs cells slots Q (F0 m pc ls (.int i :: rv E r :: rest)) := by
  subst hr
  obtain ⟨h1, rfl⟩ := ixa_some hj
  exact va_bald (ws := [(E.2.1 + a, .inl (E.2.2.1 21, n, .inl (aI w a)))]) hexec hb hKs.1 (one_P (hH.1 a _ hKa)) 0 1 rfl rfl h1 hdg kk
theorem hw_zald (hexec : p.tables.exec = Jvm.exec) (hb : c.code = cc) (hKs : HK E s) (hH : HQ E K z w s H locs) {r : Option Nat} {a n : Nat} (hr : r = some a) (hKa : K a = some (22, n)) {i : Int32} {j : Nat} (hj : ixa i n = some j) (hdg : decode cc pc = .ok (.baload, 1))
    (kk : W p l e R s m args below meth c H locs cells slots Q (F0 m (pc + 1) ls (.int (aI w a j) :: rest))) : W p l e R s m args below meth c H locs cells slots Q (F0 m pc ls (.int i :: rv E r :: rest)) := by
  subst hr
  obtain ⟨h1, rfl⟩ := ixa_some hj
  exact va_zald (ws := [(E.2.1 + a, .inl (E.2.2.1 22, n, .inl (aI w a)))]) hexec hb hKs.1 (one_P (hH.1 a _ hKa)) 0 2 rfl rfl h1 hdg kk
theorem hw_lald (hexec : p.tables.exec = Jvm.exec) (hb : c.code = cc) (hKs : HK E s) (hH : HQ E K z w s H locs) {r : Option Nat} {a n : Nat} (hr : r = some a) (hKa : K a = some (23, n)) {i : Int32} {j : Nat} (hj : ixa i n = some j) (hdg : decode cc pc = .ok (.laload, 1))
    (kk : W p l e R s m args below meth c H locs cells slots Q (F0 m (pc + 1) ls (.long (aJ w a j) :: rest))) : W p l e R s m args below meth c H locs cells slots Q (F0 m pc ls (.int i :: rv E r :: rest)) := by
  subst hr
  obtain ⟨h1, rfl⟩ := ixa_some hj
  exact va_lald (ws := [(E.2.1 + a, .inl (E.2.2.1 23, n, .inr (.inl (aJ w a))))]) hexec hb hKs.1 (one_P (hH.1 a _ hKa)) 0 3 rfl rfl h1 hdg kk
theorem hw_dald (hexec : p.tables.exec = Jvm.exec) (hb : c.code = cc) (hKs : HK E s) (hH : HQ E K z w s H locs) {r : Option Nat} {a n : Nat} (hr : r = some a) (hKa : K a = some (24, n)) {i : Int32} {j : Nat} (hj : ixa i n = some j) (hdg : decode cc pc = .ok (.daload, 1))
    (kk : W p l e R s m args below meth c H locs cells slots Q (F0 m (pc + 1) ls (.double (aD w a j) :: rest))) : W p l e R s m args below meth c H locs cells slots Q (F0 m pc ls (.int i :: rv E r :: rest)) := by
  subst hr
  obtain ⟨h1, rfl⟩ := ixa_some hj
  exact va_dald (ws := [(E.2.1 + a, .inl (E.2.2.1 24, n, .inr (.inr (.inr (.inl (aD w a))))))]) hexec hb hKs.1 (one_P (hH.1 a _ hKa)) 0 4 rfl rfl h1 hdg kk
theorem hw_iast (hexec : p.tables.exec = Jvm.exec) (hb : c.code = cc) (hKs : HK E s) (hH : HQ E K z w s H locs) {r : Option Nat} {a n : Nat} (hr : r = some a) (hKa : K a = some (20, n)) {i : Int32} {j : Nat} (hj : ixa i n = some j) {x : Int32} (hdg : decode cc pc = .ok (.iastore, 1))
    (kk : ∀ (H1 : Heap) (locs1 : List Loc), HQ E K z (tI w a j x) s H1 locs1 → W p l e R s m args below meth c H1 locs1 cells slots Q (F0 m (pc + 1) ls rest)) : W p l e R s m args below meth c H locs cells slots Q (F0 m pc ls (.int x :: .int i :: rv E r :: rest)) := by
  subst hr
  obtain ⟨h1, rfl⟩ := ixa_some hj
  have h0 := hH.1 a _ hKa
  refine W.iast hexec hb h0 ((hKs.1.2 0 _ rfl).1 n (fun j => .int (aI w a j))) (fun q => by cases q) (by show ¬ (i < 0 ∨ (arrV _ _ _).slots.size ≤ _); rw [arrV_size]; exact h1) rfl rfl hdg fun H1 e1 e2 e3 => ?_
  refine kk H1 _ ⟨hH.1.put hKa e3 ?_ (fun b y hb => rend_tI hb), hH.2.1.put e2 e3 (Nat.le_add_right _ _), e2.trans hH.2.2⟩
  show H1[E.2.1 + a]? = some (vp_cell _ _)
  rw [e1]
  show some (Cell.setSlot (vp_cell _ (n, .inl (aI w a))) _ _) = some (vp_cell _ (n, .inl (aI (tI w a i.toNatClampNeg x) a)))
  rw [vp_cell_i, vp_cell_i, arrV_store]
  congr 2
  funext q
  by_cases hq : q = i.toNatClampNeg
  · subst hq; simp [updV, aI, tI, up2]
  · simp [updV, aI, tI, up2, hq]
theorem hw_bast (hexec : p.tables.exec = Jvm.exec) (hb : c.code = cc) (hKs : HK E s) (hH : HQ E K z w s H locs) {r : Option Nat} {a n : Nat} (hr : r = some a) (hKa : K a = some (21, n)) {i : Int32} {j : Nat} (hj : ixa i n = some j) {x : Int32} (hdg : decode cc pc = .ok (.bastore, 1))
    (kk : ∀ (H1 : Heap) (locs1 : List Loc), HQ E K z (tI w a j (vp_nar .byte x)) s H1 locs1 → W p l e R s m args below meth c H1 locs1 cells slots Q (F0 m (pc + 1) ls rest)) : W p l e R s m args below meth c H locs cells slots Q (F0 m pc ls (.int x :: .int i :: rv E r :: rest)) := by
  subst hr
  obtain ⟨h1, rfl⟩ := ixa_some hj
  have h0 := hH.1 a _ hKa
  refine W.bast hexec hb h0 ((hKs.1.2 1 _ rfl).1 n (fun j => .int (aI w a j))) (fun q => by cases q) (by show ¬ (i < 0 ∨ (arrV _ _ _).slots.size ≤ _); rw [arrV_size]; exact h1) rfl rfl hdg fun H1 e1 e2 e3 => ?_
  refine kk H1 _ ⟨hH.1.put hKa e3 ?_ (fun b y hb => rend_tI hb), hH.2.1.put e2 e3 (Nat.le_add_right _ _), e2.trans hH.2.2⟩
  show H1[E.2.1 + a]? = some (vp_cell _ _)
  rw [e1]
  show some (Cell.setSlot (vp_cell _ (n, .inl (aI w a))) _ _) = some (vp_cell _ (n, .inl (aI (tI w a i.toNatClampNeg (vp_nar .byte x)) a)))
  rw [vp_cell_i, vp_cell_i, arrV_store]
  congr 2
  funext q
  by_cases hq : q = i.toNatClampNeg
  · subst hq; simp [updV, aI, tI, up2, vp_nar, narrow]
  · simp [updV, aI, tI, up2, hq]
theorem hw_zast (hexec : p.tables.exec = Jvm.exec) (hb : c.code = cc) (hKs : HK E s) (hH : HQ E K z w s H locs) {r : Option Nat} {a n : Nat} (hr : r = some a) (hKa : K a = some (22, n)) {i : Int32} {j : Nat} (hj : ixa i n = some j) {x : Int32} (hdg : decode cc pc = .ok (.bastore, 1))
    (kk : ∀ (H1 : Heap) (locs1 : List Loc), HQ E K z (tI w a j (vp_nar .boolean x)) s H1 locs1 → W p l e R s m args below meth c H1 locs1 cells slots Q (F0 m (pc + 1) ls rest)) : W p l e R s m args below meth c H locs cells slots Q (F0 m pc ls (.int x :: .int i :: rv E r :: rest)) := by
  subst hr
  obtain ⟨h1, rfl⟩ := ixa_some hj
  have h0 := hH.1 a _ hKa
  refine W.zast hexec hb h0 ((hKs.1.2 2 _ rfl).1 n (fun j => .int (aI w a j))) (fun q => by cases q) (by show ¬ (i < 0 ∨ (arrV _ _ _).slots.size ≤ _); rw [arrV_size]; exact h1) rfl rfl hdg fun H1 e1 e2 e3 => ?_
  refine kk H1 _ ⟨hH.1.put hKa e3 ?_ (fun b y hb => rend_tI hb), hH.2.1.put e2 e3 (Nat.le_add_right _ _), e2.trans hH.2.2⟩
  show H1[E.2.1 + a]? = some (vp_cell _ _)
  rw [e1]
  show some (Cell.setSlot (vp_cell _ (n, .inl (aI w a))) _ _) = some (vp_cell _ (n, .inl (aI (tI w a i.toNatClampNeg (vp_nar .boolean x)) a)))
  rw [vp_cell_i, vp_cell_i, arrV_store]
  congr 2
  funext q
  by_cases hq : q = i.toNatClampNeg
  · subst hq; simp [updV, aI, tI, up2, vp_nar, narrow]
  · simp [updV, aI, tI, up2, hq]
theorem hw_last (hexec : p.tables.exec = Jvm.exec) (hb : c.code = cc) (hKs : HK E s) (hH : HQ E K z w s H locs) {r : Option Nat} {a n : Nat} (hr : r = some a) (hKa : K a = some (23, n)) {i : Int32} {j : Nat} (hj : ixa i n = some j) {x : Int64} (hdg : decode cc pc = .ok (.lastore, 1))
    (kk : ∀ (H1 : Heap) (locs1 : List Loc), HQ E K z (tJ w a j x) s H1 locs1 → W p l e R s m args below meth c H1 locs1 cells slots Q (F0 m (pc + 1) ls rest)) : W p l e R s m args below meth c H locs cells slots Q (F0 m pc ls (.long x :: .int i :: rv E r :: rest)) := by
  subst hr
  obtain ⟨h1, rfl⟩ := ixa_some hj
  have h0 := hH.1 a _ hKa
  refine W.last hexec hb h0 ((hKs.1.2 3 _ rfl).1 n (fun j => .long (aJ w a j))) (fun q => by cases q) (by show ¬ (i < 0 ∨ (arrV _ _ _).slots.size ≤ _); rw [arrV_size]; exact h1) rfl rfl hdg fun H1 e1 e2 e3 => ?_
  refine kk H1 _ ⟨hH.1.put hKa e3 ?_ (fun b y hb => rend_tJ hb), hH.2.1.put e2 e3 (Nat.le_add_right _ _), e2.trans hH.2.2⟩
  show H1[E.2.1 + a]? = some (vp_cell _ _)
  rw [e1]
  show some (Cell.setSlot (vp_cell _ (n, .inr (.inl (aJ w a)))) _ _) = some (vp_cell _ (n, .inr (.inl (aJ (tJ w a i.toNatClampNeg x) a))))
  rw [vp_cell_l, vp_cell_l, arrV_store]
  congr 2
  funext q
  by_cases hq : q = i.toNatClampNeg
  · subst hq; simp [updV, aJ, tJ, up2]
  · simp [updV, aJ, tJ, up2, hq]
theorem hw_dast (hexec : p.tables.exec = Jvm.exec) (hb : c.code = cc) (hKs : HK E s) (hH : HQ E K z w s H locs) {r : Option Nat} {a n : Nat} (hr : r = some a) (hKa : K a = some (24, n)) {i : Int32} {j : Nat} (hj : ixa i n = some j) {x : UInt64} (hdg : decode cc pc = .ok (.dastore, 1))
    (kk : ∀ (H1 : Heap) (locs1 : List Loc), HQ E K z (tD w a j x) s H1 locs1 → W p l e R s m args below meth c H1 locs1 cells slots Q (F0 m (pc + 1) ls rest)) : W p l e R s m args below meth c H locs cells slots Q (F0 m pc ls (.double x :: .int i :: rv E r :: rest)) := by
  subst hr
  obtain ⟨h1, rfl⟩ := ixa_some hj
  have h0 := hH.1 a _ hKa
  refine W.dast hexec hb h0 ((hKs.1.2 4 _ rfl).1 n (fun j => .double (aD w a j))) (fun q => by cases q) (by show ¬ (i < 0 ∨ (arrV _ _ _).slots.size ≤ _); rw [arrV_size]; exact h1) rfl rfl hdg fun H1 e1 e2 e3 => ?_
  refine kk H1 _ ⟨hH.1.put hKa e3 ?_ (fun b y hb => rend_tD hb), hH.2.1.put e2 e3 (Nat.le_add_right _ _), e2.trans hH.2.2⟩
  show H1[E.2.1 + a]? = some (vp_cell _ _)
  rw [e1]
  show some (Cell.setSlot (vp_cell _ (n, .inr (.inr (.inr (.inl (aD w a)))))) _ _) = some (vp_cell _ (n, .inr (.inr (.inr (.inl (aD (tD w a i.toNatClampNeg x) a))))))
  rw [vp_cell_d, vp_cell_d, arrV_store]
  congr 2
  funext q
  by_cases hq : q = i.toNatClampNeg
  · subst hq; simp [updV, aD, tD, up2]
  · simp [updV, aD, tD, up2, hq]
theorem hw_aald25 (hexec : p.tables.exec = Jvm.exec) (hb : c.code = cc) (hKs : HK E s) (hH : HQ E K z w s H locs) {r : Option Nat} {a n : Nat} (hr : r = some a) (hKa : K a = some (25, n)) {i : Int32} {j : Nat} (hj : ixa i n = some j) (hdg : decode cc pc = .ok (.aaload, 1))
    (kk : W p l e R s m args below meth c H locs cells slots Q (F0 m (pc + 1) ls (rv E (aR w a j) :: rest))) : W p l e R s m args below meth c H locs cells slots Q (F0 m pc ls (.int i :: rv E r :: rest)) := by
  subst hr
  obtain ⟨h1, rfl⟩ := ixa_some hj
  exact va_aldq (ws := [(E.2.1 + a, .inl (E.2.2.1 25, n, .inr (.inr (.inr (.inr (fun j => (aR w a j).map (fun b => E.2.1 + b)))))))]) hexec hb hKs.1 (one_P (hH.1 a _ hKa)) 0 5 rfl rfl h1 hdg kk
theorem hw_aald26 (hexec : p.tables.exec = Jvm.exec) (hb : c.code = cc) (hKs : HK E s) (hH : HQ E K z w s H locs) {r : Option Nat} {a n : Nat} (hr : r = some a) (hKa : K a = some (26, n)) {i : Int32} {j : Nat} (hj : ixa i n = some j) (hdg : decode cc pc = .ok (.aaload, 1))
    (kk : W p l e R s m args below meth c H locs cells slots Q (F0 m (pc + 1) ls (rv E (aR w a j) :: rest))) : W p l e R s m args below meth c H locs cells slots Q (F0 m pc ls (.int i :: rv E r :: rest)) := by
  subst hr
  obtain ⟨h1, rfl⟩ := ixa_some hj
  exact va_aldq (ws := [(E.2.1 + a, .inl (E.2.2.1 26, n, .inr (.inr (.inr (.inr (fun j => (aR w a j).map (fun b => E.2.1 + b)))))))]) hexec hb hKs.1 (one_P (hH.1 a _ hKa)) 0 6 rfl rfl h1 hdg kk
theorem hw_aald27 (hexec : p.tables.exec = Jvm.exec) (hb : c.code = cc) (hKs : HK E s) (hH : HQ E K z w s H locs) {r : Option Nat} {a n : Nat} (hr : r = some a) (hKa : K a = some (27, n)) {i : Int32} {j : Nat} (hj : ixa i n = some j) (hdg : decode cc pc = .ok (.aaload, 1))
    (kk : W p l e R s m args below meth c H locs cells slots Q (F0 m (pc + 1) ls (rv E (aR w a j) :: rest))) : W p l e R s m args below meth c H locs cells slots Q (F0 m pc ls (.int i :: rv E r :: rest)) := by
  subst hr
  obtain ⟨h1, rfl⟩ := ixa_some hj
  exact va_aldq (ws := [(E.2.1 + a, .inl (E.2.2.1 27, n, .inr (.inr (.inr (.inr (fun j => (aR w a j).map (fun b => E.2.1 + b)))))))]) hexec hb hKs.1 (one_P (hH.1 a _ hKa)) 0 7 rfl rfl h1 hdg kk
theorem hw_aald28 (hexec : p.tables.exec = Jvm.exec) (hb : c.code = cc) (hKs : HK E s) (hH : HQ E K z w s H locs) {r : Option Nat} {a n : Nat} (hr : r = some a) (hKa : K a = some (28, n)) {i : Int32} {j : Nat} (hj : ixa i n = some j) (hdg : decode cc pc = .ok (.aaload, 1))
    (kk : W p l e R s m args below meth c H locs cells slots Q (F0 m (pc + 1) ls (rv E (aR w a j) :: rest))) : W p l e R s m args below meth c H locs cells slots Q (F0 m pc ls (.int i :: rv E r :: rest)) := by
  subst hr
  obtain ⟨h1, rfl⟩ := ixa_some hj
  exact va_aldq (ws := [(E.2.1 + a, .inl (E.2.2.1 28, n, .inr (.inr (.inr (.inr (fun j => (aR w a j).map (fun b => E.2.1 + b)))))))]) hexec hb hKs.1 (one_P (hH.1 a _ hKa)) 0 8 rfl rfl h1 hdg kk
theorem hw_alen20 (hexec : p.tables.exec = Jvm.exec) (hb : c.code = cc) (hKs : HK E s) (hH : HQ E K z w s H locs) {r : Option Nat} {a n : Nat} (hr : r = some a) (hKa : K a = some (20, n)) (hdg : decode cc pc = .ok (.arraylength, 1))
    (kk : W p l e R s m args below meth c H locs cells slots Q (F0 m (pc + 1) ls (.int (nI n) :: rest))) : W p l e R s m args below meth c H locs cells slots Q (F0 m pc ls (rv E r :: rest)) := by
  subst hr
  exact va_alen (ws := [(E.2.1 + a, .inl (E.2.2.1 20, n, .inl (aI w a)))]) hexec hb hKs.1 (one_P (hH.1 a _ hKa)) 0 0 rfl rfl rfl hdg kk
theorem hw_alen21 (hexec : p.tables.exec = Jvm.exec) (hb : c.code = cc) (hKs : HK E s) (hH : HQ E K z w s H locs) {r : Option Nat} {a n : Nat} (hr : r = some a) (hKa : K a = some (21, n)) (hdg : decode cc pc = .ok (.arraylength, 1))
    (kk : W p l e R s m args below meth c H locs cells slots Q (F0 m (pc + 1) ls (.int (nI n) :: rest))) : W p l e R s m args below meth c H locs cells slots Q (F0 m pc ls (rv E r :: rest)) := by
  subst hr
  exact va_alen (ws := [(E.2.1 + a, .inl (E.2.2.1 21, n, .inl (aI w a)))]) hexec hb hKs.1 (one_P (hH.1 a _ hKa)) 0 1 rfl rfl rfl hdg kk
theorem hw_alen22 (hexec : p.tables.exec = Jvm.exec) (hb : c.code = cc) (hKs : HK E s) (hH : HQ E K z w s H locs) {r : Option Nat} {a n : Nat} (hr : r = some a) (hKa : K a = some (22, n)) (hdg : decode cc pc = .ok (.arraylength, 1))
    (kk : W p l e R s m args below meth c H locs cells slots Q (F0 m (pc + 1) ls (.int (nI n) :: rest))) : W p l e R s m args below meth c H locs cells slots Q (F0 m pc ls (rv E r :: rest)) := by
  subst hr
  exact va_alen (ws := [(E.2.1 + a, .inl (E.2.2.1 22, n, .inl (aI w a)))]) hexec hb hKs.1 (one_P (hH.1 a _ hKa)) 0 2 rfl rfl rfl hdg kk
theorem hw_alen23 (hexec : p.tables.exec = Jvm.exec) (hb : c.code = cc) (hKs : HK E s) (hH : HQ E K z w s H locs) {r : Option Nat} {a n : Nat} (hr : r = some a) (hKa : K a = some (23, n)) (hdg : decode cc pc = .ok (.arraylength, 1))
    (kk : W p l e R s m args below meth c H locs cells slots Q (F0 m (pc + 1) ls (.int (nI n) :: rest))) : W p l e R s m args below meth c H locs cells slots Q (F0 m pc ls (rv E r :: rest)) := by
  subst hr
  exact va_alen (ws := [(E.2.1 + a, .inl (E.2.2.1 23, n, .inr (.inl (aJ w a))))]) hexec hb hKs.1 (one_P (hH.1 a _ hKa)) 0 3 rfl rfl rfl hdg kk
theorem hw_alen24 (hexec : p.tables.exec = Jvm.exec) (hb : c.code = cc) (hKs : HK E s) (hH : HQ E K z w s H locs) {r : Option Nat} {a n : Nat} (hr : r = some a) (hKa : K a = some (24, n)) (hdg : decode cc pc = .ok (.arraylength, 1))
    (kk : W p l e R s m args below meth c H locs cells slots Q (F0 m (pc + 1) ls (.int (nI n) :: rest))) : W p l e R s m args below meth c H locs cells slots Q (F0 m pc ls (rv E r :: rest)) := by
  subst hr
  exact va_alen (ws := [(E.2.1 + a, .inl (E.2.2.1 24, n, .inr (.inr (.inr (.inl (aD w a))))))]) hexec hb hKs.1 (one_P (hH.1 a _ hKa)) 0 4 rfl rfl rfl hdg kk
theorem hw_alen25 (hexec : p.tables.exec = Jvm.exec) (hb : c.code = cc) (hKs : HK E s) (hH : HQ E K z w s H locs) {r : Option Nat} {a n : Nat} (hr : r = some a) (hKa : K a = some (25, n)) (hdg : decode cc pc = .ok (.arraylength, 1))
    (kk : W p l e R s m args below meth c H locs cells slots Q (F0 m (pc + 1) ls (.int (nI n) :: rest))) : W p l e R s m args below meth c H locs cells slots Q (F0 m pc ls (rv E r :: rest)) := by
  subst hr
  exact va_alen (ws := [(E.2.1 + a, .inl (E.2.2.1 25, n, .inr (.inr (.inr (.inr (fun j => (aR w a j).map (fun b => E.2.1 + b)))))))]) hexec hb hKs.1 (one_P (hH.1 a _ hKa)) 0 5 rfl rfl rfl hdg kk
theorem hw_alen26 (hexec : p.tables.exec = Jvm.exec) (hb : c.code = cc) (hKs : HK E s) (hH : HQ E K z w s H locs) {r : Option Nat} {a n : Nat} (hr : r = some a) (hKa : K a = some (26, n)) (hdg : decode cc pc = .ok (.arraylength, 1))
    (kk : W p l e R s m args below meth c H locs cells slots Q (F0 m (pc + 1) ls (.int (nI n) :: rest))) : W p l e R s m args below meth c H locs cells slots Q (F0 m pc ls (rv E r :: rest)) := by
  subst hr
  exact va_alen (ws := [(E.2.1 + a, .inl (E.2.2.1 26, n, .inr (.inr (.inr (.inr (fun j => (aR w a j).map (fun b => E.2.1 + b)))))))]) hexec hb hKs.1 (one_P (hH.1 a _ hKa)) 0 6 rfl rfl rfl hdg kk
theorem hw_alen27 (hexec : p.tables.exec = Jvm.exec) (hb : c.code = cc) (hKs : HK E s) (hH : HQ E K z w s H locs) {r : Option Nat} {a n : Nat} (hr : r = some a) (hKa : K a = some (27, n)) (hdg : decode cc pc = .ok (.arraylength, 1))
    (kk : W p l e R s m args below meth c H locs cells slots Q (F0 m (pc + 1) ls (.int (nI n) :: rest))) : W p l e R s m args below meth c H locs cells slots Q (F0 m pc ls (rv E r :: rest)) := by
  subst hr
  exact va_alen (ws := [(E.2.1 + a, .inl (E.2.2.1 27, n, .inr (.inr (.inr (.inr (fun j => (aR w a j).map (fun b => E.2.1 + b)))))))]) hexec hb hKs.1 (one_P (hH.1 a _ hKa)) 0 7 rfl rfl rfl hdg kk
theorem hw_alen28 (hexec : p.tables.exec = Jvm.exec) (hb : c.code = cc) (hKs : HK E s) (hH : HQ E K z w s H locs) {r : Option Nat} {a n : Nat} (hr : r = some a) (hKa : K a = some (28, n)) (hdg : decode cc pc = .ok (.arraylength, 1))
    (kk : W p l e R s m args below meth c H locs cells slots Q (F0 m (pc + 1) ls (.int (nI n) :: rest))) : W p l e R s m args below meth c H locs cells slots Q (F0 m pc ls (rv E r :: rest)) := by
  subst hr
  exact va_alen (ws := [(E.2.1 + a, .inl (E.2.2.1 28, n, .inr (.inr (.inr (.inr (fun j => (aR w a j).map (fun b => E.2.1 + b)))))))]) hexec hb hKs.1 (one_P (hH.1 a _ hKa)) 0 8 rfl rfl rfl hdg kk
theorem hl_aload_n (hexec : p.tables.exec = Jvm.exec) (hb : c.code = cc) {k : Fin 4} {i : Nat} {x : Option Nat} (hdg : decode cc pc = .ok (.aload_n k, 1)) (hi : (k : Nat) = i) (hl : ls[i]? = some (.val (va_rf x)))
    (kk : W p l e R s m args below meth c H locs cells slots Q (F0 m (pc + 1) ls (va_rf x :: rest))) : W p l e R s m args below meth c H locs cells slots Q (F0 m pc ls rest) := by
  cases x with
  | none => exact lv_aload_nN hexec hb hdg hi hl kk
  | some a => exact lv_aload_n hexec hb hdg hi hl kk
theorem hl_aload (hexec : p.tables.exec = Jvm.exec) (hb : c.code = cc) {i : Nat} {x : Option Nat} (hdg : decode cc pc = .ok (.aload i, 2)) (hl : ls[i]? = some (.val (va_rf x)))
    (kk : W p l e R s m args below meth c H locs cells slots Q (F0 m (pc + 2) ls (va_rf x :: rest))) : W p l e R s m args below meth c H locs cells slots Q (F0 m pc ls rest) := by
  cases x with
  | none => exact lv_aloadN hexec hb hdg hl kk
  | some a => exact lv_aload hexec hb hdg hl kk
theorem hl_astore_n (hexec : p.tables.exec = Jvm.exec) (hb : c.code = cc) {k : Fin 4} {i nL : Nat} {x : Option Nat} {lv lv' : List (Nat × Value)} (hdg : decode cc pc = .ok (.astore_n k, 1)) (hi : (k : Nat) = i) (h : lv_has ls nL lv) (hn : i < nL) (hl : (i, va_rf x) :: lv.filter (fun q => !(q.1 == i) && !(q.1 + 1 == i && q.2.category == 2)) = lv')
    (kk : ∀ ls' : Array Slot, lv_has ls' nL lv' → W p l e R s m args below meth c H locs cells slots Q (F0 m (pc + 1) ls' rest)) : W p l e R s m args below meth c H locs cells slots Q (F0 m pc ls (va_rf x :: rest)) := by
  cases x with
  | none => exact lv_astore_nN hexec hb hdg hi h hn hl kk
  | some a => exact lv_astore_n hexec hb hdg hi h hn hl kk
theorem hl_astore (hexec : p.tables.exec = Jvm.exec) (hb : c.code = cc) {i nL : Nat} {x : Option Nat} {lv lv' : List (Nat × Value)} (hdg : decode cc pc = .ok (.astore i, 2)) (h : lv_has ls nL lv) (hn : i < nL) (hl : (i, va_rf x) :: lv.filter (fun q => !(q.1 == i) && !(q.1 + 1 == i && q.2.category == 2)) = lv')
    (kk : ∀ ls' : Array Slot, lv_has ls' nL lv' → W p l e R s m args below meth c H locs cells slots Q (F0 m (pc + 2) ls' rest)) : W p l e R s m args below meth c H locs cells slots Q (F0 m pc ls (va_rf x :: rest)) := by
  cases x with
  | none => exact lv_astoreN hexec hb hdg h hn hl kk
  | some a => exact lv_astore hexec hb hdg h hn hl kk
theorem hw_iret (hexec : p.tables.exec = Jvm.exec) (hb : c.code = cc) (hret : meth.sig.returnType = some .int) {v r : Int32} {w' : Wd} (hf : some (v, w) = some (r, w')) (hH : HQ E K z w s H locs) (hlocks : meth.locks = false) (hdg : decode cc pc = .ok (.ireturn, 1)) : W p l e R s m args below meth c H locs 0 0 (MQ below (QI E K z w' r) args s 0 0 (hA E)) (F0 m pc ls [.int v]) := by
  cases hf
  exact W.iret hexec hb hret (fun t ht hW => ⟨⟨v, (), rfl, rfl, by rw [ht]; exact hH.2.2, by rw [ht]; exact hH.1⟩, hH.2.1.F ht⟩) hH.2.1.2.2 hdg hlocks
theorem hw_zret (hexec : p.tables.exec = Jvm.exec) (hb : c.code = cc) (hret : meth.sig.returnType = some .boolean) {v : Int32} {b r : Bool} {w' : Wd} (hv : v = b2i b) (hf : some (b, w) = some (r, w')) (hH : HQ E K z w s H locs) (hlocks : meth.locks = false) (hdg : decode cc pc = .ok (.ireturn, 1)) : W p l e R s m args below meth c H locs 0 0 (MQ below (QI E K z w' (b2i r)) args s 0 0 (hA E)) (F0 m pc ls [.int v]) := by
  cases hf
  exact W.zret hexec hb hret (by rw [hv]; cases b <;> rfl) (fun t ht hW => ⟨⟨v, (), rfl, hv, by rw [ht]; exact hH.2.2, by rw [ht]; exact hH.1⟩, hH.2.1.F ht⟩) hH.2.1.2.2 hdg hlocks
theorem hw_lret (hexec : p.tables.exec = Jvm.exec) (hb : c.code = cc) (hret : meth.sig.returnType = some .long) {v r : Int64} {w' : Wd} (hf : some (v, w) = some (r, w')) (hH : HQ E K z w s H locs) (hlocks : meth.locks = false) (hdg : decode cc pc = .ok (.lreturn, 1)) : W p l e R s m args below meth c H locs 0 0 (MQ below (QL E K z w' r) args s 0 0 (hA E)) (F0 m pc ls [.long v]) := by
  cases hf
  exact W.lret hexec hb hret (fun t ht hW => ⟨⟨v, (), rfl, rfl, by rw [ht]; exact hH.2.2, by rw [ht]; exact hH.1⟩, hH.2.1.F ht⟩) hH.2.1.2.2 hdg hlocks
theorem hw_vret (hexec : p.tables.exec = Jvm.exec) (hb : c.code = cc) (hret : meth.sig.returnType = none) {w' : Wd} (hf : some w = some w') (hH : HQ E K z w s H locs) (hlocks : meth.locks = false) (hdg : decode cc pc = .ok (.return_, 1)) : W p l e R s m args below meth c H locs 0 0 (MQ below (QV E K z w') args s 0 0 (hA E)) (F0 m pc ls []) := by
  cases hf
  exact W.vret hexec hb hret (fun t ht hW => ⟨⟨(), rfl, trivial, by rw [ht]; exact hH.2.2, by rw [ht]; exact hH.1⟩, hH.2.1.F ht⟩) hH.2.1.2.2 hdg hlocks
theorem hcV_i (hexec : p.tables.exec = Jvm.exec) (hb : c.code = cc) {own : String} {nL : Nat} (hml : c.maxLocals = nL) (hown : s.vm.findClass own = some m.cls) (hts : ∀ w ∈ bt, w.before args s = true) (hKs : HK E s) (hT : HT E s s.heap) (hb0 : E.2.1 ≤ s.heap.size) (hH : HQ E K z w s H locs) {y : MethodName} {bytes : ByteArray} {maxL nn index : Nat} {ret : Option FieldType} {rm : Room} {As : List Value} {st0 : List Value} {r0 : Int32} {w' : Wd} {a ci : Nat} {C : String} {r : Option Nat} {q : vw_C} {fs : List Value}
    (hM : Met l y (Cond.code y bytes maxL ret :: bt) rm (va_Pc (rv E (some a) :: As) (HB E K w H.size)) (QI E K H.size w' r0) 0 0 (hA E)) (hG : GoodIn bt (wsV own index C y (Cond.code y bytes maxL ret :: bt))) (hd : y.cls = C ∧ y.cls ≠ "java/lang/invoke/MethodHandle" ∧ y.cls ≠ "java/lang/invoke/VarHandle" ∧ (parseMethodDescriptor y.desc).map (fun d => d.parameters.length) = some nn) (hR : rm.frames + 1 ≤ R.frames ∧ 8 + (maxL + 11) + rm.locals ≤ R.locals ∧ rm.cells = 0 ∧ rm.slots = 0) (hr : r = some a) (hKa : K a = some (ci, 0)) (hfs : rend E w (ci, 0) a = .inr (ci, fs)) (hc : vwCl[ci]? = some q) (hq : q.1 = C) (hsz : ls.size = nL) (hn : As.length = nn) (hrm : rc 8 rest) (hst : st0 = As.reverse ++ rv E r :: rest) (hdg : decode cc pc = .ok (.invokevirtual index, 3)) (hcs : cells + 0 ≤ R.cells ∧ slots + 0 ≤ R.slots) (kk : ∀ (H1 : Heap) (locs1 : List Loc), HQ E K z w' s H1 locs1 → W p l e R s m args below meth c H1 locs1 cells slots Q (F0 m (pc + 3) ls (.int r0 :: rest))) : W p l e R s m args below meth c H locs cells slots Q (F0 m pc ls st0) := by
  subst hr
  subst hst
  subst hq
  refine va_calli (va_runV (As := As) (rest := rest) ⟨hexec, hb, hml, hown, hts⟩ hM (cwV nn hts hG rfl hR.2.2.1 hR.2.2.2 hd ⟨hR.1, hR.2.1⟩) ⟨HB.blind, hH.1.recv hKs hKa hfs hc, HB.pre hKs hT hb0 hH⟩ rfl hn hsz rfl (lv_room hrm) hdg hcs) hH.2.1 (fun q _ h => h) (fun q h => h) (fun x u t H1 locs1 ht hvm hp hB hz hk hS => ?_)
  subst hp
  exact kk H1 locs1 ⟨by rw [← ht]; exact hB.2, hS, by rw [← ht]; exact hB.1.trans hH.2.2⟩
theorem hcN_i (hexec : p.tables.exec = Jvm.exec) (hb : c.code = cc) {own : String} {nL : Nat} (hml : c.maxLocals = nL) (hown : s.vm.findClass own = some m.cls) (hts : ∀ w ∈ bt, w.before args s = true) (hKs : HK E s) (hT : HT E s s.heap) (hb0 : E.2.1 ≤ s.heap.size) (hH : HQ E K z w s H locs) {y : MethodName} {bytes : ByteArray} {maxL nn index : Nat} {ret : Option FieldType} {rm : Room} {As : List Value} {st0 : List Value} {r0 : Int32} {w' : Wd} {a ci : Nat} {C host : String} {r : Option Nat} {q : vw_C} {fs : List Value}
    (hM : Met l y (Cond.code y bytes maxL ret :: bt) rm (va_Pc (rv E (some a) :: As) (HB E K w H.size)) (QI E K H.size w' r0) 0 0 (hA E)) (hl : Cond.methodLinkNest own index y host ∈ nb) (hin : Cond.instanceMethod y ∈ bt) (hse : Cond.selects C y y ∈ bt) (hini : Cond.initialized y.cls ∈ bt) (hco : Cond.code y bytes maxL ret ∈ bt) (hd : y.cls ≠ "java/lang/invoke/MethodHandle" ∧ y.cls ≠ "java/lang/invoke/VarHandle" ∧ (parseMethodDescriptor y.desc).map (fun d => d.parameters.length) = some nn) (hR : rm.frames + 1 ≤ R.frames ∧ 8 + (maxL + 11) + rm.locals ≤ R.locals ∧ rm.cells = 0 ∧ rm.slots = 0) (hr : r = some a) (hKa : K a = some (ci, 0)) (hfs : rend E w (ci, 0) a = .inr (ci, fs)) (hc : vwCl[ci]? = some q) (hq : q.1 = C) (hsz : ls.size = nL) (hn : As.length = nn) (hrm : rc 8 rest) (hst : st0 = As.reverse ++ rv E r :: rest) (hdg : decode cc pc = .ok (.invokevirtual index, 3)) (hcs : cells + 0 ≤ R.cells ∧ slots + 0 ≤ R.slots) (kk : ∀ (H1 : Heap) (locs1 : List Loc), HQ E K z w' s H1 locs1 → W p l e R s m args below meth c H1 locs1 cells slots Q (F0 m (pc + 3) ls (.int r0 :: rest))) : W p l e R s m args below meth c H locs cells slots Q (F0 m pc ls st0) := by
  subst hr
  subst hst
  subst hq
  refine va_calli (va_runVN (As := As) (rest := rest) ⟨hexec, hb, hml, hown, hts⟩ hM ⟨va_cnB nn hts (gC hco) rfl hR.2.2.1 hR.2.2.2 (hKs.2 _ hl) (hts _ hini) hd ⟨hR.1, hR.2.1⟩, hts _ hin, hts _ hse⟩ ⟨HB.blind, hH.1.recv hKs hKa hfs hc, HB.pre hKs hT hb0 hH⟩ rfl hn hsz rfl (lv_room hrm) hdg hcs) hH.2.1 (fun q _ h => h) (fun q h => h) (fun x u t H1 locs1 ht hvm hp hB hz hk hS => ?_)
  subst hp
  exact kk H1 locs1 ⟨by rw [← ht]; exact hB.2, hS, by rw [← ht]; exact hB.1.trans hH.2.2⟩
theorem hcS_i (hexec : p.tables.exec = Jvm.exec) (hb : c.code = cc) {own : String} {nL : Nat} (hml : c.maxLocals = nL) (hown : s.vm.findClass own = some m.cls) (hts : ∀ w ∈ bt, w.before args s = true) (hKs : HK E s) (hT : HT E s s.heap) (hb0 : E.2.1 ≤ s.heap.size) (hH : HQ E K z w s H locs) {y : MethodName} {bytes : ByteArray} {maxL nn index : Nat} {ret : Option FieldType} {rm : Room} {As : List Value} {st0 : List Value} {r0 : Int32} {w' : Wd}
    (hM : Met l y (Cond.code y bytes maxL ret :: bt) rm (va_Pc As (HB E K w H.size)) (QI E K H.size w' r0) 0 0 (hA E)) (hG : GoodIn bt (va_wsS own index y (Cond.code y bytes maxL ret :: bt))) (hd : y.cls ≠ "java/lang/invoke/MethodHandle" ∧ y.cls ≠ "java/lang/invoke/VarHandle" ∧ (parseMethodDescriptor y.desc).map (fun d => d.parameters.length) = some nn) (hR : rm.frames + 1 ≤ R.frames ∧ 8 + (maxL + 11) + rm.locals ≤ R.locals ∧ rm.cells = 0 ∧ rm.slots = 0) (hsz : ls.size = nL) (hn : As.length = nn) (hrm : rc 8 rest) (hst : st0 = As.reverse ++ rest) (hdg : decode cc pc = .ok (.invokestatic index, 3)) (hcs : cells + 0 ≤ R.cells ∧ slots + 0 ≤ R.slots) (kk : ∀ (H1 : Heap) (locs1 : List Loc), HQ E K z w' s H1 locs1 → W p l e R s m args below meth c H1 locs1 cells slots Q (F0 m (pc + 3) ls (.int r0 :: rest))) : W p l e R s m args below meth c H locs cells slots Q (F0 m pc ls st0) := by
  subst hst
  refine va_calli (va_runS (As := As) (rest := rest) ⟨hexec, hb, hml, hown, hts⟩ hM (va_cwS nn hts hG rfl hR.2.2.1 hR.2.2.2 hd ⟨hR.1, hR.2.1⟩) ⟨HB.blind, HB.pre hKs hT hb0 hH⟩ rfl hn hsz rfl (lv_room hrm) hdg hcs) hH.2.1 (fun q _ h => h) (fun q h => h) (fun x u t H1 locs1 ht hvm hp hB hz hk hS => ?_)
  subst hp
  exact kk H1 locs1 ⟨by rw [← ht]; exact hB.2, hS, by rw [← ht]; exact hB.1.trans hH.2.2⟩
theorem hcV_l (hexec : p.tables.exec = Jvm.exec) (hb : c.code = cc) {own : String} {nL : Nat} (hml : c.maxLocals = nL) (hown : s.vm.findClass own = some m.cls) (hts : ∀ w ∈ bt, w.before args s = true) (hKs : HK E s) (hT : HT E s s.heap) (hb0 : E.2.1 ≤ s.heap.size) (hH : HQ E K z w s H locs) {y : MethodName} {bytes : ByteArray} {maxL nn index : Nat} {ret : Option FieldType} {rm : Room} {As : List Value} {st0 : List Value} {r0 : Int64} {w' : Wd} {a ci : Nat} {C : String} {r : Option Nat} {q : vw_C} {fs : List Value}
    (hM : Met l y (Cond.code y bytes maxL ret :: bt) rm (va_Pc (rv E (some a) :: As) (HB E K w H.size)) (QL E K H.size w' r0) 0 0 (hA E)) (hG : GoodIn bt (wsV own index C y (Cond.code y bytes maxL ret :: bt))) (hd : y.cls = C ∧ y.cls ≠ "java/lang/invoke/MethodHandle" ∧ y.cls ≠ "java/lang/invoke/VarHandle" ∧ (parseMethodDescriptor y.desc).map (fun d => d.parameters.length) = some nn) (hR : rm.frames + 1 ≤ R.frames ∧ 8 + (maxL + 11) + rm.locals ≤ R.locals ∧ rm.cells = 0 ∧ rm.slots = 0) (hr : r = some a) (hKa : K a = some (ci, 0)) (hfs : rend E w (ci, 0) a = .inr (ci, fs)) (hc : vwCl[ci]? = some q) (hq : q.1 = C) (hsz : ls.size = nL) (hn : As.length = nn) (hrm : rc 8 rest) (hst : st0 = As.reverse ++ rv E r :: rest) (hdg : decode cc pc = .ok (.invokevirtual index, 3)) (hcs : cells + 0 ≤ R.cells ∧ slots + 0 ≤ R.slots) (kk : ∀ (H1 : Heap) (locs1 : List Loc), HQ E K z w' s H1 locs1 → W p l e R s m args below meth c H1 locs1 cells slots Q (F0 m (pc + 3) ls (.long r0 :: rest))) : W p l e R s m args below meth c H locs cells slots Q (F0 m pc ls st0) := by
  subst hr
  subst hst
  subst hq
  refine va_calll (va_runV (As := As) (rest := rest) ⟨hexec, hb, hml, hown, hts⟩ hM (cwV nn hts hG rfl hR.2.2.1 hR.2.2.2 hd ⟨hR.1, hR.2.1⟩) ⟨HB.blind, hH.1.recv hKs hKa hfs hc, HB.pre hKs hT hb0 hH⟩ rfl hn hsz rfl (lv_room hrm) hdg hcs) hH.2.1 (fun q _ h => h) (fun q h => h) (fun x u t H1 locs1 ht hvm hp hB hz hk hS => ?_)
  subst hp
  exact kk H1 locs1 ⟨by rw [← ht]; exact hB.2, hS, by rw [← ht]; exact hB.1.trans hH.2.2⟩
theorem hcN_l (hexec : p.tables.exec = Jvm.exec) (hb : c.code = cc) {own : String} {nL : Nat} (hml : c.maxLocals = nL) (hown : s.vm.findClass own = some m.cls) (hts : ∀ w ∈ bt, w.before args s = true) (hKs : HK E s) (hT : HT E s s.heap) (hb0 : E.2.1 ≤ s.heap.size) (hH : HQ E K z w s H locs) {y : MethodName} {bytes : ByteArray} {maxL nn index : Nat} {ret : Option FieldType} {rm : Room} {As : List Value} {st0 : List Value} {r0 : Int64} {w' : Wd} {a ci : Nat} {C host : String} {r : Option Nat} {q : vw_C} {fs : List Value}
    (hM : Met l y (Cond.code y bytes maxL ret :: bt) rm (va_Pc (rv E (some a) :: As) (HB E K w H.size)) (QL E K H.size w' r0) 0 0 (hA E)) (hl : Cond.methodLinkNest own index y host ∈ nb) (hin : Cond.instanceMethod y ∈ bt) (hse : Cond.selects C y y ∈ bt) (hini : Cond.initialized y.cls ∈ bt) (hco : Cond.code y bytes maxL ret ∈ bt) (hd : y.cls ≠ "java/lang/invoke/MethodHandle" ∧ y.cls ≠ "java/lang/invoke/VarHandle" ∧ (parseMethodDescriptor y.desc).map (fun d => d.parameters.length) = some nn) (hR : rm.frames + 1 ≤ R.frames ∧ 8 + (maxL + 11) + rm.locals ≤ R.locals ∧ rm.cells = 0 ∧ rm.slots = 0) (hr : r = some a) (hKa : K a = some (ci, 0)) (hfs : rend E w (ci, 0) a = .inr (ci, fs)) (hc : vwCl[ci]? = some q) (hq : q.1 = C) (hsz : ls.size = nL) (hn : As.length = nn) (hrm : rc 8 rest) (hst : st0 = As.reverse ++ rv E r :: rest) (hdg : decode cc pc = .ok (.invokevirtual index, 3)) (hcs : cells + 0 ≤ R.cells ∧ slots + 0 ≤ R.slots) (kk : ∀ (H1 : Heap) (locs1 : List Loc), HQ E K z w' s H1 locs1 → W p l e R s m args below meth c H1 locs1 cells slots Q (F0 m (pc + 3) ls (.long r0 :: rest))) : W p l e R s m args below meth c H locs cells slots Q (F0 m pc ls st0) := by
  subst hr
  subst hst
  subst hq
  refine va_calll (va_runVN (As := As) (rest := rest) ⟨hexec, hb, hml, hown, hts⟩ hM ⟨va_cnB nn hts (gC hco) rfl hR.2.2.1 hR.2.2.2 (hKs.2 _ hl) (hts _ hini) hd ⟨hR.1, hR.2.1⟩, hts _ hin, hts _ hse⟩ ⟨HB.blind, hH.1.recv hKs hKa hfs hc, HB.pre hKs hT hb0 hH⟩ rfl hn hsz rfl (lv_room hrm) hdg hcs) hH.2.1 (fun q _ h => h) (fun q h => h) (fun x u t H1 locs1 ht hvm hp hB hz hk hS => ?_)
  subst hp
  exact kk H1 locs1 ⟨by rw [← ht]; exact hB.2, hS, by rw [← ht]; exact hB.1.trans hH.2.2⟩
theorem hcS_l (hexec : p.tables.exec = Jvm.exec) (hb : c.code = cc) {own : String} {nL : Nat} (hml : c.maxLocals = nL) (hown : s.vm.findClass own = some m.cls) (hts : ∀ w ∈ bt, w.before args s = true) (hKs : HK E s) (hT : HT E s s.heap) (hb0 : E.2.1 ≤ s.heap.size) (hH : HQ E K z w s H locs) {y : MethodName} {bytes : ByteArray} {maxL nn index : Nat} {ret : Option FieldType} {rm : Room} {As : List Value} {st0 : List Value} {r0 : Int64} {w' : Wd}
    (hM : Met l y (Cond.code y bytes maxL ret :: bt) rm (va_Pc As (HB E K w H.size)) (QL E K H.size w' r0) 0 0 (hA E)) (hG : GoodIn bt (va_wsS own index y (Cond.code y bytes maxL ret :: bt))) (hd : y.cls ≠ "java/lang/invoke/MethodHandle" ∧ y.cls ≠ "java/lang/invoke/VarHandle" ∧ (parseMethodDescriptor y.desc).map (fun d => d.parameters.length) = some nn) (hR : rm.frames + 1 ≤ R.frames ∧ 8 + (maxL + 11) + rm.locals ≤ R.locals ∧ rm.cells = 0 ∧ rm.slots = 0) (hsz : ls.size = nL) (hn : As.length = nn) (hrm : rc 8 rest) (hst : st0 = As.reverse ++ rest) (hdg : decode cc pc = .ok (.invokestatic index, 3)) (hcs : cells + 0 ≤ R.cells ∧ slots + 0 ≤ R.slots) (kk : ∀ (H1 : Heap) (locs1 : List Loc), HQ E K z w' s H1 locs1 → W p l e R s m args below meth c H1 locs1 cells slots Q (F0 m (pc + 3) ls (.long r0 :: rest))) : W p l e R s m args below meth c H locs cells slots Q (F0 m pc ls st0) := by
  subst hst
  refine va_calll (va_runS (As := As) (rest := rest) ⟨hexec, hb, hml, hown, hts⟩ hM (va_cwS nn hts hG rfl hR.2.2.1 hR.2.2.2 hd ⟨hR.1, hR.2.1⟩) ⟨HB.blind, HB.pre hKs hT hb0 hH⟩ rfl hn hsz rfl (lv_room hrm) hdg hcs) hH.2.1 (fun q _ h => h) (fun q h => h) (fun x u t H1 locs1 ht hvm hp hB hz hk hS => ?_)
  subst hp
  exact kk H1 locs1 ⟨by rw [← ht]; exact hB.2, hS, by rw [← ht]; exact hB.1.trans hH.2.2⟩
theorem hcV_v (hexec : p.tables.exec = Jvm.exec) (hb : c.code = cc) {own : String} {nL : Nat} (hml : c.maxLocals = nL) (hown : s.vm.findClass own = some m.cls) (hts : ∀ w ∈ bt, w.before args s = true) (hKs : HK E s) (hT : HT E s s.heap) (hb0 : E.2.1 ≤ s.heap.size) (hH : HQ E K z w s H locs) {y : MethodName} {bytes : ByteArray} {maxL nn index : Nat} {ret : Option FieldType} {rm : Room} {As : List Value} {st0 : List Value}  {w' : Wd} {a ci : Nat} {C : String} {r : Option Nat} {q : vw_C} {fs : List Value}
    (hM : Met l y (Cond.code y bytes maxL ret :: bt) rm (va_Pc (rv E (some a) :: As) (HB E K w H.size)) (QV E K H.size w') 0 0 (hA E)) (hG : GoodIn bt (wsV own index C y (Cond.code y bytes maxL ret :: bt))) (hd : y.cls = C ∧ y.cls ≠ "java/lang/invoke/MethodHandle" ∧ y.cls ≠ "java/lang/invoke/VarHandle" ∧ (parseMethodDescriptor y.desc).map (fun d => d.parameters.length) = some nn) (hR : rm.frames + 1 ≤ R.frames ∧ 8 + (maxL + 11) + rm.locals ≤ R.locals ∧ rm.cells = 0 ∧ rm.slots = 0) (hr : r = some a) (hKa : K a = some (ci, 0)) (hfs : rend E w (ci, 0) a = .inr (ci, fs)) (hc : vwCl[ci]? = some q) (hq : q.1 = C) (hsz : ls.size = nL) (hn : As.length = nn) (hrm : rc 8 rest) (hst : st0 = As.reverse ++ rv E r :: rest) (hdg : decode cc pc = .ok (.invokevirtual index, 3)) (hcs : cells + 0 ≤ R.cells ∧ slots + 0 ≤ R.slots) (kk : ∀ (H1 : Heap) (locs1 : List Loc), HQ E K z w' s H1 locs1 → W p l e R s m args below meth c H1 locs1 cells slots Q (F0 m (pc + 3) ls rest)) : W p l e R s m args below meth c H locs cells slots Q (F0 m pc ls st0) := by
  subst hr
  subst hst
  subst hq
  refine va_callv (va_runV (As := As) (rest := rest) ⟨hexec, hb, hml, hown, hts⟩ hM (cwV nn hts hG rfl hR.2.2.1 hR.2.2.2 hd ⟨hR.1, hR.2.1⟩) ⟨HB.blind, hH.1.recv hKs hKa hfs hc, HB.pre hKs hT hb0 hH⟩ rfl hn hsz rfl (lv_room hrm) hdg hcs) hH.2.1 (fun q _ h => h) (fun q h => h) (fun u t H1 locs1 ht hvm hp hB hz hk hS => ?_)
  exact kk H1 locs1 ⟨by rw [← ht]; exact hB.2, hS, by rw [← ht]; exact hB.1.trans hH.2.2⟩
theorem hcN_v (hexec : p.tables.exec = Jvm.exec) (hb : c.code = cc) {own : String} {nL : Nat} (hml : c.maxLocals = nL) (hown : s.vm.findClass own = some m.cls) (hts : ∀ w ∈ bt, w.before args s = true) (hKs : HK E s) (hT : HT E s s.heap) (hb0 : E.2.1 ≤ s.heap.size) (hH : HQ E K z w s H locs) {y : MethodName} {bytes : ByteArray} {maxL nn index : Nat} {ret : Option FieldType} {rm : Room} {As : List Value} {st0 : List Value}  {w' : Wd} {a ci : Nat} {C host : String} {r : Option Nat} {q : vw_C} {fs : List Value}
    (hM : Met l y (Cond.code y bytes maxL ret :: bt) rm (va_Pc (rv E (some a) :: As) (HB E K w H.size)) (QV E K H.size w') 0 0 (hA E)) (hl : Cond.methodLinkNest own index y host ∈ nb) (hin : Cond.instanceMethod y ∈ bt) (hse : Cond.selects C y y ∈ bt) (hini : Cond.initialized y.cls ∈ bt) (hco : Cond.code y bytes maxL ret ∈ bt) (hd : y.cls ≠ "java/lang/invoke/MethodHandle" ∧ y.cls ≠ "java/lang/invoke/VarHandle" ∧ (parseMethodDescriptor y.desc).map (fun d => d.parameters.length) = some nn) (hR : rm.frames + 1 ≤ R.frames ∧ 8 + (maxL + 11) + rm.locals ≤ R.locals ∧ rm.cells = 0 ∧ rm.slots = 0) (hr : r = some a) (hKa : K a = some (ci, 0)) (hfs : rend E w (ci, 0) a = .inr (ci, fs)) (hc : vwCl[ci]? = some q) (hq : q.1 = C) (hsz : ls.size = nL) (hn : As.length = nn) (hrm : rc 8 rest) (hst : st0 = As.reverse ++ rv E r :: rest) (hdg : decode cc pc = .ok (.invokevirtual index, 3)) (hcs : cells + 0 ≤ R.cells ∧ slots + 0 ≤ R.slots) (kk : ∀ (H1 : Heap) (locs1 : List Loc), HQ E K z w' s H1 locs1 → W p l e R s m args below meth c H1 locs1 cells slots Q (F0 m (pc + 3) ls rest)) : W p l e R s m args below meth c H locs cells slots Q (F0 m pc ls st0) := by
  subst hr
  subst hst
  subst hq
  refine va_callv (va_runVN (As := As) (rest := rest) ⟨hexec, hb, hml, hown, hts⟩ hM ⟨va_cnB nn hts (gC hco) rfl hR.2.2.1 hR.2.2.2 (hKs.2 _ hl) (hts _ hini) hd ⟨hR.1, hR.2.1⟩, hts _ hin, hts _ hse⟩ ⟨HB.blind, hH.1.recv hKs hKa hfs hc, HB.pre hKs hT hb0 hH⟩ rfl hn hsz rfl (lv_room hrm) hdg hcs) hH.2.1 (fun q _ h => h) (fun q h => h) (fun u t H1 locs1 ht hvm hp hB hz hk hS => ?_)
  exact kk H1 locs1 ⟨by rw [← ht]; exact hB.2, hS, by rw [← ht]; exact hB.1.trans hH.2.2⟩
theorem hcS_v (hexec : p.tables.exec = Jvm.exec) (hb : c.code = cc) {own : String} {nL : Nat} (hml : c.maxLocals = nL) (hown : s.vm.findClass own = some m.cls) (hts : ∀ w ∈ bt, w.before args s = true) (hKs : HK E s) (hT : HT E s s.heap) (hb0 : E.2.1 ≤ s.heap.size) (hH : HQ E K z w s H locs) {y : MethodName} {bytes : ByteArray} {maxL nn index : Nat} {ret : Option FieldType} {rm : Room} {As : List Value} {st0 : List Value}  {w' : Wd}
    (hM : Met l y (Cond.code y bytes maxL ret :: bt) rm (va_Pc As (HB E K w H.size)) (QV E K H.size w') 0 0 (hA E)) (hG : GoodIn bt (va_wsS own index y (Cond.code y bytes maxL ret :: bt))) (hd : y.cls ≠ "java/lang/invoke/MethodHandle" ∧ y.cls ≠ "java/lang/invoke/VarHandle" ∧ (parseMethodDescriptor y.desc).map (fun d => d.parameters.length) = some nn) (hR : rm.frames + 1 ≤ R.frames ∧ 8 + (maxL + 11) + rm.locals ≤ R.locals ∧ rm.cells = 0 ∧ rm.slots = 0) (hsz : ls.size = nL) (hn : As.length = nn) (hrm : rc 8 rest) (hst : st0 = As.reverse ++ rest) (hdg : decode cc pc = .ok (.invokestatic index, 3)) (hcs : cells + 0 ≤ R.cells ∧ slots + 0 ≤ R.slots) (kk : ∀ (H1 : Heap) (locs1 : List Loc), HQ E K z w' s H1 locs1 → W p l e R s m args below meth c H1 locs1 cells slots Q (F0 m (pc + 3) ls rest)) : W p l e R s m args below meth c H locs cells slots Q (F0 m pc ls st0) := by
  subst hst
  refine va_callv (va_runS (As := As) (rest := rest) ⟨hexec, hb, hml, hown, hts⟩ hM (va_cwS nn hts hG rfl hR.2.2.1 hR.2.2.2 hd ⟨hR.1, hR.2.1⟩) ⟨HB.blind, HB.pre hKs hT hb0 hH⟩ rfl hn hsz rfl (lv_room hrm) hdg hcs) hH.2.1 (fun q _ h => h) (fun q h => h) (fun u t H1 locs1 ht hvm hp hB hz hk hS => ?_)
  exact kk H1 locs1 ⟨by rw [← ht]; exact hB.2, hS, by rw [← ht]; exact hB.1.trans hH.2.2⟩
theorem hcV_q (hexec : p.tables.exec = Jvm.exec) (hb : c.code = cc) {own : String} {nL : Nat} (hml : c.maxLocals = nL) (hown : s.vm.findClass own = some m.cls) (hts : ∀ w ∈ bt, w.before args s = true) (hKs : HK E s) (hT : HT E s s.heap) (hb0 : E.2.1 ≤ s.heap.size) (hH : HQ E K z w s H locs) {y : MethodName} {bytes : ByteArray} {maxL nn index : Nat} {ret : Option FieldType} {rm : Room} {As : List Value} {st0 : List Value} {r0 : Option Nat} {w' : Wd} {a ci : Nat} {C : String} {r : Option Nat} {q : vw_C} {fs : List Value}
    (hM : Met l y (Cond.code y bytes maxL ret :: bt) rm (va_Pc (rv E (some a) :: As) (HB E K w H.size)) (QR E K H.size w' r0) 0 0 (hA E)) (hG : GoodIn bt (wsV own index C y (Cond.code y bytes maxL ret :: bt))) (hd : y.cls = C ∧ y.cls ≠ "java/lang/invoke/MethodHandle" ∧ y.cls ≠ "java/lang/invoke/VarHandle" ∧ (parseMethodDescriptor y.desc).map (fun d => d.parameters.length) = some nn) (hR : rm.frames + 1 ≤ R.frames ∧ 8 + (maxL + 11) + rm.locals ≤ R.locals ∧ rm.cells = 0 ∧ rm.slots = 0) (hr : r = some a) (hKa : K a = some (ci, 0)) (hfs : rend E w (ci, 0) a = .inr (ci, fs)) (hc : vwCl[ci]? = some q) (hq : q.1 = C) (hsz : ls.size = nL) (hn : As.length = nn) (hrm : rc 8 rest) (hst : st0 = As.reverse ++ rv E r :: rest) (hdg : decode cc pc = .ok (.invokevirtual index, 3)) (hcs : cells + 0 ≤ R.cells ∧ slots + 0 ≤ R.slots) (kk : ∀ (H1 : Heap) (locs1 : List Loc), HQ E K z w' s H1 locs1 → W p l e R s m args below meth c H1 locs1 cells slots Q (F0 m (pc + 3) ls (rv E r0 :: rest))) : W p l e R s m args below meth c H locs cells slots Q (F0 m pc ls st0) := by
  subst hr
  subst hst
  subst hq
  refine va_callq (va_runV (As := As) (rest := rest) ⟨hexec, hb, hml, hown, hts⟩ hM (cwV nn hts hG rfl hR.2.2.1 hR.2.2.2 hd ⟨hR.1, hR.2.1⟩) ⟨HB.blind, hH.1.recv hKs hKa hfs hc, HB.pre hKs hT hb0 hH⟩ rfl hn hsz rfl (lv_room hrm) hdg hcs) hH.2.1 (fun q _ h => h) (fun q h => h) (fun x u t H1 locs1 ht hvm hp hB hz hk hS => ?_)
  subst hp
  exact kk H1 locs1 ⟨by rw [← ht]; exact hB.2, hS, by rw [← ht]; exact hB.1.trans hH.2.2⟩
theorem hcN_q (hexec : p.tables.exec = Jvm.exec) (hb : c.code = cc) {own : String} {nL : Nat} (hml : c.maxLocals = nL) (hown : s.vm.findClass own = some m.cls) (hts : ∀ w ∈ bt, w.before args s = true) (hKs : HK E s) (hT : HT E s s.heap) (hb0 : E.2.1 ≤ s.heap.size) (hH : HQ E K z w s H locs) {y : MethodName} {bytes : ByteArray} {maxL nn index : Nat} {ret : Option FieldType} {rm : Room} {As : List Value} {st0 : List Value} {r0 : Option Nat} {w' : Wd} {a ci : Nat} {C host : String} {r : Option Nat} {q : vw_C} {fs : List Value}
    (hM : Met l y (Cond.code y bytes maxL ret :: bt) rm (va_Pc (rv E (some a) :: As) (HB E K w H.size)) (QR E K H.size w' r0) 0 0 (hA E)) (hl : Cond.methodLinkNest own index y host ∈ nb) (hin : Cond.instanceMethod y ∈ bt) (hse : Cond.selects C y y ∈ bt) (hini : Cond.initialized y.cls ∈ bt) (hco : Cond.code y bytes maxL ret ∈ bt) (hd : y.cls ≠ "java/lang/invoke/MethodHandle" ∧ y.cls ≠ "java/lang/invoke/VarHandle" ∧ (parseMethodDescriptor y.desc).map (fun d => d.parameters.length) = some nn) (hR : rm.frames + 1 ≤ R.frames ∧ 8 + (maxL + 11) + rm.locals ≤ R.locals ∧ rm.cells = 0 ∧ rm.slots = 0) (hr : r = some a) (hKa : K a = some (ci, 0)) (hfs : rend E w (ci, 0) a = .inr (ci, fs)) (hc : vwCl[ci]? = some q) (hq : q.1 = C) (hsz : ls.size = nL) (hn : As.length = nn) (hrm : rc 8 rest) (hst : st0 = As.reverse ++ rv E r :: rest) (hdg : decode cc pc = .ok (.invokevirtual index, 3)) (hcs : cells + 0 ≤ R.cells ∧ slots + 0 ≤ R.slots) (kk : ∀ (H1 : Heap) (locs1 : List Loc), HQ E K z w' s H1 locs1 → W p l e R s m args below meth c H1 locs1 cells slots Q (F0 m (pc + 3) ls (rv E r0 :: rest))) : W p l e R s m args below meth c H locs cells slots Q (F0 m pc ls st0) := by
  subst hr
  subst hst
  subst hq
  refine va_callq (va_runVN (As := As) (rest := rest) ⟨hexec, hb, hml, hown, hts⟩ hM ⟨va_cnB nn hts (gC hco) rfl hR.2.2.1 hR.2.2.2 (hKs.2 _ hl) (hts _ hini) hd ⟨hR.1, hR.2.1⟩, hts _ hin, hts _ hse⟩ ⟨HB.blind, hH.1.recv hKs hKa hfs hc, HB.pre hKs hT hb0 hH⟩ rfl hn hsz rfl (lv_room hrm) hdg hcs) hH.2.1 (fun q _ h => h) (fun q h => h) (fun x u t H1 locs1 ht hvm hp hB hz hk hS => ?_)
  subst hp
  exact kk H1 locs1 ⟨by rw [← ht]; exact hB.2, hS, by rw [← ht]; exact hB.1.trans hH.2.2⟩
theorem hcS_q (hexec : p.tables.exec = Jvm.exec) (hb : c.code = cc) {own : String} {nL : Nat} (hml : c.maxLocals = nL) (hown : s.vm.findClass own = some m.cls) (hts : ∀ w ∈ bt, w.before args s = true) (hKs : HK E s) (hT : HT E s s.heap) (hb0 : E.2.1 ≤ s.heap.size) (hH : HQ E K z w s H locs) {y : MethodName} {bytes : ByteArray} {maxL nn index : Nat} {ret : Option FieldType} {rm : Room} {As : List Value} {st0 : List Value} {r0 : Option Nat} {w' : Wd}
    (hM : Met l y (Cond.code y bytes maxL ret :: bt) rm (va_Pc As (HB E K w H.size)) (QR E K H.size w' r0) 0 0 (hA E)) (hG : GoodIn bt (va_wsS own index y (Cond.code y bytes maxL ret :: bt))) (hd : y.cls ≠ "java/lang/invoke/MethodHandle" ∧ y.cls ≠ "java/lang/invoke/VarHandle" ∧ (parseMethodDescriptor y.desc).map (fun d => d.parameters.length) = some nn) (hR : rm.frames + 1 ≤ R.frames ∧ 8 + (maxL + 11) + rm.locals ≤ R.locals ∧ rm.cells = 0 ∧ rm.slots = 0) (hsz : ls.size = nL) (hn : As.length = nn) (hrm : rc 8 rest) (hst : st0 = As.reverse ++ rest) (hdg : decode cc pc = .ok (.invokestatic index, 3)) (hcs : cells + 0 ≤ R.cells ∧ slots + 0 ≤ R.slots) (kk : ∀ (H1 : Heap) (locs1 : List Loc), HQ E K z w' s H1 locs1 → W p l e R s m args below meth c H1 locs1 cells slots Q (F0 m (pc + 3) ls (rv E r0 :: rest))) : W p l e R s m args below meth c H locs cells slots Q (F0 m pc ls st0) := by
  subst hst
  refine va_callq (va_runS (As := As) (rest := rest) ⟨hexec, hb, hml, hown, hts⟩ hM (va_cwS nn hts hG rfl hR.2.2.1 hR.2.2.2 hd ⟨hR.1, hR.2.1⟩) ⟨HB.blind, HB.pre hKs hT hb0 hH⟩ rfl hn hsz rfl (lv_room hrm) hdg hcs) hH.2.1 (fun q _ h => h) (fun q h => h) (fun x u t H1 locs1 ht hvm hp hB hz hk hS => ?_)
  subst hp
  exact kk H1 locs1 ⟨by rw [← ht]; exact hB.2, hS, by rw [← ht]; exact hB.1.trans hH.2.2⟩
theorem hcV_t (hexec : p.tables.exec = Jvm.exec) (hb : c.code = cc) {own : String} {nL : Nat} (hml : c.maxLocals = nL) (hown : s.vm.findClass own = some m.cls) (hts : ∀ w ∈ bt, w.before args s = true) (hKs : HK E s) (hT : HT E s s.heap) (hb0 : E.2.1 ≤ s.heap.size) (hH : HQ E K z w s H locs) {y : MethodName} {bytes : ByteArray} {maxL nn index : Nat} {ret : Option FieldType} {rm : Room} {As : List Value} {st0 : List Value} {r0 : Option Nat} {w' : Wd} {a ci : Nat} {C : String} {r : Option Nat} {q : vw_C} {fs : List Value}
    (hM : Met l y (Cond.code y bytes maxL ret :: bt) rm (va_Pc (rv E (some a) :: As) (HB E K w H.size)) (QT E K H.size w' r0) 0 0 (hA E)) (hG : GoodIn bt (wsV own index C y (Cond.code y bytes maxL ret :: bt))) (hd : y.cls = C ∧ y.cls ≠ "java/lang/invoke/MethodHandle" ∧ y.cls ≠ "java/lang/invoke/VarHandle" ∧ (parseMethodDescriptor y.desc).map (fun d => d.parameters.length) = some nn) (hR : rm.frames + 1 ≤ R.frames ∧ 8 + (maxL + 11) + rm.locals ≤ R.locals ∧ rm.cells = 0 ∧ rm.slots = 0) (hr : r = some a) (hKa : K a = some (ci, 0)) (hfs : rend E w (ci, 0) a = .inr (ci, fs)) (hc : vwCl[ci]? = some q) (hq : q.1 = C) (hsz : ls.size = nL) (hn : As.length = nn) (hrm : rc 8 rest) (hst : st0 = As.reverse ++ rv E r :: rest) (hdg : decode cc pc = .ok (.invokevirtual index, 3)) (hcs : cells + 0 ≤ R.cells ∧ slots + 0 ≤ R.slots) (kk : ∀ (H1 : Heap) (locs1 : List Loc), HQ E K z w' s H1 locs1 → W p l e R s m args below meth c H1 locs1 cells slots Q (F0 m (pc + 3) ls (re E r0 :: rest))) : W p l e R s m args below meth c H locs cells slots Q (F0 m pc ls st0) := by
  subst hr
  subst hst
  subst hq
  refine va_calle (va_runV (As := As) (rest := rest) ⟨hexec, hb, hml, hown, hts⟩ hM (cwV nn hts hG rfl hR.2.2.1 hR.2.2.2 hd ⟨hR.1, hR.2.1⟩) ⟨HB.blind, hH.1.recv hKs hKa hfs hc, HB.pre hKs hT hb0 hH⟩ rfl hn hsz rfl (lv_room hrm) hdg hcs) hH.2.1 (fun q _ h => h) (fun q h => h) (fun x u t H1 locs1 ht hvm hp hB hz hk hS => ?_)
  subst hp
  exact kk H1 locs1 ⟨by rw [← ht]; exact hB.2, hS, by rw [← ht]; exact hB.1.trans hH.2.2⟩
theorem hcN_t (hexec : p.tables.exec = Jvm.exec) (hb : c.code = cc) {own : String} {nL : Nat} (hml : c.maxLocals = nL) (hown : s.vm.findClass own = some m.cls) (hts : ∀ w ∈ bt, w.before args s = true) (hKs : HK E s) (hT : HT E s s.heap) (hb0 : E.2.1 ≤ s.heap.size) (hH : HQ E K z w s H locs) {y : MethodName} {bytes : ByteArray} {maxL nn index : Nat} {ret : Option FieldType} {rm : Room} {As : List Value} {st0 : List Value} {r0 : Option Nat} {w' : Wd} {a ci : Nat} {C host : String} {r : Option Nat} {q : vw_C} {fs : List Value}
    (hM : Met l y (Cond.code y bytes maxL ret :: bt) rm (va_Pc (rv E (some a) :: As) (HB E K w H.size)) (QT E K H.size w' r0) 0 0 (hA E)) (hl : Cond.methodLinkNest own index y host ∈ nb) (hin : Cond.instanceMethod y ∈ bt) (hse : Cond.selects C y y ∈ bt) (hini : Cond.initialized y.cls ∈ bt) (hco : Cond.code y bytes maxL ret ∈ bt) (hd : y.cls ≠ "java/lang/invoke/MethodHandle" ∧ y.cls ≠ "java/lang/invoke/VarHandle" ∧ (parseMethodDescriptor y.desc).map (fun d => d.parameters.length) = some nn) (hR : rm.frames + 1 ≤ R.frames ∧ 8 + (maxL + 11) + rm.locals ≤ R.locals ∧ rm.cells = 0 ∧ rm.slots = 0) (hr : r = some a) (hKa : K a = some (ci, 0)) (hfs : rend E w (ci, 0) a = .inr (ci, fs)) (hc : vwCl[ci]? = some q) (hq : q.1 = C) (hsz : ls.size = nL) (hn : As.length = nn) (hrm : rc 8 rest) (hst : st0 = As.reverse ++ rv E r :: rest) (hdg : decode cc pc = .ok (.invokevirtual index, 3)) (hcs : cells + 0 ≤ R.cells ∧ slots + 0 ≤ R.slots) (kk : ∀ (H1 : Heap) (locs1 : List Loc), HQ E K z w' s H1 locs1 → W p l e R s m args below meth c H1 locs1 cells slots Q (F0 m (pc + 3) ls (re E r0 :: rest))) : W p l e R s m args below meth c H locs cells slots Q (F0 m pc ls st0) := by
  subst hr
  subst hst
  subst hq
  refine va_calle (va_runVN (As := As) (rest := rest) ⟨hexec, hb, hml, hown, hts⟩ hM ⟨va_cnB nn hts (gC hco) rfl hR.2.2.1 hR.2.2.2 (hKs.2 _ hl) (hts _ hini) hd ⟨hR.1, hR.2.1⟩, hts _ hin, hts _ hse⟩ ⟨HB.blind, hH.1.recv hKs hKa hfs hc, HB.pre hKs hT hb0 hH⟩ rfl hn hsz rfl (lv_room hrm) hdg hcs) hH.2.1 (fun q _ h => h) (fun q h => h) (fun x u t H1 locs1 ht hvm hp hB hz hk hS => ?_)
  subst hp
  exact kk H1 locs1 ⟨by rw [← ht]; exact hB.2, hS, by rw [← ht]; exact hB.1.trans hH.2.2⟩
theorem hcS_t (hexec : p.tables.exec = Jvm.exec) (hb : c.code = cc) {own : String} {nL : Nat} (hml : c.maxLocals = nL) (hown : s.vm.findClass own = some m.cls) (hts : ∀ w ∈ bt, w.before args s = true) (hKs : HK E s) (hT : HT E s s.heap) (hb0 : E.2.1 ≤ s.heap.size) (hH : HQ E K z w s H locs) {y : MethodName} {bytes : ByteArray} {maxL nn index : Nat} {ret : Option FieldType} {rm : Room} {As : List Value} {st0 : List Value} {r0 : Option Nat} {w' : Wd}
    (hM : Met l y (Cond.code y bytes maxL ret :: bt) rm (va_Pc As (HB E K w H.size)) (QT E K H.size w' r0) 0 0 (hA E)) (hG : GoodIn bt (va_wsS own index y (Cond.code y bytes maxL ret :: bt))) (hd : y.cls ≠ "java/lang/invoke/MethodHandle" ∧ y.cls ≠ "java/lang/invoke/VarHandle" ∧ (parseMethodDescriptor y.desc).map (fun d => d.parameters.length) = some nn) (hR : rm.frames + 1 ≤ R.frames ∧ 8 + (maxL + 11) + rm.locals ≤ R.locals ∧ rm.cells = 0 ∧ rm.slots = 0) (hsz : ls.size = nL) (hn : As.length = nn) (hrm : rc 8 rest) (hst : st0 = As.reverse ++ rest) (hdg : decode cc pc = .ok (.invokestatic index, 3)) (hcs : cells + 0 ≤ R.cells ∧ slots + 0 ≤ R.slots) (kk : ∀ (H1 : Heap) (locs1 : List Loc), HQ E K z w' s H1 locs1 → W p l e R s m args below meth c H1 locs1 cells slots Q (F0 m (pc + 3) ls (re E r0 :: rest))) : W p l e R s m args below meth c H locs cells slots Q (F0 m pc ls st0) := by
  subst hst
  refine va_calle (va_runS (As := As) (rest := rest) ⟨hexec, hb, hml, hown, hts⟩ hM (va_cwS nn hts hG rfl hR.2.2.1 hR.2.2.2 hd ⟨hR.1, hR.2.1⟩) ⟨HB.blind, HB.pre hKs hT hb0 hH⟩ rfl hn hsz rfl (lv_room hrm) hdg hcs) hH.2.1 (fun q _ h => h) (fun q h => h) (fun x u t H1 locs1 ht hvm hp hB hz hk hS => ?_)
  subst hp
  exact kk H1 locs1 ⟨by rw [← ht]; exact hB.2, hS, by rw [← ht]; exact hB.1.trans hH.2.2⟩
end HW
/-! Small things that the walks use. -/
def fu : Nat := 1000000
def ushr (x y : Int32) : Int32 := (x.toUInt32 >>> (y.toUInt32 &&& Int32.toUInt32 31)).toInt32
def lsl (x : Int64) (y : Int32) : Int64 := x <<< (y.toInt64 &&& 63)
def lsr (x : Int64) (y : Int32) : Int64 := (x.toUInt64 >>> (y.toInt64.toUInt64 &&& Int64.toUInt64 63)).toInt64
def CX (p : Program) (l : Launch) (e : Env) (s : State) (m : MethodId) (args : Array Value) (meth : Method) (c : Code) (cc : ByteArray) (nL : Nat) (own : String) (ret : Option FieldType) (E : Ev) : Prop :=
  p.tables.exec = Jvm.exec ∧ c.code = cc ∧ c.maxLocals = nL ∧ s.vm.findClass own = some m.cls ∧ (∀ w ∈ bt, w.before args s = true) ∧ HK E s ∧ HT E s s.heap ∧ E.2.1 ≤ s.heap.size ∧ meth.locks = false ∧ meth.sig.returnType = ret
theorem lg_len_nil : (lg_sl []).length = 0 := rfl
theorem lg_len_i {x : Int32} {l : List Value} : (lg_sl (.int x :: l)).length = (lg_sl l).length + 1 := by simp [lg_sl, Value.category]
theorem lg_len_j {x : Int64} {l : List Value} : (lg_sl (.long x :: l)).length = (lg_sl l).length + 2 := by simp [lg_sl, Value.category]
theorem lg_len_q {x : Option Nat} {l : List Value} : (lg_sl (va_rf x :: l)).length = (lg_sl l).length + 1 := by cases x <;> simp [lg_sl, Value.category, va_rf]
theorem cat_i {x : Int32} : (Value.int x).category = 1 := rfl
theorem cat_j {x : Int64} : (Value.long x).category = 2 := rfl
theorem cat_q {x : Option Nat} : (va_rf x).category = 1 := by cases x <;> rfl
section HW2
variable {p : Program} {l : Launch} {e : Env} {R : Room} {s : State} {m : MethodId} {args : Array Value} {below : List Frame} {meth : Method} {c : Code} {H : Heap} {locs : List Loc} {cells slots : Nat} {Q : State → Prop}
variable {cc : ByteArray} {pc : Nat} {ls : Array Slot} {rest : List Value} {E : Ev} {K : Kd} {z : Nat} {w : Wd}
theorem hl_tabOut (hexec : p.tables.exec = Jvm.exec) (hb : c.code = cc) {dflt lo hi : Int} {offs : Array Int} {len : Nat} {x a b : Int32} {tgt : Nat} (hdg : decode cc pc = .ok (.tableswitch dflt lo hi offs, len)) (h : x < a ∨ b < x) (ha : a.toInt = lo) (hb2 : b.toInt = hi) (ht : (pc : Int) + dflt = (tgt : Int))
    (k : W p l e R s m args below meth c H locs cells slots Q (F0 m tgt ls rest)) : W p l e R s m args below meth c H locs cells slots Q (F0 m pc ls (.int x :: rest)) :=
  lv_tableOut hexec hb hdg (by rw [← ha, ← hb2]; exact h.imp Int32.lt_iff_toInt_lt.mp Int32.lt_iff_toInt_lt.mp) ht k
theorem hl_tabIn (hexec : p.tables.exec = Jvm.exec) (hb : c.code = cc) {dflt lo hi : Int} {offs : Array Int} {len : Nat} {x a : Int32} {off : Int} {tgt : Nat} (hdg : decode cc pc = .ok (.tableswitch dflt lo hi offs, len)) (h : x = a) (h1 : ¬ a.toInt < lo) (h2 : ¬ hi < a.toInt) (ho : offs[(a.toInt - lo).toNat]? = some off) (ht : (pc : Int) + off = (tgt : Int))
    (k : W p l e R s m args below meth c H locs cells slots Q (F0 m tgt ls rest)) : W p l e R s m args below meth c H locs cells slots Q (F0 m pc ls (.int x :: rest)) := by
  subst h
  exact lv_tableIn hexec hb hdg h1 h2 ho ht k
theorem hw_qret (hexec : p.tables.exec = Jvm.exec) (hb : c.code = cc) {rt : FieldType} (hret : meth.sig.returnType = some rt) (hrt : (∃ n, rt = .object n) ∨ ∃ t, rt = .array t) {v r : Option Nat} {w' : Wd} (hf : some (v, w) = some (r, w')) (hH : HQ E K z w s H locs) (hlocks : meth.locks = false) (hdg : decode cc pc = .ok (.areturn, 1)) : W p l e R s m args below meth c H locs 0 0 (MQ below (QR E K z w' r) args s 0 0 (hA E)) (F0 m pc ls [rv E v]) := by
  cases hf
  exact W.aret hexec hb hret hrt (by cases v with | none => exact Or.inl rfl | some a => exact Or.inr ⟨_, rfl⟩) (fun t ht hW => ⟨⟨v.map (fun a => E.2.1 + a), (), rfl, rfl, by rw [ht]; exact hH.2.2, by rw [ht]; exact hH.1⟩, hH.2.1.F ht⟩) hH.2.1.2.2 hdg hlocks
end HW2
