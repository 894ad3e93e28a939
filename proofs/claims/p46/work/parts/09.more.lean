/-! More rows: any call, ends of narrow types, floats, the words' text, the tokens' numbers. -/
abbrev QF (E : Ev) (K : Kd) (z : Nat) (w : Wd) (r : UInt32) : Array Value → State → Outcome → State → Prop := va_Qf (fun x (_ : Unit) => x = r) (fun _ t => HE E K w z t) (hA E)
abbrev QD (E : Ev) (K : Kd) (z : Nat) (w : Wd) (r : UInt64) : Array Value → State → Outcome → State → Prop := va_Qd (fun x (_ : Unit) => x = r) (fun _ t => HE E K w z t) (hA E)
abbrev XF (E : Ev) (K : Kd) (z : Nat) (w : Wd) (r : UInt32 ⊕ Nat) : Array Value → State → Outcome → State → Prop := va_Qf (fun x (_ : Unit) => r = .inl x) (fun _ t => HE E K w z t) (hA E)
def n64 (r : UInt64) : Bool := decide (r &&& 0x7fffffffffffffff ≤ 0x7ff0000000000000)
def n32 (r : UInt32) : Bool := decide (r &&& 0x7fffffff ≤ 0x7f800000)
theorem n64_ok {r : UInt64} (h : n64 r = true) : vf_n64 r := by
  unfold n64 at h
  show r &&& 0x7fffffffffffffff ≤ 0x7ff0000000000000
  exact of_decide_eq_true h
theorem n32_ok {r : UInt32} (h : n32 r = true) : vf_n32 r := by
  unfold n32 at h
  show r &&& 0x7fffffff ≤ 0x7f800000
  exact of_decide_eq_true h
def i2cI (x : Int32) : Int32 := (x.toUInt32 % 65536).toInt32
theorem i2c_n {x : Int32} (h : i2cI x = x) : narrow .char (.int x) = .int x := by
  have h1 := pk_nc x
  unfold i2cI at h
  rwa [h] at h1
theorem lg_len_f {x : UInt32} {l : List Value} : (lg_sl (.float x :: l)).length = (lg_sl l).length + 1 := by simp [lg_sl, Value.category]
theorem lg_len_d {x : UInt64} {l : List Value} : (lg_sl (.double x :: l)).length = (lg_sl l).length + 2 := by simp [lg_sl, Value.category]
theorem lg_len_r {x : Nat} {l : List Value} : (lg_sl (.ref x :: l)).length = (lg_sl l).length + 1 := by simp [lg_sl, Value.category]
theorem rcF {n : Nat} {x : UInt32} {l : List Value} (h : rc n l) : rc (n + 1) (.float x :: l) := by unfold rc at *; simp [Value.category] at *; omega
theorem rcD {n : Nat} {x : UInt64} {l : List Value} (h : rc n l) : rc (n + 2) (.double x :: l) := by unfold rc at *; simp [Value.category] at *; omega
theorem rcR {n : Nat} {x : Nat} {l : List Value} (h : rc n l) : rc (n + 1) (.ref x :: l) := by unfold rc at *; simp [Value.category] at *; omega
theorem rcQ {n : Nat} {x : Option Nat} {l : List Value} (h : rc n l) : rc (n + 1) (va_rf x :: l) := by unfold rc at *; simp only [List.map_cons, List.sum_cons, cat_q] at *; omega
section MORE
variable {p : Program} {l : Launch} {e : Env} {R : Room} {s : State} {m : MethodId} {args : Array Value} {below : List Frame} {meth : Method} {c : Code} {H : Heap} {locs : List Loc} {cells slots : Nat} {Q : State → Prop}
variable {cc : ByteArray} {pc : Nat} {ls : Array Slot} {rest st0 : List Value} {E : Ev} {K : Kd} {z : Nat} {w w' : Wd} {a : Array Value}
theorem hcG_i {r0 : Int32} (hH : HQ E K z w s H locs) (hr : va_Run p l e R s m args below meth c H locs cells slots 0 0 (F0 m pc ls st0) rest (QI E K H.size w' r0 a) (hA E)) (kk : ∀ (H1 : Heap) (locs1 : List Loc), HQ E K z w' s H1 locs1 → W p l e R s m args below meth c H1 locs1 cells slots Q (F0 m (pc + 3) ls (.int r0 :: rest))) : W p l e R s m args below meth c H locs cells slots Q (F0 m pc ls st0) := by
  refine va_calli hr hH.2.1 (fun q _ h => h) (fun q h => h) (fun x u t H1 locs1 ht hvm hp hB hz hk hS => ?_)
  subst hp
  exact kk H1 locs1 ⟨by rw [← ht]; exact hB.2, hS, by rw [← ht]; exact hB.1.trans hH.2.2⟩
theorem hcG_v (hH : HQ E K z w s H locs) (hr : va_Run p l e R s m args below meth c H locs cells slots 0 0 (F0 m pc ls st0) rest (QV E K H.size w' a) (hA E)) (kk : ∀ (H1 : Heap) (locs1 : List Loc), HQ E K z w' s H1 locs1 → W p l e R s m args below meth c H1 locs1 cells slots Q (F0 m (pc + 3) ls rest)) : W p l e R s m args below meth c H locs cells slots Q (F0 m pc ls st0) := by
  refine va_callv hr hH.2.1 (fun q _ h => h) (fun q h => h) (fun u t H1 locs1 ht hvm hp hB hz hk hS => ?_)
  exact kk H1 locs1 ⟨by rw [← ht]; exact hB.2, hS, by rw [← ht]; exact hB.1.trans hH.2.2⟩
theorem hcG_d {r0 : UInt64} (hH : HQ E K z w s H locs) (hr : va_Run p l e R s m args below meth c H locs cells slots 0 0 (F0 m pc ls st0) rest (QD E K H.size w' r0 a) (hA E)) (kk : ∀ (H1 : Heap) (locs1 : List Loc), HQ E K z w' s H1 locs1 → W p l e R s m args below meth c H1 locs1 cells slots Q (F0 m (pc + 3) ls (.double r0 :: rest))) : W p l e R s m args below meth c H locs cells slots Q (F0 m pc ls st0) := by
  refine va_calld hr hH.2.1 (fun q _ h => h) (fun q h => h) (fun x u t H1 locs1 ht hvm hp hB hz hk hS => ?_)
  subst hp
  exact kk H1 locs1 ⟨by rw [← ht]; exact hB.2, hS, by rw [← ht]; exact hB.1.trans hH.2.2⟩
theorem hcG_f {r0 : UInt32} (hH : HQ E K z w s H locs) (hr : va_Run p l e R s m args below meth c H locs cells slots 0 0 (F0 m pc ls st0) rest (QF E K H.size w' r0 a) (hA E)) (kk : ∀ (H1 : Heap) (locs1 : List Loc), HQ E K z w' s H1 locs1 → W p l e R s m args below meth c H1 locs1 cells slots Q (F0 m (pc + 3) ls (.float r0 :: rest))) : W p l e R s m args below meth c H locs cells slots Q (F0 m pc ls st0) := by
  refine va_callf hr hH.2.1 (fun q _ h => h) (fun q h => h) (fun x u t H1 locs1 ht hvm hp hB hz hk hS => ?_)
  subst hp
  exact kk H1 locs1 ⟨by rw [← ht]; exact hB.2, hS, by rw [← ht]; exact hB.1.trans hH.2.2⟩
theorem hw_nret (hexec : p.tables.exec = Jvm.exec) (hb : c.code = cc) {ty : FieldType} (hret : meth.sig.returnType = some ty) {v r : Int32} (hn : narrow ty (.int v) = .int v) (hf : some (v, w) = some (r, w')) (hH : HQ E K z w s H locs) (hlocks : meth.locks = false) (hdg : decode cc pc = .ok (.ireturn, 1)) : W p l e R s m args below meth c H locs 0 0 (MQ below (QI E K z w' r) args s 0 0 (hA E)) (F0 m pc ls [.int v]) := by
  cases hf
  exact W.zret hexec hb hret hn (fun t ht hW => ⟨⟨v, (), rfl, rfl, by rw [ht]; exact hH.2.2, by rw [ht]; exact hH.1⟩, hH.2.1.F ht⟩) hH.2.1.2.2 hdg hlocks
theorem hw_dret (hexec : p.tables.exec = Jvm.exec) (hb : c.code = cc) (hret : meth.sig.returnType = some .double) {v r : UInt64} (hf : some (v, w) = some (r, w')) (hH : HQ E K z w s H locs) (hlocks : meth.locks = false) (hdg : decode cc pc = .ok (.dreturn, 1)) : W p l e R s m args below meth c H locs 0 0 (MQ below (QD E K z w' r) args s 0 0 (hA E)) (F0 m pc ls [.double v]) := by
  cases hf
  exact W.dret hexec hb hret (fun t ht hW => ⟨⟨v, (), rfl, rfl, by rw [ht]; exact hH.2.2, by rw [ht]; exact hH.1⟩, hH.2.1.F ht⟩) hH.2.1.2.2 hdg hlocks
theorem hw_fret (hexec : p.tables.exec = Jvm.exec) (hb : c.code = cc) (hret : meth.sig.returnType = some .float) {v r : UInt32} (hf : some (v, w) = some (r, w')) (hH : HQ E K z w s H locs) (hlocks : meth.locks = false) (hdg : decode cc pc = .ok (.freturn, 1)) : W p l e R s m args below meth c H locs 0 0 (MQ below (QF E K z w' r) args s 0 0 (hA E)) (F0 m pc ls [.float v]) := by
  cases hf
  exact W.fret hexec hb hret (fun t ht hW => ⟨⟨v, (), rfl, rfl, by rw [ht]; exact hH.2.2, by rw [ht]; exact hH.1⟩, hH.2.1.F ht⟩) hH.2.1.2.2 hdg hlocks
theorem hx_fret (hexec : p.tables.exec = Jvm.exec) (hb : c.code = cc) {mc ms : Nat} (hcm : cells ≤ mc) (hsm : slots ≤ ms) (hret : meth.sig.returnType = some .float) {v : UInt32} {r : UInt32 ⊕ Nat} (hf : some (.inl v, w) = some (r, w')) (hH : HQ E K z w s H locs) (hlocks : meth.locks = false) (hdg : decode cc pc = .ok (.freturn, 1)) : W p l e R s m args below meth c H locs cells slots (vx_MQ below (XF E K z w' r) (XX E K w' r) args s mc ms (hA E)) (F0 m pc ls [.float v]) := by
  cases hf
  exact W.widen hcm hsm (vx_ret (W.fret hexec hb hret (fun t ht hW => ⟨⟨v, (), rfl, rfl, by rw [ht]; exact hH.2.2, by rw [ht]; exact hH.1⟩, hH.2.1.F ht⟩) hH.2.1.2.2 hdg hlocks))
theorem hw_cs (hexec : p.tables.exec = Jvm.exec) (hb : c.code = cc) {own : String} {index : Nat} (hts : ∀ w ∈ bt, w.before args s = true) (hown : s.vm.findClass own = some m.cls) (hT : HT E s s.heap) (hH : HQ E K z w s H locs) (hlink : Cond.fieldLink own index RJ0 "COMPACT_STRINGS" "Z" ∈ bt) (hdg : decode cc pc = .ok (.getstatic index, 3))
    (kk : W p l e R s m args below meth c H locs cells slots Q (F0 m (pc + 3) ls (.int 1 :: rest))) : W p l e R s m args below meth c H locs cells slots Q (F0 m pc ls rest) := va_gets hexec hb hT.2.2.2.2.2.2.2.1 hH.2.1 hown (hts _ hlink) (fun _ h => h) hdg kk
theorem hw_fmt (hexec : p.tables.exec = Jvm.exec) (hb : c.code = cc) {own : String} {index : Nat} (hts : ∀ w ∈ bt, w.before args s = true) (hown : s.vm.findClass own = some m.cls) (hT : HT E s s.heap) (hH : HQ E K z w s H locs) (hlink : Cond.fieldLink own index "jdk/internal/util/Preconditions" "SIOOBE_FORMATTER" "Ljava/util/function/BiFunction;" ∈ bt) (hdg : decode cc pc = .ok (.getstatic index, 3))
    (kk : ∀ x : Option Nat, W p l e R s m args below meth c H locs cells slots Q (F0 m (pc + 3) ls (va_rf x :: rest))) : W p l e R s m args below meth c H locs cells slots Q (F0 m pc ls rest) := by
  rcases hT.2.2.2.2.2.2.2.2.1 with h | ⟨t, h⟩
  · exact va_gets hexec hb h hH.2.1 hown (hts _ hlink) (fun _ h => h) hdg (kk none)
  · exact va_gets hexec hb h hH.2.1 hown (hts _ hlink) (fun _ h => h) hdg (kk (some t))
theorem cix_d : ∀ i, i < 15 → cix.getD i 0 < 256 := by decide +kernel
theorem hw_ldcS (hexec : p.tables.exec = Jvm.exec) (hb : c.code = cc) (hown : s.vm.findClass RL = some m.cls) (hKs : HK E s) (i : Nat) (hi : i < 15) {k : Nat} (hk : cix.getD i 0 = k) (hdg : decode cc pc = .ok (.ldc k, 2))
    (kk : W p l e R s m args below meth c H locs cells slots Q (F0 m (pc + 2) ls (.ref (E.2.2.2.1 (300 + i)) :: rest))) : W p l e R s m args below meth c H locs cells slots Q (F0 m pc ls rest) := by
  subst hk
  intro T hT X
  obtain ⟨t, a1, b1⟩ := kk T hT X
  exact ⟨t, X.ldcString hexec hown (text := ctx.getD i "") (a := E.2.2.2.1 (300 + i)) (hKs.2.2.1 i hi).1 (hKs.2.2.1 i hi).2 (g := F0 m pc ls rest) rfl (by rw [hb]; exact hdg) t a1, b1⟩
theorem hw_coder (hexec : p.tables.exec = Jvm.exec) (hb : c.code = cc) {i : Nat} (hi : i < 15) {own : String} {index : Nat} (hts : ∀ w ∈ bt, w.before args s = true) (hown : s.vm.findClass own = some m.cls) (hT : HT E s s.heap) (hH : HQ E K z w s H locs) (hlink : Cond.fieldLink own index RJ0 "coder" "B" ∈ bt) (hdg : decode cc pc = .ok (.getfield index, 3))
    (kk : W p l e R s m args below meth c H locs cells slots Q (F0 m (pc + 3) ls (.int 0 :: rest))) : W p l e R s m args below meth c H locs cells slots Q (F0 m pc ls (.ref (E.2.2.2.1 (300 + i)) :: rest)) := vk_getf hexec hb (hT.2.2.2.2.1.1 i hi).2.1 hH.2.1 hown (hts _ hlink) (fun _ h => h) hdg kk
theorem hw_value (hexec : p.tables.exec = Jvm.exec) (hb : c.code = cc) {i : Nat} (hi : i < 15) {own : String} {index : Nat} (hts : ∀ w ∈ bt, w.before args s = true) (hown : s.vm.findClass own = some m.cls) (hT : HT E s s.heap) (hH : HQ E K z w s H locs) (hlink : Cond.fieldLink own index RJ0 "value" "[B" ∈ bt) (hdg : decode cc pc = .ok (.getfield index, 3))
    (kk : W p l e R s m args below meth c H locs cells slots Q (F0 m (pc + 3) ls (.ref (E.2.2.2.1 (400 + i)) :: rest))) : W p l e R s m args below meth c H locs cells slots Q (F0 m pc ls (.ref (E.2.2.2.1 (300 + i)) :: rest)) := vk_getf hexec hb (hT.2.2.2.2.1.1 i hi).2.2.1 hH.2.1 hown (hts _ hlink) (fun _ h => h) hdg kk
theorem strL_d : ∀ i, i < 15 → strL.getD i 0 < 18 := by decide +kernel
theorem hw_blen (hexec : p.tables.exec = Jvm.exec) (hb : c.code = cc) {i : Nat} (hi : i < 15) (hT : HT E s s.heap) (hH : HQ E K z w s H locs) (hdg : decode cc pc = .ok (.arraylength, 1))
    (kk : W p l e R s m args below meth c H locs cells slots Q (F0 m (pc + 1) ls (.int (nI (strL.getD i 0)) :: rest))) : W p l e R s m args below meth c H locs cells slots Q (F0 m pc ls (.ref (E.2.2.2.1 (400 + i)) :: rest)) := va_tlen hexec hb (hT.2.2.2.2.1.1 i hi).2.2.2 hH.2.1 rfl hdg kk
theorem hw_dg1 (hexec : p.tables.exec = Jvm.exec) (hb : c.code = cc) {own : String} {index : Nat} (hts : ∀ w ∈ bt, w.before args s = true) (hown : s.vm.findClass own = some m.cls) (hT : HT E s s.heap) (hH : HQ E K z w s H locs) (hlink : Cond.fieldLink own index RJ6 "DigitOnes" "[B" ∈ bt) (hdg : decode cc pc = .ok (.getstatic index, 3))
    (kk : W p l e R s m args below meth c H locs cells slots Q (F0 m (pc + 3) ls (.ref (E.2.2.2.1 103) :: rest))) : W p l e R s m args below meth c H locs cells slots Q (F0 m pc ls rest) := va_gets hexec hb hT.2.2.2.2.2.2.2.2.2.1.1 hH.2.1 hown (hts _ hlink) (fun _ h => h) hdg kk
theorem hw_dg10 (hexec : p.tables.exec = Jvm.exec) (hb : c.code = cc) {own : String} {index : Nat} (hts : ∀ w ∈ bt, w.before args s = true) (hown : s.vm.findClass own = some m.cls) (hT : HT E s s.heap) (hH : HQ E K z w s H locs) (hlink : Cond.fieldLink own index RJ6 "DigitTens" "[B" ∈ bt) (hdg : decode cc pc = .ok (.getstatic index, 3))
    (kk : W p l e R s m args below meth c H locs cells slots Q (F0 m (pc + 3) ls (.ref (E.2.2.2.1 104) :: rest))) : W p l e R s m args below meth c H locs cells slots Q (F0 m pc ls rest) := va_gets hexec hb hT.2.2.2.2.2.2.2.2.2.2.1.1 hH.2.1 hown (hts _ hlink) (fun _ h => h) hdg kk
theorem hw_d1at (hexec : p.tables.exec = Jvm.exec) (hb : c.code = cc) (hT : HT E s s.heap) (hH : HQ E K z w s H locs) {i : Int32} {j : Nat} (hj : ixa i 100 = some j) (hdg : decode cc pc = .ok (.baload, 1))
    (kk : W p l e R s m args below meth c H locs cells slots Q (F0 m (pc + 1) ls (.int (dg1B.getD j 0) :: rest))) : W p l e R s m args below meth c H locs cells slots Q (F0 m pc ls (.int i :: .ref (E.2.2.2.1 103) :: rest)) := by
  obtain ⟨h1, rfl⟩ := ixa_some hj
  exact va_tb hexec hb hT.2.2.2.2.2.2.2.2.2.1.2 hH.2.1 h1 rfl hdg kk
theorem hw_d10at (hexec : p.tables.exec = Jvm.exec) (hb : c.code = cc) (hT : HT E s s.heap) (hH : HQ E K z w s H locs) {i : Int32} {j : Nat} (hj : ixa i 100 = some j) (hdg : decode cc pc = .ok (.baload, 1))
    (kk : W p l e R s m args below meth c H locs cells slots Q (F0 m (pc + 1) ls (.int (dg10B.getD j 0) :: rest))) : W p l e R s m args below meth c H locs cells slots Q (F0 m pc ls (.int i :: .ref (E.2.2.2.1 104) :: rest)) := by
  obtain ⟨h1, rfl⟩ := ixa_some hj
  exact va_tb hexec hb hT.2.2.2.2.2.2.2.2.2.2.1.2 hH.2.1 h1 rfl hdg kk
/-- a constant text's own cell, for a call on it -/
theorem strRecv {i : Nat} (hi : i < 15) (hT : HT E s s.heap) (hH : HQ E K z w s H locs) : ∃ cell : Cell, H[E.2.2.2.1 (300 + i)]? = some cell ∧ cell.vm.isStatics = false ∧ s.vm.findClass RJ0 = some cell.cls := vk_recv (i := i) hT.2.2.2.2.1 hi hH.2.1
theorem hw_ord (hexec : p.tables.exec = Jvm.exec) (hb : c.code = cc) {own : String} {index k : Nat} (hk : k < 21) (hts : ∀ w ∈ bt, w.before args s = true) (hown : s.vm.findClass own = some m.cls) (hT : HT E s s.heap) (hH : HQ E K z w s H locs) (hlink : Cond.fieldLink own index "java/lang/Enum" "ordinal" "I" ∈ bt) (hdg : decode cc pc = .ok (.getfield index, 3))
    (kk : W p l e R s m args below meth c H locs cells slots Q (F0 m (pc + 3) ls (.int (tokO.getD k 0) :: rest))) : W p l e R s m args below meth c H locs cells slots Q (F0 m pc ls (re E (some k) :: rest)) := vk_getf hexec hb ((hT.1.1 k hk).2.2 _ List.mem_cons_self) hH.2.1 hown (hts _ hlink) (fun _ h => h) hdg kk
theorem tokRecv {k : Nat} (hk : k < 21) (hT : HT E s s.heap) (hH : HQ E K z w s H locs) : ∃ cell : Cell, H[E.2.2.2.1 k]? = some cell ∧ cell.vm.isStatics = false ∧ s.vm.findClass RX11 = some cell.cls := by
  obtain ⟨cell, h1, h2, h3, -⟩ := (hT.1.1 k hk).2.1.kept hH.2.1.2.1
  exact ⟨cell, h1, h2, h3⟩
end MORE
theorem gU {own C owner : String} {idx maxL : Nat} {x y : MethodName} {cc : ByteArray} {ret : Option FieldType} (h1 : Cond.methodLink own idx x ∈ bt) (h0 : Cond.sameMethod x.cls owner x.name x.desc ∈ bt) (h2 : Cond.instanceMethod y ∈ bt) (h3 : Cond.selects C x y ∈ bt) (h4 : Cond.initialized y.cls ∈ bt) (h5 : Cond.code y cc maxL ret ∈ bt) : GoodIn bt (va_wsU own idx C owner x y (Cond.code y cc maxL ret :: bt)) := by
  intro w hw
  have hm : w ∈ bt := by
    unfold va_wsU at hw
    simp only [List.cons_append, List.nil_append, List.mem_cons] at hw
    rcases hw with rfl | rfl | rfl | rfl | rfl | rfl | hw
    all_goals first | exact h1 | exact h0 | exact h2 | exact h3 | exact h4 | exact h5 | exact hw
  exact ⟨hm, good_of_word (bt_good hm)⟩
def tki (r : Option Nat) : Option Nat := r.bind fun a => if a < 21 then some a else none
theorem tki_some {r : Option Nat} {a : Nat} (h : tki r = some a) : r = some a ∧ a < 21 := by
  obtain ⟨b, h1, h2⟩ := bnd h
  split at h2
  · rename_i h3; cases h2; exact ⟨h1, h3⟩
  · cases h2
def imax (x y : Int32) : Int32 := if x < y then y else x
def imin (x y : Int32) : Int32 := if y < x then y else x
