/-! Objects and arrays that are made: the memory grows by a place. -/
def kup (K : Kd) (n : Nat) (q : Nat × Nat) : Kd := fun a => if a = n then some q else K a
def clr (w : Wd) (n : Nat) : Wd := (fun f a => if a = n then 0 else w.1 f a, fun f a => if a = n then none else w.2.1 f a, fun f a => if a = n then 0 else w.2.2.1 f a, fun f a => if a = n then false else w.2.2.2.1 f a, fun a => if a = n then (fun _ => 0) else w.2.2.2.2.1 a, fun a => if a = n then (fun _ => 0) else w.2.2.2.2.2.1 a, fun a => if a = n then (fun _ => none) else w.2.2.2.2.2.2.1 a, fun a => if a = n then (fun _ => 0) else w.2.2.2.2.2.2.2 a)
theorem rend_clr {E : Ev} {w : Wd} {q : Nat × Nat} {n b : Nat} (h : b ≠ n) : rend E (clr w n) q b = rend E w q b := by
  apply rend_congr <;> intros <;> simp [wI, wR, wJ, wZ, aI, aJ, aR, aD, clr, h]
theorem HP.made {E : Ev} {K : Kd} {w : Wd} {H H1 : Heap} {n : Nat} {q : Nat × Nat} (h : HP E K w H) (hz : H.size = E.2.1 + n) (ho : ∀ x, x < H.size → H1[x]? = H[x]?) (ha : va_at E.1 vwCl (E.2.1 + n, rend E (clr w n) q n) H1) : HP E (kup K n q) (clr w n) H1 := by
  intro b y hb
  unfold kup at hb
  by_cases e : b = n
  · subst e
    rw [if_pos rfl] at hb
    cases hb
    exact ha
  · rw [if_neg e] at hb
    rw [rend_clr e]
    exact (h b y hb).kept (ho _ (h b y hb).lt)
theorem va_S.made {A : Nat → Prop} {H0 H H1 : Heap} {locs : List Loc} (hS : va_S A H0 H locs) (hz : H1.size = H.size + 1) (ho : ∀ x, x < H.size → H1[x]? = H[x]?) : va_S A H0 H1 locs :=
  ⟨Nat.le_trans hS.1 (by omega), fun x h1 h2 => (ho x (Nat.lt_of_lt_of_le h1 hS.1)).trans (hS.2.1 x h1 h2), hS.2.2⟩
section NEW
variable {p : Program} {l : Launch} {e : Env} {R : Room} {s : State} {m : MethodId} {args : Array Value} {below : List Frame} {meth : Method} {c : Code} {H : Heap} {locs : List Loc} {cells slots : Nat} {Q : State → Prop}
variable {cc : ByteArray} {pc n : Nat} {ls : Array Slot} {rest : List Value} {E : Ev} {K : Kd} {z : Nat} {w : Wd}
theorem hw_new (hexec : p.tables.exec = Jvm.exec) (hb : c.code = cc) {own C : String} {T : u_T} {N ci index : Nat} (hts : ∀ w ∈ bt, w.before args s = true) (hin : ∀ w ∈ u_ws C T N, w ∈ bt) (ty : Nat → FieldType) (hty : ∀ k, k < N → parseFieldDescriptor (T k).2.2.1 = some (ty k)) (hown : s.vm.findClass own = some m.cls) (hcl : Cond.classLink own index C ∈ bt) (hinst : (Cond.instantiable C N).before args s = true) (hini : Cond.initialized C ∈ bt)
    (hKs : HK E s) (hb0 : E.2.1 ≤ s.heap.size) (hH : HQ E K (E.2.1 + n) w s H locs) (hc : vwCl[ci]? = some (C, T, N)) {fs : List Value} (hr : rend E (clr w n) (ci, 0) n = .inr (ci, fs)) (hfs : ∀ j, j < N → defaultValue (ty j) = vp_V fs j) (hcells : cells + 1 ≤ R.cells) (hslots : slots + N ≤ R.slots) (hdg : decode cc pc = .ok (.new index, 3))
    (kk : ∀ (H1 : Heap), HQ E (kup K n (ci, 0)) (E.2.1 + (n + 1)) (clr w n) s H1 locs → W p l e R s m args below meth c H1 locs (cells + 1) (slots + N) Q (F0 m (pc + 3) ls (rv E (some n) :: rest))) : W p l e R s m args below meth c H locs cells slots Q (F0 m pc ls rest) := by
  have hKn := hKs.1.1 ci _ hc
  refine W.newcK hexec hb hown (hts _ hcl) hinst (hts _ hini) rfl hdg hcells hslots hKn.2.1 hH.2.2 fun H1 kC hkC e1 z1 o1 => ?_
  have o1 : ∀ x, x < H.size → H1[x]? = H[x]? := fun x hx => o1 x (by rw [← hH.2.2]; exact hx)
  refine kk H1 ⟨hH.1.made hH.2.2 o1 ?_, hH.2.1.made (by rw [hH.2.2]; exact z1) o1, by omega⟩
  rw [hr]
  exact ⟨_, hc, (u_born ty hts hin hKn hkC e1 hty).to hfs⟩
theorem hw_newK (hexec : p.tables.exec = Jvm.exec) (hb : c.code = cc) {atype : ArrayType} {ty : FieldType} (hty : newarray.typeOf atype = ty) (hts : ∀ w ∈ bt, w.before args s = true) (harr : Cond.arrayClass ty ∈ bt) (hH : HQ E K (E.2.1 + n) w s H locs) {kd : Nat} (hfc : s.vm.findClass ("[" ++ ty.toString) = some (E.2.2.1 kd))
    {x : Int32} {N : Nat} (hx : ¬ x < 0) (hN : x.toNatClampNeg = N) (hcell : va_at E.1 vwCl (E.2.1 + n, rend E (clr w n) (kd, N) n) = fun H1 => H1[E.2.1 + n]? = some (arrV (E.2.2.1 kd) N (fun _ => defaultValue ty))) (hbytes : N * componentBytes ty ≤ 536870912) (hcells : cells + 1 ≤ R.cells) (hslots : slots + N ≤ R.slots) (hdg : decode cc pc = .ok (.newarray atype, 2))
    (kk : ∀ (H1 : Heap), HQ E (kup K n (kd, N)) (E.2.1 + (n + 1)) (clr w n) s H1 locs → W p l e R s m args below meth c H1 locs (cells + 1) (slots + N) Q (F0 m (pc + 2) ls (rv E (some n) :: rest))) : W p l e R s m args below meth c H locs cells slots Q (F0 m pc ls (.int x :: rest)) := by
  subst hty
  refine va_newaK hexec hb (hts _ harr) rfl hdg rfl hx hN hbytes hcells hslots hH.2.2 fun H1 cA e1 z1 o1 hAr hNm => ?_
  have hcA : cA = E.2.2.1 kd := Option.some.inj (hNm.symm.trans hfc)
  subst hcA
  have o1 : ∀ x, x < H.size → H1[x]? = H[x]? := fun x hx => o1 x (by rw [← hH.2.2]; exact hx)
  refine kk H1 ⟨hH.1.made hH.2.2 o1 ?_, hH.2.1.made (by rw [hH.2.2]; exact z1) o1, by omega⟩
  rw [hcell]
  exact e1
theorem hw_newa20 (hexec : p.tables.exec = Jvm.exec) (hb : c.code = cc) (hts : ∀ w ∈ bt, w.before args s = true) (harr : Cond.arrayClass .int ∈ bt) (hKs : HK E s) (hH : HQ E K (E.2.1 + n) w s H locs)
    {x : Int32} {N : Nat} (hx : ¬ x < 0) (hN : x.toNatClampNeg = N) (hbytes : N * componentBytes .int ≤ 536870912) (hcells : cells + 1 ≤ R.cells) (hslots : slots + N ≤ R.slots) (hdg : decode cc pc = .ok (.newarray .int, 2))
    (kk : ∀ (H1 : Heap), HQ E (kup K n (20, N)) (E.2.1 + (n + 1)) (clr w n) s H1 locs → W p l e R s m args below meth c H1 locs (cells + 1) (slots + N) Q (F0 m (pc + 2) ls (rv E (some n) :: rest))) : W p l e R s m args below meth c H locs cells slots Q (F0 m pc ls (.int x :: rest)) :=
  hw_newK (kd := 20) hexec hb (ty := .int) rfl hts harr hH (hKs.1.2 0 _ rfl).2 hx hN (funext fun H1 => by
    show (H1[E.2.1 + n]? = some (vp_cell _ _)) = _
    rw [vp_cell_i]
    simp [aI, aJ, aD, clr, defaultValue]) hbytes hcells hslots hdg kk
theorem hw_newa21 (hexec : p.tables.exec = Jvm.exec) (hb : c.code = cc) (hts : ∀ w ∈ bt, w.before args s = true) (harr : Cond.arrayClass .byte ∈ bt) (hKs : HK E s) (hH : HQ E K (E.2.1 + n) w s H locs)
    {x : Int32} {N : Nat} (hx : ¬ x < 0) (hN : x.toNatClampNeg = N) (hbytes : N * componentBytes .byte ≤ 536870912) (hcells : cells + 1 ≤ R.cells) (hslots : slots + N ≤ R.slots) (hdg : decode cc pc = .ok (.newarray .byte, 2))
    (kk : ∀ (H1 : Heap), HQ E (kup K n (21, N)) (E.2.1 + (n + 1)) (clr w n) s H1 locs → W p l e R s m args below meth c H1 locs (cells + 1) (slots + N) Q (F0 m (pc + 2) ls (rv E (some n) :: rest))) : W p l e R s m args below meth c H locs cells slots Q (F0 m pc ls (.int x :: rest)) :=
  hw_newK (kd := 21) hexec hb (ty := .byte) rfl hts harr hH (hKs.1.2 1 _ rfl).2 hx hN (funext fun H1 => by
    show (H1[E.2.1 + n]? = some (vp_cell _ _)) = _
    rw [vp_cell_i]
    simp [aI, aJ, aD, clr, defaultValue]) hbytes hcells hslots hdg kk
theorem hw_newa23 (hexec : p.tables.exec = Jvm.exec) (hb : c.code = cc) (hts : ∀ w ∈ bt, w.before args s = true) (harr : Cond.arrayClass .long ∈ bt) (hKs : HK E s) (hH : HQ E K (E.2.1 + n) w s H locs)
    {x : Int32} {N : Nat} (hx : ¬ x < 0) (hN : x.toNatClampNeg = N) (hbytes : N * componentBytes .long ≤ 536870912) (hcells : cells + 1 ≤ R.cells) (hslots : slots + N ≤ R.slots) (hdg : decode cc pc = .ok (.newarray .long, 2))
    (kk : ∀ (H1 : Heap), HQ E (kup K n (23, N)) (E.2.1 + (n + 1)) (clr w n) s H1 locs → W p l e R s m args below meth c H1 locs (cells + 1) (slots + N) Q (F0 m (pc + 2) ls (rv E (some n) :: rest))) : W p l e R s m args below meth c H locs cells slots Q (F0 m pc ls (.int x :: rest)) :=
  hw_newK (kd := 23) hexec hb (ty := .long) rfl hts harr hH (hKs.1.2 3 _ rfl).2 hx hN (funext fun H1 => by
    show (H1[E.2.1 + n]? = some (vp_cell _ _)) = _
    rw [vp_cell_l]
    simp [aI, aJ, aD, clr, defaultValue]) hbytes hcells hslots hdg kk
theorem hw_newq25 (hexec : p.tables.exec = Jvm.exec) (hb : c.code = cc) {own : String} {index : Nat} (hts : ∀ w ∈ bt, w.before args s = true) (hown : s.vm.findClass own = some m.cls) (hcl : Cond.classLink own index RX3 ∈ bt) (hover : (Cond.arrayOver (.object RX3)).before args s = true) (hKs : HK E s) (hH : HQ E K (E.2.1 + n) w s H locs)
    {x : Int32} {N : Nat} (hx : ¬ x < 0) (hN : x.toNatClampNeg = N) (hbytes : N * 4 ≤ 536870912) (hcells : cells + 1 ≤ R.cells) (hslots : slots + N ≤ R.slots) (hdg : decode cc pc = .ok (.anewarray index, 3))
    (kk : ∀ (H1 : Heap), HQ E (kup K n (25, N)) (E.2.1 + (n + 1)) (clr w n) s H1 locs → W p l e R s m args below meth c H1 locs (cells + 1) (slots + N) Q (F0 m (pc + 3) ls (rv E (some n) :: rest))) : W p l e R s m args below meth c H locs cells slots Q (F0 m pc ls (.int x :: rest)) := by
  subst hN
  refine W.anew hexec hb hown (hts _ hcl) hover rfl hdg rfl hx hbytes hcells hslots fun cA kA comp f1 f2 f3 f4 => ?_
  obtain ⟨kA', comp', -, -, -, g4⟩ := (hKs.1.2 5 _ rfl).2
  have hcA : cA = E.2.2.1 25 := Option.some.inj (f1.symm.trans g4)
  subst hcA
  generalize hH1 : H.push ({ cls := E.2.2.1 25, slots := Array.replicate x.toNatClampNeg .null, vm := .none } : Cell) = H1
  have z1 : H1.size = H.size + 1 := by rw [← hH1, Array.size_push]
  have e1 : H1[H.size]? = some (arrV (E.2.2.1 25) x.toNatClampNeg (fun _ => .null)) := by rw [← hH1, Array.getElem?_push_size, ← arrV_new]
  have o1 : ∀ q : Nat, q < H.size → H1[q]? = H[q]? := fun q hq => by rw [← hH1, Array.getElem?_push, if_neg (Nat.ne_of_lt hq)]
  rw [hH.2.2]
  refine kk H1 ⟨hH.1.made hH.2.2 o1 ?_, hH.2.1.made z1 o1, by rw [z1, hH.2.2]; rfl⟩
  show H1[E.2.1 + n]? = some (vp_cell _ _)
  rw [vp_cell_q, ← hH.2.2, e1]
  simp [aR, clr, va_rf]
theorem hw_newq26 (hexec : p.tables.exec = Jvm.exec) (hb : c.code = cc) {own : String} {index : Nat} (hts : ∀ w ∈ bt, w.before args s = true) (hown : s.vm.findClass own = some m.cls) (hcl : Cond.classLink own index RX4 ∈ bt) (hover : (Cond.arrayOver (.object RX4)).before args s = true) (hKs : HK E s) (hH : HQ E K (E.2.1 + n) w s H locs)
    {x : Int32} {N : Nat} (hx : ¬ x < 0) (hN : x.toNatClampNeg = N) (hbytes : N * 4 ≤ 536870912) (hcells : cells + 1 ≤ R.cells) (hslots : slots + N ≤ R.slots) (hdg : decode cc pc = .ok (.anewarray index, 3))
    (kk : ∀ (H1 : Heap), HQ E (kup K n (26, N)) (E.2.1 + (n + 1)) (clr w n) s H1 locs → W p l e R s m args below meth c H1 locs (cells + 1) (slots + N) Q (F0 m (pc + 3) ls (rv E (some n) :: rest))) : W p l e R s m args below meth c H locs cells slots Q (F0 m pc ls (.int x :: rest)) := by
  subst hN
  refine W.anew hexec hb hown (hts _ hcl) hover rfl hdg rfl hx hbytes hcells hslots fun cA kA comp f1 f2 f3 f4 => ?_
  obtain ⟨kA', comp', -, -, -, g4⟩ := (hKs.1.2 6 _ rfl).2
  have hcA : cA = E.2.2.1 26 := Option.some.inj (f1.symm.trans g4)
  subst hcA
  generalize hH1 : H.push ({ cls := E.2.2.1 26, slots := Array.replicate x.toNatClampNeg .null, vm := .none } : Cell) = H1
  have z1 : H1.size = H.size + 1 := by rw [← hH1, Array.size_push]
  have e1 : H1[H.size]? = some (arrV (E.2.2.1 26) x.toNatClampNeg (fun _ => .null)) := by rw [← hH1, Array.getElem?_push_size, ← arrV_new]
  have o1 : ∀ q : Nat, q < H.size → H1[q]? = H[q]? := fun q hq => by rw [← hH1, Array.getElem?_push, if_neg (Nat.ne_of_lt hq)]
  rw [hH.2.2]
  refine kk H1 ⟨hH.1.made hH.2.2 o1 ?_, hH.2.1.made z1 o1, by rw [z1, hH.2.2]; rfl⟩
  show H1[E.2.1 + n]? = some (vp_cell _ _)
  rw [vp_cell_q, ← hH.2.2, e1]
  simp [aR, clr, va_rf]
theorem hw_newq27 (hexec : p.tables.exec = Jvm.exec) (hb : c.code = cc) {own : String} {index : Nat} (hts : ∀ w ∈ bt, w.before args s = true) (hown : s.vm.findClass own = some m.cls) (hcl : Cond.classLink own index RX7 ∈ bt) (hover : (Cond.arrayOver (.object RX7)).before args s = true) (hKs : HK E s) (hH : HQ E K (E.2.1 + n) w s H locs)
    {x : Int32} {N : Nat} (hx : ¬ x < 0) (hN : x.toNatClampNeg = N) (hbytes : N * 4 ≤ 536870912) (hcells : cells + 1 ≤ R.cells) (hslots : slots + N ≤ R.slots) (hdg : decode cc pc = .ok (.anewarray index, 3))
    (kk : ∀ (H1 : Heap), HQ E (kup K n (27, N)) (E.2.1 + (n + 1)) (clr w n) s H1 locs → W p l e R s m args below meth c H1 locs (cells + 1) (slots + N) Q (F0 m (pc + 3) ls (rv E (some n) :: rest))) : W p l e R s m args below meth c H locs cells slots Q (F0 m pc ls (.int x :: rest)) := by
  subst hN
  refine W.anew hexec hb hown (hts _ hcl) hover rfl hdg rfl hx hbytes hcells hslots fun cA kA comp f1 f2 f3 f4 => ?_
  obtain ⟨kA', comp', -, -, -, g4⟩ := (hKs.1.2 7 _ rfl).2
  have hcA : cA = E.2.2.1 27 := Option.some.inj (f1.symm.trans g4)
  subst hcA
  generalize hH1 : H.push ({ cls := E.2.2.1 27, slots := Array.replicate x.toNatClampNeg .null, vm := .none } : Cell) = H1
  have z1 : H1.size = H.size + 1 := by rw [← hH1, Array.size_push]
  have e1 : H1[H.size]? = some (arrV (E.2.2.1 27) x.toNatClampNeg (fun _ => .null)) := by rw [← hH1, Array.getElem?_push_size, ← arrV_new]
  have o1 : ∀ q : Nat, q < H.size → H1[q]? = H[q]? := fun q hq => by rw [← hH1, Array.getElem?_push, if_neg (Nat.ne_of_lt hq)]
  rw [hH.2.2]
  refine kk H1 ⟨hH.1.made hH.2.2 o1 ?_, hH.2.1.made z1 o1, by rw [z1, hH.2.2]; rfl⟩
  show H1[E.2.1 + n]? = some (vp_cell _ _)
  rw [vp_cell_q, ← hH.2.2, e1]
  simp [aR, clr, va_rf]
theorem hw_newq28 (hexec : p.tables.exec = Jvm.exec) (hb : c.code = cc) {own : String} {index : Nat} (hts : ∀ w ∈ bt, w.before args s = true) (hown : s.vm.findClass own = some m.cls) (hcl : Cond.classLink own index RX10 ∈ bt) (hover : (Cond.arrayOver (.object RX10)).before args s = true) (hKs : HK E s) (hH : HQ E K (E.2.1 + n) w s H locs)
    {x : Int32} {N : Nat} (hx : ¬ x < 0) (hN : x.toNatClampNeg = N) (hbytes : N * 4 ≤ 536870912) (hcells : cells + 1 ≤ R.cells) (hslots : slots + N ≤ R.slots) (hdg : decode cc pc = .ok (.anewarray index, 3))
    (kk : ∀ (H1 : Heap), HQ E (kup K n (28, N)) (E.2.1 + (n + 1)) (clr w n) s H1 locs → W p l e R s m args below meth c H1 locs (cells + 1) (slots + N) Q (F0 m (pc + 3) ls (rv E (some n) :: rest))) : W p l e R s m args below meth c H locs cells slots Q (F0 m pc ls (.int x :: rest)) := by
  subst hN
  refine W.anew hexec hb hown (hts _ hcl) hover rfl hdg rfl hx hbytes hcells hslots fun cA kA comp f1 f2 f3 f4 => ?_
  obtain ⟨kA', comp', -, -, -, g4⟩ := (hKs.1.2 8 _ rfl).2
  have hcA : cA = E.2.2.1 28 := Option.some.inj (f1.symm.trans g4)
  subst hcA
  generalize hH1 : H.push ({ cls := E.2.2.1 28, slots := Array.replicate x.toNatClampNeg .null, vm := .none } : Cell) = H1
  have z1 : H1.size = H.size + 1 := by rw [← hH1, Array.size_push]
  have e1 : H1[H.size]? = some (arrV (E.2.2.1 28) x.toNatClampNeg (fun _ => .null)) := by rw [← hH1, Array.getElem?_push_size, ← arrV_new]
  have o1 : ∀ q : Nat, q < H.size → H1[q]? = H[q]? := fun q hq => by rw [← hH1, Array.getElem?_push, if_neg (Nat.ne_of_lt hq)]
  rw [hH.2.2]
  refine kk H1 ⟨hH.1.made hH.2.2 o1 ?_, hH.2.1.made z1 o1, by rw [z1, hH.2.2]; rfl⟩
  show H1[E.2.1 + n]? = some (vp_cell _ _)
  rw [vp_cell_q, ← hH.2.2, e1]
  simp [aR, clr, va_rf]
theorem hw_putF (hexec : p.tables.exec = Jvm.exec) (hb : c.code = cc) {own C : String} {T : u_T} {N ci index : Nat} (hts : ∀ w ∈ bt, w.before args s = true) (hin : ∀ w ∈ u_ws C T N, w ∈ bt) (ty0 : Nat → FieldType) (hty : ∀ k, k < N → parseFieldDescriptor (T k).2.2.1 = some (ty0 k)) (hnm : ∀ a, a < N → ∀ b, b < N → a ≠ b → (T a).2.1 ≠ (T b).2.1) (hown : s.vm.findClass own = some m.cls) (hKs : HK E s) (hH : HQ E K z w s H locs) (hc : vwCl[ci]? = some (C, T, N)) {r : Option Nat} {a : Nat} (hr : r = some a) (hKa : K a = some (ci, 0)) {fs : List Value} (hfs : rend E w (ci, 0) a = .inr (ci, fs)) (k : Nat) (hk : k < N) (hlink : Cond.fieldLink own index (T k).1 (T k).2.1 (T k).2.2.1 ∈ bt) (hfin : (T k).2.2.2 = true) (hnm2 : meth.name = "<init>") (hdecl : (T k).1 = own) {ty : FieldType} {v : Value} (hd : parseFieldDescriptor (T k).2.2.1 = some ty) (hn : narrow ty v = v) (hfit : fits ty v = true) (hl : k < fs.length) {w' : Wd} (hw' : rend E w' (ci, 0) a = .inr (ci, fs.set k v)) (hrr : ∀ b y, b ≠ a → rend E w' y b = rend E w y b) (hdg : decode cc pc = .ok (.putfield index, 3))
    (kk : ∀ (H1 : Heap) (locs1 : List Loc), HQ E K z w' s H1 locs1 → W p l e R s m args below meth c H1 locs1 cells slots Q (F0 m (pc + 3) ls rest)) : W p l e R s m args below meth c H locs cells slots Q (F0 m pc ls (v :: rv E r :: rest)) := by
  subst hr
  have hap := va_apart (own := own) hts hin ty0 hty hnm hKs.1 hc
  have h0 := hH.1 a _ hKa
  rw [hfs] at h0
  obtain ⟨r, h1, cell, q1, q2, q3, q4⟩ := h0
  have hr : r = (C, T, N) := Option.some.inj (h1.symm.trans hc)
  subst hr
  obtain ⟨hS, hfc, kC, hkC, hkind⟩ := hKs.1.1 ci _ hc
  obtain ⟨cf, kf, fi, f, hi, hsl⟩ := hS k hk
  have hlay := hts _ (hin _ (u_in_lay hk))
  unfold u_lay at hlay
  rw [if_pos hfin] at hlay
  have hst := (u_facts hfc hkC (u_lays hts hin hk) hi).1
  have hcf : m.cls = cf := by
    obtain ⟨_, _, c', _, _, _, -, -, hf', -, -, -, hown2, -⟩ := Cond.laysFinal_spec hlay
    have e1 : c' = cf := by have := hi.symm.trans hf'; simp at this; exact this.1.symm
    rw [hdecl] at hown2
    rw [← e1]; exact Option.some.inj (hown.symm.trans hown2)
  have h6 := u_fits hfc hkC hkind (Or.inr hlay) hi hd hn hfit
  refine W.putFinK hexec hb hown (hts _ hlink) hi hst hcf hnm2 (by rw [q2]; exact h6) q1 q3 (by rw [hsl]; exact k2_hasslot (q4 k hk)) rfl rfl hdg fun H' e1 e2 e3 => ?_
  rw [hsl] at e1 ⊢
  refine kk H' _ ⟨hH.1.put hKa e3 ?_ hrr, hH.2.1.put e2 e3 (Nat.le_add_right _ _), e2.trans hH.2.2⟩
  rw [hw']
  exact ⟨_, hc, t_OB.to (V := updV (vp_V fs) k v) ⟨_, e1, q2, q3, t_set q4 hap hk v⟩ (fun j _ => vp_updV_set hl v j)⟩
theorem hw_aret (hexec : p.tables.exec = Jvm.exec) (hb : c.code = cc) {mc ms n' : Nat} {K' : Kd} {w' : Wd} (hcm : cells ≤ mc) (hsm : slots ≤ ms) (hret : meth.sig.returnType = none) (hf : some (K, n, w) = some (K', n', w')) (hH : HQ E K (E.2.1 + n) w s H locs) (hlocks : meth.locks = false) (hdg : decode cc pc = .ok (.return_, 1)) : W p l e R s m args below meth c H locs cells slots (MQ below (QV E K' (E.2.1 + n') w') args s mc ms (hA E)) (F0 m pc ls []) := by
  cases hf
  exact W.widen hcm hsm (W.vret hexec hb hret (fun t ht hW => ⟨⟨(), rfl, trivial, by rw [ht]; exact hH.2.2, by rw [ht]; exact hH.1⟩, hH.2.1.F ht⟩) hH.2.1.2.2 hdg hlocks)
theorem hcA {K' : Kd} {n' kc ks : Nat} {w' : Wd} {st0 : List Value} {a : Array Value} (hH : HQ E K (E.2.1 + n) w s H locs) (hr : va_Run p l e R s m args below meth c H locs cells slots kc ks (F0 m pc ls st0) rest (QV E K' (E.2.1 + n') w' a) (hA E)) (kk : ∀ (H1 : Heap) (locs1 : List Loc), HQ E K' (E.2.1 + n') w' s H1 locs1 → W p l e R s m args below meth c H1 locs1 (cells + kc) (slots + ks) Q (F0 m (pc + 3) ls rest)) : W p l e R s m args below meth c H locs cells slots Q (F0 m pc ls st0) := by
  refine va_callv hr hH.2.1 (fun q _ h => h) (fun q h => h) (fun u t H1 locs1 ht hvm hp hB hz hk hS => ?_)
  exact kk H1 locs1 ⟨by rw [← ht]; exact hB.2, hS, by rw [← ht]; exact hB.1⟩
theorem hw_obj (hexec : p.tables.exec = Jvm.exec) (hb : c.code = cc) {own : String} {idx nL : Nat} (hml : c.maxLocals = nL) (hsz : ls.size = nL) (hown : s.vm.findClass own = some m.cls) (hts : ∀ w ∈ bt, w.before args s = true) (h1 : Cond.methodLink own idx Lib.objectInit ∈ bt) (h2 : Cond.instanceMethod Lib.objectInit ∈ bt) (h3 : Cond.code Lib.objectInit ⟨#[0xb1]⟩ 1 none ∈ bt) (hd : decode cc pc = .ok (.invokespecial idx, 3)) (hframes : 1 ≤ R.frames) (hlocals : 12 ≤ R.locals) {x : Nat}
    (kk : W p l e R s m args below meth c H locs cells slots Q (F0 m (pc + 3) ls [])) : W p l e R s m args below meth c H locs cells slots Q (F0 m pc ls [rv E (some x)]) :=
  W.objInit hexec hb hown (hts _ h1) (hts _ h2) (hts _ h3) rfl (by rw [hml]; exact hsz) rfl hd hframes (by show 2 * 0 + 0 + 12 ≤ _; simpa using hlocals) kk
end NEW
section NEWF
variable {p : Program} {l : Launch} {e : Env} {R : Room} {s : State} {m : MethodId} {args : Array Value} {below : List Frame} {meth : Method} {c : Code} {H : Heap} {locs : List Loc} {cells slots : Nat} {Q : State → Prop}
variable {cc : ByteArray} {pc : Nat} {ls : Array Slot} {rest : List Value} {E : Ev} {K : Kd} {z : Nat} {w : Wd} {own : String} {index : Nat} {a : Nat} {r : Option Nat}
theorem pf1_0 (hexec : p.tables.exec = Jvm.exec) (hb : c.code = cc) (hts : ∀ w ∈ bt, w.before args s = true) (hown : s.vm.findClass RX1 = some m.cls) (hKs : HK E s) (hH : HQ E K z w s H locs) (hr : r = some a) (hKa : K a = some (0, 0)) (hn2 : meth.name = "<init>") (hlink : Cond.fieldLink RX1 index RX1 "conflicts" "[I" ∈ bt) {v : Option Nat} (hdg : decode cc pc = .ok (.putfield index, 3)) (kk : ∀ (H1 : Heap) (locs1 : List Loc), HQ E K z (sR w 100 a v) s H1 locs1 → W p l e R s m args below meth c H1 locs1 cells slots Q (F0 m (pc + 3) ls rest)) : W p l e R s m args below meth c H locs cells slots Q (F0 m pc ls (rv E (v) :: rv E r :: rest)) := hw_putF hexec hb hts iX1 tyX1 tyX1_ok nmX1 hown hKs hH (ci := 0) rfl hr hKa rfl 0 (by decide) hlink rfl hn2 rfl (tyX1_ok 0 (by decide)) (by cases v <;> rfl) (by cases v <;> rfl) (by show 0 < 5; decide) (congrArg (fun l => (Sum.inr (0, l) : va_E)) pX1_0) (fun b y hb => rend_sR hb) hdg kk
theorem pf1_1 (hexec : p.tables.exec = Jvm.exec) (hb : c.code = cc) (hts : ∀ w ∈ bt, w.before args s = true) (hown : s.vm.findClass RX1 = some m.cls) (hKs : HK E s) (hH : HQ E K z w s H locs) (hr : r = some a) (hKa : K a = some (0, 0)) (hn2 : meth.name = "<init>") (hlink : Cond.fieldLink RX1 index RX1 "permittedCases" "[I" ∈ bt) {v : Option Nat} (hdg : decode cc pc = .ok (.putfield index, 3)) (kk : ∀ (H1 : Heap) (locs1 : List Loc), HQ E K z (sR w 101 a v) s H1 locs1 → W p l e R s m args below meth c H1 locs1 cells slots Q (F0 m (pc + 3) ls rest)) : W p l e R s m args below meth c H locs cells slots Q (F0 m pc ls (rv E (v) :: rv E r :: rest)) := hw_putF hexec hb hts iX1 tyX1 tyX1_ok nmX1 hown hKs hH (ci := 0) rfl hr hKa rfl 1 (by decide) hlink rfl hn2 rfl (tyX1_ok 1 (by decide)) (by cases v <;> rfl) (by cases v <;> rfl) (by show 1 < 5; decide) (congrArg (fun l => (Sum.inr (0, l) : va_E)) pX1_1) (fun b y hb => rend_sR hb) hdg kk
theorem pf1_2 (hexec : p.tables.exec = Jvm.exec) (hb : c.code = cc) (hts : ∀ w ∈ bt, w.before args s = true) (hown : s.vm.findClass RX1 = some m.cls) (hKs : HK E s) (hH : HQ E K z w s H locs) (hr : r = some a) (hKa : K a = some (0, 0)) (hn2 : meth.name = "<init>") (hlink : Cond.fieldLink RX1 index RX1 "choices" "[I" ∈ bt) {v : Option Nat} (hdg : decode cc pc = .ok (.putfield index, 3)) (kk : ∀ (H1 : Heap) (locs1 : List Loc), HQ E K z (sR w 102 a v) s H1 locs1 → W p l e R s m args below meth c H1 locs1 cells slots Q (F0 m (pc + 3) ls rest)) : W p l e R s m args below meth c H locs cells slots Q (F0 m pc ls (rv E (v) :: rv E r :: rest)) := hw_putF hexec hb hts iX1 tyX1 tyX1_ok nmX1 hown hKs hH (ci := 0) rfl hr hKa rfl 2 (by decide) hlink rfl hn2 rfl (tyX1_ok 2 (by decide)) (by cases v <;> rfl) (by cases v <;> rfl) (by show 2 < 5; decide) (congrArg (fun l => (Sum.inr (0, l) : va_E)) pX1_2) (fun b y hb => rend_sR hb) hdg kk
theorem pf2_0 (hexec : p.tables.exec = Jvm.exec) (hb : c.code = cc) (hts : ∀ w ∈ bt, w.before args s = true) (hown : s.vm.findClass RX2 = some m.cls) (hKs : HK E s) (hH : HQ E K z w s H locs) (hr : r = some a) (hKa : K a = some (1, 0)) (hn2 : meth.name = "<init>") (hlink : Cond.fieldLink RX2 index RX2 "bits" "[I" ∈ bt) {v : Option Nat} (hdg : decode cc pc = .ok (.putfield index, 3)) (kk : ∀ (H1 : Heap) (locs1 : List Loc), HQ E K z (sR w 200 a v) s H1 locs1 → W p l e R s m args below meth c H1 locs1 cells slots Q (F0 m (pc + 3) ls rest)) : W p l e R s m args below meth c H locs cells slots Q (F0 m pc ls (rv E (v) :: rv E r :: rest)) := hw_putF hexec hb hts iX2 tyX2 tyX2_ok nmX2 hown hKs hH (ci := 1) rfl hr hKa rfl 0 (by decide) hlink rfl hn2 rfl (tyX2_ok 0 (by decide)) (by cases v <;> rfl) (by cases v <;> rfl) (by show 0 < 2; decide) (congrArg (fun l => (Sum.inr (1, l) : va_E)) pX2_0) (fun b y hb => rend_sR hb) hdg kk
theorem pf4_0 (hexec : p.tables.exec = Jvm.exec) (hb : c.code = cc) (hts : ∀ w ∈ bt, w.before args s = true) (hown : s.vm.findClass RX4 = some m.cls) (hKs : HK E s) (hH : HQ E K z w s H locs) (hr : r = some a) (hKa : K a = some (3, 0)) (hn2 : meth.name = "<init>") (hlink : Cond.fieldLink RX4 index RX4 "packed" "[J" ∈ bt) {v : Option Nat} (hdg : decode cc pc = .ok (.putfield index, 3)) (kk : ∀ (H1 : Heap) (locs1 : List Loc), HQ E K z (sR w 400 a v) s H1 locs1 → W p l e R s m args below meth c H1 locs1 cells slots Q (F0 m (pc + 3) ls rest)) : W p l e R s m args below meth c H locs cells slots Q (F0 m pc ls (rv E (v) :: rv E r :: rest)) := hw_putF hexec hb hts iX4 tyX4 tyX4_ok nmX4 hown hKs hH (ci := 3) rfl hr hKa rfl 0 (by decide) hlink rfl hn2 rfl (tyX4_ok 0 (by decide)) (by cases v <;> rfl) (by cases v <;> rfl) (by show 0 < 2; decide) (congrArg (fun l => (Sum.inr (3, l) : va_E)) pX4_0) (fun b y hb => rend_sR hb) hdg kk
theorem pf5_0 (hexec : p.tables.exec = Jvm.exec) (hb : c.code = cc) (hts : ∀ w ∈ bt, w.before args s = true) (hown : s.vm.findClass RX5 = some m.cls) (hKs : HK E s) (hH : HQ E K z w s H locs) (hr : r = some a) (hKa : K a = some (4, 0)) (hn2 : meth.name = "<init>") (hlink : Cond.fieldLink RX5 index RX5 "scanner" "LCourtCalendar$Scanner;" ∈ bt) {v : Option Nat} (hdg : decode cc pc = .ok (.putfield index, 3)) (kk : ∀ (H1 : Heap) (locs1 : List Loc), HQ E K z (sR w 500 a v) s H1 locs1 → W p l e R s m args below meth c H1 locs1 cells slots Q (F0 m (pc + 3) ls rest)) : W p l e R s m args below meth c H locs cells slots Q (F0 m pc ls (rv E (v) :: rv E r :: rest)) := hw_putF hexec hb hts iX5 tyX5 tyX5_ok nmX5 hown hKs hH (ci := 4) rfl hr hKa rfl 0 (by decide) hlink rfl hn2 rfl (tyX5_ok 0 (by decide)) (by cases v <;> rfl) (by cases v <;> rfl) (by show 0 < 7; decide) (congrArg (fun l => (Sum.inr (4, l) : va_E)) pX5_0) (fun b y hb => rend_sR hb) hdg kk
theorem pf6_0 (hexec : p.tables.exec = Jvm.exec) (hb : c.code = cc) (hts : ∀ w ∈ bt, w.before args s = true) (hown : s.vm.findClass RX6 = some m.cls) (hKs : HK E s) (hH : HQ E K z w s H locs) (hr : r = some a) (hKa : K a = some (5, 0)) (hn2 : meth.name = "<init>") (hlink : Cond.fieldLink RX6 index RX6 "roomTaken" "[I" ∈ bt) {v : Option Nat} (hdg : decode cc pc = .ok (.putfield index, 3)) (kk : ∀ (H1 : Heap) (locs1 : List Loc), HQ E K z (sR w 600 a v) s H1 locs1 → W p l e R s m args below meth c H1 locs1 cells slots Q (F0 m (pc + 3) ls rest)) : W p l e R s m args below meth c H locs cells slots Q (F0 m pc ls (rv E (v) :: rv E r :: rest)) := hw_putF hexec hb hts iX6 tyX6 tyX6_ok nmX6 hown hKs hH (ci := 5) rfl hr hKa rfl 0 (by decide) hlink rfl hn2 rfl (tyX6_ok 0 (by decide)) (by cases v <;> rfl) (by cases v <;> rfl) (by show 0 < 12; decide) (congrArg (fun l => (Sum.inr (5, l) : va_E)) pX6_0) (fun b y hb => rend_sR hb) hdg kk
theorem pf6_1 (hexec : p.tables.exec = Jvm.exec) (hb : c.code = cc) (hts : ∀ w ∈ bt, w.before args s = true) (hown : s.vm.findClass RX6 = some m.cls) (hKs : HK E s) (hH : HQ E K z w s H locs) (hr : r = some a) (hKa : K a = some (5, 0)) (hn2 : meth.name = "<init>") (hlink : Cond.fieldLink RX6 index RX6 "officerTaken" "[I" ∈ bt) {v : Option Nat} (hdg : decode cc pc = .ok (.putfield index, 3)) (kk : ∀ (H1 : Heap) (locs1 : List Loc), HQ E K z (sR w 601 a v) s H1 locs1 → W p l e R s m args below meth c H1 locs1 cells slots Q (F0 m (pc + 3) ls rest)) : W p l e R s m args below meth c H locs cells slots Q (F0 m pc ls (rv E (v) :: rv E r :: rest)) := hw_putF hexec hb hts iX6 tyX6 tyX6_ok nmX6 hown hKs hH (ci := 5) rfl hr hKa rfl 1 (by decide) hlink rfl hn2 rfl (tyX6_ok 1 (by decide)) (by cases v <;> rfl) (by cases v <;> rfl) (by show 1 < 12; decide) (congrArg (fun l => (Sum.inr (5, l) : va_E)) pX6_1) (fun b y hb => rend_sR hb) hdg kk
theorem pf6_2 (hexec : p.tables.exec = Jvm.exec) (hb : c.code = cc) (hts : ∀ w ∈ bt, w.before args s = true) (hown : s.vm.findClass RX6 = some m.cls) (hKs : HK E s) (hH : HQ E K z w s H locs) (hr : r = some a) (hKa : K a = some (5, 0)) (hn2 : meth.name = "<init>") (hlink : Cond.fieldLink RX6 index RX6 "loads" "[I" ∈ bt) {v : Option Nat} (hdg : decode cc pc = .ok (.putfield index, 3)) (kk : ∀ (H1 : Heap) (locs1 : List Loc), HQ E K z (sR w 602 a v) s H1 locs1 → W p l e R s m args below meth c H1 locs1 cells slots Q (F0 m (pc + 3) ls rest)) : W p l e R s m args below meth c H locs cells slots Q (F0 m pc ls (rv E (v) :: rv E r :: rest)) := hw_putF hexec hb hts iX6 tyX6 tyX6_ok nmX6 hown hKs hH (ci := 5) rfl hr hKa rfl 2 (by decide) hlink rfl hn2 rfl (tyX6_ok 2 (by decide)) (by cases v <;> rfl) (by cases v <;> rfl) (by show 2 < 12; decide) (congrArg (fun l => (Sum.inr (5, l) : va_E)) pX6_2) (fun b y hb => rend_sR hb) hdg kk
theorem pf6_3 (hexec : p.tables.exec = Jvm.exec) (hb : c.code = cc) (hts : ∀ w ∈ bt, w.before args s = true) (hown : s.vm.findClass RX6 = some m.cls) (hKs : HK E s) (hH : HQ E K z w s H locs) (hr : r = some a) (hKa : K a = some (5, 0)) (hn2 : meth.name = "<init>") (hlink : Cond.fieldLink RX6 index RX6 "order" "[I" ∈ bt) {v : Option Nat} (hdg : decode cc pc = .ok (.putfield index, 3)) (kk : ∀ (H1 : Heap) (locs1 : List Loc), HQ E K z (sR w 603 a v) s H1 locs1 → W p l e R s m args below meth c H1 locs1 cells slots Q (F0 m (pc + 3) ls rest)) : W p l e R s m args below meth c H locs cells slots Q (F0 m pc ls (rv E (v) :: rv E r :: rest)) := hw_putF hexec hb hts iX6 tyX6 tyX6_ok nmX6 hown hKs hH (ci := 5) rfl hr hKa rfl 3 (by decide) hlink rfl hn2 rfl (tyX6_ok 3 (by decide)) (by cases v <;> rfl) (by cases v <;> rfl) (by show 3 < 12; decide) (congrArg (fun l => (Sum.inr (5, l) : va_E)) pX6_3) (fun b y hb => rend_sR hb) hdg kk
theorem pf7_7 (hexec : p.tables.exec = Jvm.exec) (hb : c.code = cc) (hts : ∀ w ∈ bt, w.before args s = true) (hown : s.vm.findClass RX7 = some m.cls) (hKs : HK E s) (hH : HQ E K z w s H locs) (hr : r = some a) (hKa : K a = some (6, 0)) (hn2 : meth.name = "<init>") (hlink : Cond.fieldLink RX7 index RX7 "log" "[I" ∈ bt) {v : Option Nat} (hdg : decode cc pc = .ok (.putfield index, 3)) (kk : ∀ (H1 : Heap) (locs1 : List Loc), HQ E K z (sR w 707 a v) s H1 locs1 → W p l e R s m args below meth c H1 locs1 cells slots Q (F0 m (pc + 3) ls rest)) : W p l e R s m args below meth c H locs cells slots Q (F0 m pc ls (rv E (v) :: rv E r :: rest)) := hw_putF hexec hb hts iX7 tyX7 tyX7_ok nmX7 hown hKs hH (ci := 6) rfl hr hKa rfl 7 (by decide) hlink rfl hn2 rfl (tyX7_ok 7 (by decide)) (by cases v <;> rfl) (by cases v <;> rfl) (by show 7 < 8; decide) (congrArg (fun l => (Sum.inr (6, l) : va_E)) pX7_7) (fun b y hb => rend_sR hb) hdg kk
theorem pf9_0 (hexec : p.tables.exec = Jvm.exec) (hb : c.code = cc) (hts : ∀ w ∈ bt, w.before args s = true) (hown : s.vm.findClass RX9 = some m.cls) (hKs : HK E s) (hH : HQ E K z w s H locs) (hr : r = some a) (hKa : K a = some (8, 0)) (hn2 : meth.name = "<init>") (hlink : Cond.fieldLink RX9 index RX9 "names" "[LCourtCalendar$Names;" ∈ bt) {v : Option Nat} (hdg : decode cc pc = .ok (.putfield index, 3)) (kk : ∀ (H1 : Heap) (locs1 : List Loc), HQ E K z (sR w 900 a v) s H1 locs1 → W p l e R s m args below meth c H1 locs1 cells slots Q (F0 m (pc + 3) ls rest)) : W p l e R s m args below meth c H locs cells slots Q (F0 m pc ls (rv E (v) :: rv E r :: rest)) := hw_putF hexec hb hts iX9 tyX9 tyX9_ok nmX9 hown hKs hH (ci := 8) rfl hr hKa rfl 0 (by decide) hlink rfl hn2 rfl (tyX9_ok 0 (by decide)) (by cases v <;> rfl) (by cases v <;> rfl) (by show 0 < 15; decide) (congrArg (fun l => (Sum.inr (8, l) : va_E)) pX9_0) (fun b y hb => rend_sR hb) hdg kk
theorem pf9_1 (hexec : p.tables.exec = Jvm.exec) (hb : c.code = cc) (hts : ∀ w ∈ bt, w.before args s = true) (hown : s.vm.findClass RX9 = some m.cls) (hKs : HK E s) (hH : HQ E K z w s H locs) (hr : r = some a) (hKa : K a = some (8, 0)) (hn2 : meth.name = "<init>") (hlink : Cond.fieldLink RX9 index RX9 "roomSlots" "[I" ∈ bt) {v : Option Nat} (hdg : decode cc pc = .ok (.putfield index, 3)) (kk : ∀ (H1 : Heap) (locs1 : List Loc), HQ E K z (sR w 901 a v) s H1 locs1 → W p l e R s m args below meth c H1 locs1 cells slots Q (F0 m (pc + 3) ls rest)) : W p l e R s m args below meth c H locs cells slots Q (F0 m pc ls (rv E (v) :: rv E r :: rest)) := hw_putF hexec hb hts iX9 tyX9 tyX9_ok nmX9 hown hKs hH (ci := 8) rfl hr hKa rfl 1 (by decide) hlink rfl hn2 rfl (tyX9_ok 1 (by decide)) (by cases v <;> rfl) (by cases v <;> rfl) (by show 1 < 15; decide) (congrArg (fun l => (Sum.inr (8, l) : va_E)) pX9_1) (fun b y hb => rend_sR hb) hdg kk
theorem pf9_2 (hexec : p.tables.exec = Jvm.exec) (hb : c.code = cc) (hts : ∀ w ∈ bt, w.before args s = true) (hown : s.vm.findClass RX9 = some m.cls) (hKs : HK E s) (hH : HQ E K z w s H locs) (hr : r = some a) (hKa : K a = some (8, 0)) (hn2 : meth.name = "<init>") (hlink : Cond.fieldLink RX9 index RX9 "offs" "[I" ∈ bt) {v : Option Nat} (hdg : decode cc pc = .ok (.putfield index, 3)) (kk : ∀ (H1 : Heap) (locs1 : List Loc), HQ E K z (sR w 902 a v) s H1 locs1 → W p l e R s m args below meth c H1 locs1 cells slots Q (F0 m (pc + 3) ls rest)) : W p l e R s m args below meth c H locs cells slots Q (F0 m pc ls (rv E (v) :: rv E r :: rest)) := hw_putF hexec hb hts iX9 tyX9 tyX9_ok nmX9 hown hKs hH (ci := 8) rfl hr hKa rfl 2 (by decide) hlink rfl hn2 rfl (tyX9_ok 2 (by decide)) (by cases v <;> rfl) (by cases v <;> rfl) (by show 2 < 15; decide) (congrArg (fun l => (Sum.inr (8, l) : va_E)) pX9_2) (fun b y hb => rend_sR hb) hdg kk
theorem pf9_3 (hexec : p.tables.exec = Jvm.exec) (hb : c.code = cc) (hts : ∀ w ∈ bt, w.before args s = true) (hown : s.vm.findClass RX9 = some m.cls) (hKs : HK E s) (hH : HQ E K z w s H locs) (hr : r = some a) (hKa : K a = some (8, 0)) (hn2 : meth.name = "<init>") (hlink : Cond.fieldLink RX9 index RX9 "firstOffs" "[I" ∈ bt) {v : Option Nat} (hdg : decode cc pc = .ok (.putfield index, 3)) (kk : ∀ (H1 : Heap) (locs1 : List Loc), HQ E K z (sR w 903 a v) s H1 locs1 → W p l e R s m args below meth c H1 locs1 cells slots Q (F0 m (pc + 3) ls rest)) : W p l e R s m args below meth c H locs cells slots Q (F0 m pc ls (rv E (v) :: rv E r :: rest)) := hw_putF hexec hb hts iX9 tyX9 tyX9_ok nmX9 hown hKs hH (ci := 8) rfl hr hKa rfl 3 (by decide) hlink rfl hn2 rfl (tyX9_ok 3 (by decide)) (by cases v <;> rfl) (by cases v <;> rfl) (by show 3 < 15; decide) (congrArg (fun l => (Sum.inr (8, l) : va_E)) pX9_3) (fun b y hb => rend_sR hb) hdg kk
theorem pf9_4 (hexec : p.tables.exec = Jvm.exec) (hb : c.code = cc) (hts : ∀ w ∈ bt, w.before args s = true) (hown : s.vm.findClass RX9 = some m.cls) (hKs : HK E s) (hH : HQ E K z w s H locs) (hr : r = some a) (hKa : K a = some (8, 0)) (hn2 : meth.name = "<init>") (hlink : Cond.fieldLink RX9 index RX9 "lastOffs" "[I" ∈ bt) {v : Option Nat} (hdg : decode cc pc = .ok (.putfield index, 3)) (kk : ∀ (H1 : Heap) (locs1 : List Loc), HQ E K z (sR w 904 a v) s H1 locs1 → W p l e R s m args below meth c H1 locs1 cells slots Q (F0 m (pc + 3) ls rest)) : W p l e R s m args below meth c H locs cells slots Q (F0 m pc ls (rv E (v) :: rv E r :: rest)) := hw_putF hexec hb hts iX9 tyX9 tyX9_ok nmX9 hown hKs hH (ci := 8) rfl hr hKa rfl 4 (by decide) hlink rfl hn2 rfl (tyX9_ok 4 (by decide)) (by cases v <;> rfl) (by cases v <;> rfl) (by show 4 < 15; decide) (congrArg (fun l => (Sum.inr (8, l) : va_E)) pX9_4) (fun b y hb => rend_sR hb) hdg kk
theorem pf9_5 (hexec : p.tables.exec = Jvm.exec) (hb : c.code = cc) (hts : ∀ w ∈ bt, w.before args s = true) (hown : s.vm.findClass RX9 = some m.cls) (hKs : HK E s) (hH : HQ E K z w s H locs) (hr : r = some a) (hKa : K a = some (8, 0)) (hn2 : meth.name = "<init>") (hlink : Cond.fieldLink RX9 index RX9 "firstDays" "[I" ∈ bt) {v : Option Nat} (hdg : decode cc pc = .ok (.putfield index, 3)) (kk : ∀ (H1 : Heap) (locs1 : List Loc), HQ E K z (sR w 905 a v) s H1 locs1 → W p l e R s m args below meth c H1 locs1 cells slots Q (F0 m (pc + 3) ls rest)) : W p l e R s m args below meth c H locs cells slots Q (F0 m pc ls (rv E (v) :: rv E r :: rest)) := hw_putF hexec hb hts iX9 tyX9 tyX9_ok nmX9 hown hKs hH (ci := 8) rfl hr hKa rfl 5 (by decide) hlink rfl hn2 rfl (tyX9_ok 5 (by decide)) (by cases v <;> rfl) (by cases v <;> rfl) (by show 5 < 15; decide) (congrArg (fun l => (Sum.inr (8, l) : va_E)) pX9_5) (fun b y hb => rend_sR hb) hdg kk
theorem pf9_6 (hexec : p.tables.exec = Jvm.exec) (hb : c.code = cc) (hts : ∀ w ∈ bt, w.before args s = true) (hown : s.vm.findClass RX9 = some m.cls) (hKs : HK E s) (hH : HQ E K z w s H locs) (hr : r = some a) (hKa : K a = some (8, 0)) (hn2 : meth.name = "<init>") (hlink : Cond.fieldLink RX9 index RX9 "lastDays" "[I" ∈ bt) {v : Option Nat} (hdg : decode cc pc = .ok (.putfield index, 3)) (kk : ∀ (H1 : Heap) (locs1 : List Loc), HQ E K z (sR w 906 a v) s H1 locs1 → W p l e R s m args below meth c H1 locs1 cells slots Q (F0 m (pc + 3) ls rest)) : W p l e R s m args below meth c H locs cells slots Q (F0 m pc ls (rv E (v) :: rv E r :: rest)) := hw_putF hexec hb hts iX9 tyX9 tyX9_ok nmX9 hown hKs hH (ci := 8) rfl hr hKa rfl 6 (by decide) hlink rfl hn2 rfl (tyX9_ok 6 (by decide)) (by cases v <;> rfl) (by cases v <;> rfl) (by show 6 < 15; decide) (congrArg (fun l => (Sum.inr (8, l) : va_E)) pX9_6) (fun b y hb => rend_sR hb) hdg kk
theorem pf9_7 (hexec : p.tables.exec = Jvm.exec) (hb : c.code = cc) (hts : ∀ w ∈ bt, w.before args s = true) (hown : s.vm.findClass RX9 = some m.cls) (hKs : HK E s) (hH : HQ E K z w s H locs) (hr : r = some a) (hKa : K a = some (8, 0)) (hn2 : meth.name = "<init>") (hlink : Cond.fieldLink RX9 index RX9 "firstSlots" "[I" ∈ bt) {v : Option Nat} (hdg : decode cc pc = .ok (.putfield index, 3)) (kk : ∀ (H1 : Heap) (locs1 : List Loc), HQ E K z (sR w 907 a v) s H1 locs1 → W p l e R s m args below meth c H1 locs1 cells slots Q (F0 m (pc + 3) ls rest)) : W p l e R s m args below meth c H locs cells slots Q (F0 m pc ls (rv E (v) :: rv E r :: rest)) := hw_putF hexec hb hts iX9 tyX9 tyX9_ok nmX9 hown hKs hH (ci := 8) rfl hr hKa rfl 7 (by decide) hlink rfl hn2 rfl (tyX9_ok 7 (by decide)) (by cases v <;> rfl) (by cases v <;> rfl) (by show 7 < 15; decide) (congrArg (fun l => (Sum.inr (8, l) : va_E)) pX9_7) (fun b y hb => rend_sR hb) hdg kk
theorem pf9_8 (hexec : p.tables.exec = Jvm.exec) (hb : c.code = cc) (hts : ∀ w ∈ bt, w.before args s = true) (hown : s.vm.findClass RX9 = some m.cls) (hKs : HK E s) (hH : HQ E K z w s H locs) (hr : r = some a) (hKa : K a = some (8, 0)) (hn2 : meth.name = "<init>") (hlink : Cond.fieldLink RX9 index RX9 "lastSlots" "[I" ∈ bt) {v : Option Nat} (hdg : decode cc pc = .ok (.putfield index, 3)) (kk : ∀ (H1 : Heap) (locs1 : List Loc), HQ E K z (sR w 908 a v) s H1 locs1 → W p l e R s m args below meth c H1 locs1 cells slots Q (F0 m (pc + 3) ls rest)) : W p l e R s m args below meth c H locs cells slots Q (F0 m pc ls (rv E (v) :: rv E r :: rest)) := hw_putF hexec hb hts iX9 tyX9 tyX9_ok nmX9 hown hKs hH (ci := 8) rfl hr hKa rfl 8 (by decide) hlink rfl hn2 rfl (tyX9_ok 8 (by decide)) (by cases v <;> rfl) (by cases v <;> rfl) (by show 8 < 15; decide) (congrArg (fun l => (Sum.inr (8, l) : va_E)) pX9_8) (fun b y hb => rend_sR hb) hdg kk
theorem pf9_9 (hexec : p.tables.exec = Jvm.exec) (hb : c.code = cc) (hts : ∀ w ∈ bt, w.before args s = true) (hown : s.vm.findClass RX9 = some m.cls) (hKs : HK E s) (hH : HQ E K z w s H locs) (hr : r = some a) (hKa : K a = some (8, 0)) (hn2 : meth.name = "<init>") (hlink : Cond.fieldLink RX9 index RX9 "matters" "[LCourtCalendar$Matter;" ∈ bt) {v : Option Nat} (hdg : decode cc pc = .ok (.putfield index, 3)) (kk : ∀ (H1 : Heap) (locs1 : List Loc), HQ E K z (sR w 909 a v) s H1 locs1 → W p l e R s m args below meth c H1 locs1 cells slots Q (F0 m (pc + 3) ls rest)) : W p l e R s m args below meth c H locs cells slots Q (F0 m pc ls (rv E (v) :: rv E r :: rest)) := hw_putF hexec hb hts iX9 tyX9 tyX9_ok nmX9 hown hKs hH (ci := 8) rfl hr hKa rfl 9 (by decide) hlink rfl hn2 rfl (tyX9_ok 9 (by decide)) (by cases v <;> rfl) (by cases v <;> rfl) (by show 9 < 15; decide) (congrArg (fun l => (Sum.inr (8, l) : va_E)) pX9_9) (fun b y hb => rend_sR hb) hdg kk
theorem pf9_10 (hexec : p.tables.exec = Jvm.exec) (hb : c.code = cc) (hts : ∀ w ∈ bt, w.before args s = true) (hown : s.vm.findClass RX9 = some m.cls) (hKs : HK E s) (hH : HQ E K z w s H locs) (hr : r = some a) (hKa : K a = some (8, 0)) (hn2 : meth.name = "<init>") (hlink : Cond.fieldLink RX9 index RX9 "holidays" "LCourtCalendar$Days;" ∈ bt) {v : Option Nat} (hdg : decode cc pc = .ok (.putfield index, 3)) (kk : ∀ (H1 : Heap) (locs1 : List Loc), HQ E K z (sR w 910 a v) s H1 locs1 → W p l e R s m args below meth c H1 locs1 cells slots Q (F0 m (pc + 3) ls rest)) : W p l e R s m args below meth c H locs cells slots Q (F0 m pc ls (rv E (v) :: rv E r :: rest)) := hw_putF hexec hb hts iX9 tyX9 tyX9_ok nmX9 hown hKs hH (ci := 8) rfl hr hKa rfl 10 (by decide) hlink rfl hn2 rfl (tyX9_ok 10 (by decide)) (by cases v <;> rfl) (by cases v <;> rfl) (by show 10 < 15; decide) (congrArg (fun l => (Sum.inr (8, l) : va_E)) pX9_10) (fun b y hb => rend_sR hb) hdg kk
theorem pf9_11 (hexec : p.tables.exec = Jvm.exec) (hb : c.code = cc) (hts : ∀ w ∈ bt, w.before args s = true) (hown : s.vm.findClass RX9 = some m.cls) (hKs : HK E s) (hH : HQ E K z w s H locs) (hr : r = some a) (hKa : K a = some (8, 0)) (hn2 : meth.name = "<init>") (hlink : Cond.fieldLink RX9 index RX9 "reasonDays" "[I" ∈ bt) {v : Option Nat} (hdg : decode cc pc = .ok (.putfield index, 3)) (kk : ∀ (H1 : Heap) (locs1 : List Loc), HQ E K z (sR w 911 a v) s H1 locs1 → W p l e R s m args below meth c H1 locs1 cells slots Q (F0 m (pc + 3) ls rest)) : W p l e R s m args below meth c H locs cells slots Q (F0 m pc ls (rv E (v) :: rv E r :: rest)) := hw_putF hexec hb hts iX9 tyX9 tyX9_ok nmX9 hown hKs hH (ci := 8) rfl hr hKa rfl 11 (by decide) hlink rfl hn2 rfl (tyX9_ok 11 (by decide)) (by cases v <;> rfl) (by cases v <;> rfl) (by show 11 < 15; decide) (congrArg (fun l => (Sum.inr (8, l) : va_E)) pX9_11) (fun b y hb => rend_sR hb) hdg kk
theorem pf10_2 (hexec : p.tables.exec = Jvm.exec) (hb : c.code = cc) (hts : ∀ w ∈ bt, w.before args s = true) (hown : s.vm.findClass RX10 = some m.cls) (hKs : HK E s) (hH : HQ E K z w s H locs) (hr : r = some a) (hKa : K a = some (9, 0)) (hn2 : meth.name = "<init>") (hlink : Cond.fieldLink RX10 index RX10 "holidays" "LCourtCalendar$Days;" ∈ bt) {v : Option Nat} (hdg : decode cc pc = .ok (.putfield index, 3)) (kk : ∀ (H1 : Heap) (locs1 : List Loc), HQ E K z (sR w 1002 a v) s H1 locs1 → W p l e R s m args below meth c H1 locs1 cells slots Q (F0 m (pc + 3) ls rest)) : W p l e R s m args below meth c H locs cells slots Q (F0 m pc ls (rv E (v) :: rv E r :: rest)) := hw_putF hexec hb hts iX10 tyX10 tyX10_ok nmX10 hown hKs hH (ci := 9) rfl hr hKa rfl 2 (by decide) hlink rfl hn2 rfl (tyX10_ok 2 (by decide)) (by cases v <;> rfl) (by cases v <;> rfl) (by show 2 < 6; decide) (congrArg (fun l => (Sum.inr (9, l) : va_E)) pX10_2) (fun b y hb => rend_sR hb) hdg kk
theorem pf10_3 (hexec : p.tables.exec = Jvm.exec) (hb : c.code = cc) (hts : ∀ w ∈ bt, w.before args s = true) (hown : s.vm.findClass RX10 = some m.cls) (hKs : HK E s) (hH : HQ E K z w s H locs) (hr : r = some a) (hKa : K a = some (9, 0)) (hn2 : meth.name = "<init>") (hlink : Cond.fieldLink RX10 index RX10 "lastDays" "[I" ∈ bt) {v : Option Nat} (hdg : decode cc pc = .ok (.putfield index, 3)) (kk : ∀ (H1 : Heap) (locs1 : List Loc), HQ E K z (sR w 1003 a v) s H1 locs1 → W p l e R s m args below meth c H1 locs1 cells slots Q (F0 m (pc + 3) ls rest)) : W p l e R s m args below meth c H locs cells slots Q (F0 m pc ls (rv E (v) :: rv E r :: rest)) := hw_putF hexec hb hts iX10 tyX10 tyX10_ok nmX10 hown hKs hH (ci := 9) rfl hr hKa rfl 3 (by decide) hlink rfl hn2 rfl (tyX10_ok 3 (by decide)) (by cases v <;> rfl) (by cases v <;> rfl) (by show 3 < 6; decide) (congrArg (fun l => (Sum.inr (9, l) : va_E)) pX10_3) (fun b y hb => rend_sR hb) hdg kk
theorem pf10_4 (hexec : p.tables.exec = Jvm.exec) (hb : c.code = cc) (hts : ∀ w ∈ bt, w.before args s = true) (hown : s.vm.findClass RX10 = some m.cls) (hKs : HK E s) (hH : HQ E K z w s H locs) (hr : r = some a) (hKa : K a = some (9, 0)) (hn2 : meth.name = "<init>") (hlink : Cond.fieldLink RX10 index RX10 "bars" "[I" ∈ bt) {v : Option Nat} (hdg : decode cc pc = .ok (.putfield index, 3)) (kk : ∀ (H1 : Heap) (locs1 : List Loc), HQ E K z (sR w 1004 a v) s H1 locs1 → W p l e R s m args below meth c H1 locs1 cells slots Q (F0 m (pc + 3) ls rest)) : W p l e R s m args below meth c H locs cells slots Q (F0 m pc ls (rv E (v) :: rv E r :: rest)) := hw_putF hexec hb hts iX10 tyX10 tyX10_ok nmX10 hown hKs hH (ci := 9) rfl hr hKa rfl 4 (by decide) hlink rfl hn2 rfl (tyX10_ok 4 (by decide)) (by cases v <;> rfl) (by cases v <;> rfl) (by show 4 < 6; decide) (congrArg (fun l => (Sum.inr (9, l) : va_E)) pX10_4) (fun b y hb => rend_sR hb) hdg kk
theorem pf10_5 (hexec : p.tables.exec = Jvm.exec) (hb : c.code = cc) (hts : ∀ w ∈ bt, w.before args s = true) (hown : s.vm.findClass RX10 = some m.cls) (hKs : HK E s) (hH : HQ E K z w s H locs) (hr : r = some a) (hKa : K a = some (9, 0)) (hn2 : meth.name = "<init>") (hlink : Cond.fieldLink RX10 index RX10 "progress" "[LCourtCalendar$Progress;" ∈ bt) {v : Option Nat} (hdg : decode cc pc = .ok (.putfield index, 3)) (kk : ∀ (H1 : Heap) (locs1 : List Loc), HQ E K z (sR w 1005 a v) s H1 locs1 → W p l e R s m args below meth c H1 locs1 cells slots Q (F0 m (pc + 3) ls rest)) : W p l e R s m args below meth c H locs cells slots Q (F0 m pc ls (rv E (v) :: rv E r :: rest)) := hw_putF hexec hb hts iX10 tyX10 tyX10_ok nmX10 hown hKs hH (ci := 9) rfl hr hKa rfl 5 (by decide) hlink rfl hn2 rfl (tyX10_ok 5 (by decide)) (by cases v <;> rfl) (by cases v <;> rfl) (by show 5 < 6; decide) (congrArg (fun l => (Sum.inr (9, l) : va_E)) pX10_5) (fun b y hb => rend_sR hb) hdg kk
theorem pf12_0 (hexec : p.tables.exec = Jvm.exec) (hb : c.code = cc) (hts : ∀ w ∈ bt, w.before args s = true) (hown : s.vm.findClass RX12 = some m.cls) (hKs : HK E s) (hH : HQ E K z w s H locs) (hr : r = some a) (hKa : K a = some (10, 0)) (hn2 : meth.name = "<init>") (hlink : Cond.fieldLink RX12 index RX12 "buffer" "[B" ∈ bt) {v : Option Nat} (hdg : decode cc pc = .ok (.putfield index, 3)) (kk : ∀ (H1 : Heap) (locs1 : List Loc), HQ E K z (sR w 1200 a v) s H1 locs1 → W p l e R s m args below meth c H1 locs1 cells slots Q (F0 m (pc + 3) ls rest)) : W p l e R s m args below meth c H locs cells slots Q (F0 m pc ls (rv E (v) :: rv E r :: rest)) := hw_putF hexec hb hts iX12 tyX12 tyX12_ok nmX12 hown hKs hH (ci := 10) rfl hr hKa rfl 0 (by decide) hlink rfl hn2 rfl (tyX12_ok 0 (by decide)) (by cases v <;> rfl) (by cases v <;> rfl) (by show 0 < 16; decide) (congrArg (fun l => (Sum.inr (10, l) : va_E)) pX12_0) (fun b y hb => rend_sR hb) hdg kk
theorem pf12_2 (hexec : p.tables.exec = Jvm.exec) (hb : c.code = cc) (hts : ∀ w ∈ bt, w.before args s = true) (hown : s.vm.findClass RX12 = some m.cls) (hKs : HK E s) (hH : HQ E K z w s H locs) (hr : r = some a) (hKa : K a = some (10, 0)) (hn2 : meth.name = "<init>") (hlink : Cond.fieldLink RX12 index RX12 "parser" "LCourtCalendar$Parser;" ∈ bt) {v : Option Nat} (hdg : decode cc pc = .ok (.putfield index, 3)) (kk : ∀ (H1 : Heap) (locs1 : List Loc), HQ E K z (sR w 1202 a v) s H1 locs1 → W p l e R s m args below meth c H1 locs1 cells slots Q (F0 m (pc + 3) ls rest)) : W p l e R s m args below meth c H locs cells slots Q (F0 m pc ls (rv E (v) :: rv E r :: rest)) := hw_putF hexec hb hts iX12 tyX12 tyX12_ok nmX12 hown hKs hH (ci := 10) rfl hr hKa rfl 2 (by decide) hlink rfl hn2 rfl (tyX12_ok 2 (by decide)) (by cases v <;> rfl) (by cases v <;> rfl) (by show 2 < 16; decide) (congrArg (fun l => (Sum.inr (10, l) : va_E)) pX12_2) (fun b y hb => rend_sR hb) hdg kk
theorem pf12_5 (hexec : p.tables.exec = Jvm.exec) (hb : c.code = cc) (hts : ∀ w ∈ bt, w.before args s = true) (hown : s.vm.findClass RX12 = some m.cls) (hKs : HK E s) (hH : HQ E K z w s H locs) (hr : r = some a) (hKa : K a = some (10, 0)) (hn2 : meth.name = "<init>") (hlink : Cond.fieldLink RX12 index RX12 "state" "LCourtCalendar$State;" ∈ bt) {v : Option Nat} (hdg : decode cc pc = .ok (.putfield index, 3)) (kk : ∀ (H1 : Heap) (locs1 : List Loc), HQ E K z (sR w 1205 a v) s H1 locs1 → W p l e R s m args below meth c H1 locs1 cells slots Q (F0 m (pc + 3) ls rest)) : W p l e R s m args below meth c H locs cells slots Q (F0 m pc ls (rv E (v) :: rv E r :: rest)) := hw_putF hexec hb hts iX12 tyX12 tyX12_ok nmX12 hown hKs hH (ci := 10) rfl hr hKa rfl 5 (by decide) hlink rfl hn2 rfl (tyX12_ok 5 (by decide)) (by cases v <;> rfl) (by cases v <;> rfl) (by show 5 < 16; decide) (congrArg (fun l => (Sum.inr (10, l) : va_E)) pX12_5) (fun b y hb => rend_sR hb) hdg kk
theorem pf12_6 (hexec : p.tables.exec = Jvm.exec) (hb : c.code = cc) (hts : ∀ w ∈ bt, w.before args s = true) (hown : s.vm.findClass RX12 = some m.cls) (hKs : HK E s) (hH : HQ E K z w s H locs) (hr : r = some a) (hKa : K a = some (10, 0)) (hn2 : meth.name = "<init>") (hlink : Cond.fieldLink RX12 index RX12 "saved" "LCourtCalendar$State;" ∈ bt) {v : Option Nat} (hdg : decode cc pc = .ok (.putfield index, 3)) (kk : ∀ (H1 : Heap) (locs1 : List Loc), HQ E K z (sR w 1206 a v) s H1 locs1 → W p l e R s m args below meth c H1 locs1 cells slots Q (F0 m (pc + 3) ls rest)) : W p l e R s m args below meth c H locs cells slots Q (F0 m pc ls (rv E (v) :: rv E r :: rest)) := hw_putF hexec hb hts iX12 tyX12 tyX12_ok nmX12 hown hKs hH (ci := 10) rfl hr hKa rfl 6 (by decide) hlink rfl hn2 rfl (tyX12_ok 6 (by decide)) (by cases v <;> rfl) (by cases v <;> rfl) (by show 6 < 16; decide) (congrArg (fun l => (Sum.inr (10, l) : va_E)) pX12_6) (fun b y hb => rend_sR hb) hdg kk
theorem pf12_8 (hexec : p.tables.exec = Jvm.exec) (hb : c.code = cc) (hts : ∀ w ∈ bt, w.before args s = true) (hown : s.vm.findClass RX12 = some m.cls) (hKs : HK E s) (hH : HQ E K z w s H locs) (hr : r = some a) (hKa : K a = some (10, 0)) (hn2 : meth.name = "<init>") (hlink : Cond.fieldLink RX12 index RX12 "forecast" "LCourtCalendar$State;" ∈ bt) {v : Option Nat} (hdg : decode cc pc = .ok (.putfield index, 3)) (kk : ∀ (H1 : Heap) (locs1 : List Loc), HQ E K z (sR w 1208 a v) s H1 locs1 → W p l e R s m args below meth c H1 locs1 cells slots Q (F0 m (pc + 3) ls rest)) : W p l e R s m args below meth c H locs cells slots Q (F0 m pc ls (rv E (v) :: rv E r :: rest)) := hw_putF hexec hb hts iX12 tyX12 tyX12_ok nmX12 hown hKs hH (ci := 10) rfl hr hKa rfl 8 (by decide) hlink rfl hn2 rfl (tyX12_ok 8 (by decide)) (by cases v <;> rfl) (by cases v <;> rfl) (by show 8 < 16; decide) (congrArg (fun l => (Sum.inr (10, l) : va_E)) pX12_8) (fun b y hb => rend_sR hb) hdg kk
theorem pf12_9 (hexec : p.tables.exec = Jvm.exec) (hb : c.code = cc) (hts : ∀ w ∈ bt, w.before args s = true) (hown : s.vm.findClass RX12 = some m.cls) (hKs : HK E s) (hH : HQ E K z w s H locs) (hr : r = some a) (hKa : K a = some (10, 0)) (hn2 : meth.name = "<init>") (hlink : Cond.fieldLink RX12 index RX12 "past" "[LCourtCalendar$State;" ∈ bt) {v : Option Nat} (hdg : decode cc pc = .ok (.putfield index, 3)) (kk : ∀ (H1 : Heap) (locs1 : List Loc), HQ E K z (sR w 1209 a v) s H1 locs1 → W p l e R s m args below meth c H1 locs1 cells slots Q (F0 m (pc + 3) ls rest)) : W p l e R s m args below meth c H locs cells slots Q (F0 m pc ls (rv E (v) :: rv E r :: rest)) := hw_putF hexec hb hts iX12 tyX12 tyX12_ok nmX12 hown hKs hH (ci := 10) rfl hr hKa rfl 9 (by decide) hlink rfl hn2 rfl (tyX12_ok 9 (by decide)) (by cases v <;> rfl) (by cases v <;> rfl) (by show 9 < 16; decide) (congrArg (fun l => (Sum.inr (10, l) : va_E)) pX12_9) (fun b y hb => rend_sR hb) hdg kk
theorem pf12_11 (hexec : p.tables.exec = Jvm.exec) (hb : c.code = cc) (hts : ∀ w ∈ bt, w.before args s = true) (hown : s.vm.findClass RX12 = some m.cls) (hKs : HK E s) (hH : HQ E K z w s H locs) (hr : r = some a) (hKa : K a = some (10, 0)) (hn2 : meth.name = "<init>") (hlink : Cond.fieldLink RX12 index RX12 "planner" "LCourtCalendar$Planner;" ∈ bt) {v : Option Nat} (hdg : decode cc pc = .ok (.putfield index, 3)) (kk : ∀ (H1 : Heap) (locs1 : List Loc), HQ E K z (sR w 1211 a v) s H1 locs1 → W p l e R s m args below meth c H1 locs1 cells slots Q (F0 m (pc + 3) ls rest)) : W p l e R s m args below meth c H locs cells slots Q (F0 m pc ls (rv E (v) :: rv E r :: rest)) := hw_putF hexec hb hts iX12 tyX12 tyX12_ok nmX12 hown hKs hH (ci := 10) rfl hr hKa rfl 11 (by decide) hlink rfl hn2 rfl (tyX12_ok 11 (by decide)) (by cases v <;> rfl) (by cases v <;> rfl) (by show 11 < 16; decide) (congrArg (fun l => (Sum.inr (10, l) : va_E)) pX12_11) (fun b y hb => rend_sR hb) hdg kk
theorem pf12_12 (hexec : p.tables.exec = Jvm.exec) (hb : c.code = cc) (hts : ∀ w ∈ bt, w.before args s = true) (hown : s.vm.findClass RX12 = some m.cls) (hKs : HK E s) (hH : HQ E K z w s H locs) (hr : r = some a) (hKa : K a = some (10, 0)) (hn2 : meth.name = "<init>") (hlink : Cond.fieldLink RX12 index RX12 "bench" "LCourtCalendar$Bench;" ∈ bt) {v : Option Nat} (hdg : decode cc pc = .ok (.putfield index, 3)) (kk : ∀ (H1 : Heap) (locs1 : List Loc), HQ E K z (sR w 1212 a v) s H1 locs1 → W p l e R s m args below meth c H1 locs1 cells slots Q (F0 m (pc + 3) ls rest)) : W p l e R s m args below meth c H locs cells slots Q (F0 m pc ls (rv E (v) :: rv E r :: rest)) := hw_putF hexec hb hts iX12 tyX12 tyX12_ok nmX12 hown hKs hH (ci := 10) rfl hr hKa rfl 12 (by decide) hlink rfl hn2 rfl (tyX12_ok 12 (by decide)) (by cases v <;> rfl) (by cases v <;> rfl) (by show 12 < 16; decide) (congrArg (fun l => (Sum.inr (10, l) : va_E)) pX12_12) (fun b y hb => rend_sR hb) hdg kk
theorem pf12_13 (hexec : p.tables.exec = Jvm.exec) (hb : c.code = cc) (hts : ∀ w ∈ bt, w.before args s = true) (hown : s.vm.findClass RX12 = some m.cls) (hKs : HK E s) (hH : HQ E K z w s H locs) (hr : r = some a) (hKa : K a = some (10, 0)) (hn2 : meth.name = "<init>") (hlink : Cond.fieldLink RX12 index RX12 "order" "[I" ∈ bt) {v : Option Nat} (hdg : decode cc pc = .ok (.putfield index, 3)) (kk : ∀ (H1 : Heap) (locs1 : List Loc), HQ E K z (sR w 1213 a v) s H1 locs1 → W p l e R s m args below meth c H1 locs1 cells slots Q (F0 m (pc + 3) ls rest)) : W p l e R s m args below meth c H locs cells slots Q (F0 m pc ls (rv E (v) :: rv E r :: rest)) := hw_putF hexec hb hts iX12 tyX12 tyX12_ok nmX12 hown hKs hH (ci := 10) rfl hr hKa rfl 13 (by decide) hlink rfl hn2 rfl (tyX12_ok 13 (by decide)) (by cases v <;> rfl) (by cases v <;> rfl) (by show 13 < 16; decide) (congrArg (fun l => (Sum.inr (10, l) : va_E)) pX12_13) (fun b y hb => rend_sR hb) hdg kk
theorem pf12_14 (hexec : p.tables.exec = Jvm.exec) (hb : c.code = cc) (hts : ∀ w ∈ bt, w.before args s = true) (hown : s.vm.findClass RX12 = some m.cls) (hKs : HK E s) (hH : HQ E K z w s H locs) (hr : r = some a) (hKa : K a = some (10, 0)) (hn2 : meth.name = "<init>") (hlink : Cond.fieldLink RX12 index RX12 "output" "[B" ∈ bt) {v : Option Nat} (hdg : decode cc pc = .ok (.putfield index, 3)) (kk : ∀ (H1 : Heap) (locs1 : List Loc), HQ E K z (sR w 1214 a v) s H1 locs1 → W p l e R s m args below meth c H1 locs1 cells slots Q (F0 m (pc + 3) ls rest)) : W p l e R s m args below meth c H locs cells slots Q (F0 m pc ls (rv E (v) :: rv E r :: rest)) := hw_putF hexec hb hts iX12 tyX12 tyX12_ok nmX12 hown hKs hH (ci := 10) rfl hr hKa rfl 14 (by decide) hlink rfl hn2 rfl (tyX12_ok 14 (by decide)) (by cases v <;> rfl) (by cases v <;> rfl) (by show 14 < 16; decide) (congrArg (fun l => (Sum.inr (10, l) : va_E)) pX12_14) (fun b y hb => rend_sR hb) hdg kk
theorem pf20_0 (hexec : p.tables.exec = Jvm.exec) (hb : c.code = cc) (hts : ∀ w ∈ bt, w.before args s = true) (hown : s.vm.findClass RX20 = some m.cls) (hKs : HK E s) (hH : HQ E K z w s H locs) (hr : r = some a) (hKa : K a = some (11, 0)) (hn2 : meth.name = "<init>") (hlink : Cond.fieldLink RX20 index RJ0 "value" "[B" ∈ bt) {v : Option Nat} (hdg : decode cc pc = .ok (.putfield index, 3)) (kk : ∀ (H1 : Heap) (locs1 : List Loc), HQ E K z (sR w 2000 a v) s H1 locs1 → W p l e R s m args below meth c H1 locs1 cells slots Q (F0 m (pc + 3) ls rest)) : W p l e R s m args below meth c H locs cells slots Q (F0 m pc ls (rv E (v) :: rv E r :: rest)) := hw_putF hexec hb hts iX20 tyX20 tyX20_ok nmX20 hown hKs hH (ci := 11) rfl hr hKa rfl 0 (by decide) hlink rfl hn2 rfl (tyX20_ok 0 (by decide)) (by cases v <;> rfl) (by cases v <;> rfl) (by show 0 < 4; decide) (congrArg (fun l => (Sum.inr (11, l) : va_E)) pX20_0) (fun b y hb => rend_sR hb) hdg kk
theorem pf20_1 (hexec : p.tables.exec = Jvm.exec) (hb : c.code = cc) (hts : ∀ w ∈ bt, w.before args s = true) (hown : s.vm.findClass RX20 = some m.cls) (hKs : HK E s) (hH : HQ E K z w s H locs) (hr : r = some a) (hKa : K a = some (11, 0)) (hn2 : meth.name = "<init>") (hlink : Cond.fieldLink RX20 index RJ0 "coder" "B" ∈ bt) (hdg : decode cc pc = .ok (.putfield index, 3)) (kk : ∀ (H1 : Heap) (locs1 : List Loc), HQ E K z (sI w 2001 a 0) s H1 locs1 → W p l e R s m args below meth c H1 locs1 cells slots Q (F0 m (pc + 3) ls rest)) : W p l e R s m args below meth c H locs cells slots Q (F0 m pc ls (.int 0 :: rv E r :: rest)) := hw_putF hexec hb hts iX20 tyX20 tyX20_ok nmX20 hown hKs hH (ci := 11) rfl hr hKa rfl 1 (by decide) hlink rfl hn2 rfl (tyX20_ok 1 (by decide)) rfl rfl (by show 1 < 4; decide) (congrArg (fun l => (Sum.inr (11, l) : va_E)) pX20_1) (fun b y hb => rend_sI hb) hdg kk
end NEWF
theorem HB.preN {E : Ev} {K : Kd} {w : Wd} {n : Nat} {av : List Value} {s : State} {H : Heap} {locs : List Loc} (hKs : HK E s) (hT : HT E s s.heap) (hb0 : E.2.1 ≤ s.heap.size) (hH : HQ E K (E.2.1 + n) w s H locs) : ∀ U : State, U.heap = H → s.WarmedH U.vm → va_Pc av (HB E K w (E.2.1 + n)) av.toArray U := by
  have h := HB.pre (av := av) hKs hT hb0 hH
  rw [hH.2.2] at h
  exact h
theorem dfX1 {E : Ev} {w : Wd} {n : Nat} : ∀ j, j < 5 → defaultValue (tyX1 j) = vp_V (fsX1 E (clr w n) n) j := by
  intro j hj
  match j, hj with
  | 0, _ => simp [defaultValue, tyX1, vp_V, fsX1, clr, rv, re, va_rf, b2i, wI, wR, wJ, wZ]
  | 1, _ => simp [defaultValue, tyX1, vp_V, fsX1, clr, rv, re, va_rf, b2i, wI, wR, wJ, wZ]
  | 2, _ => simp [defaultValue, tyX1, vp_V, fsX1, clr, rv, re, va_rf, b2i, wI, wR, wJ, wZ]
  | 3, _ => simp [defaultValue, tyX1, vp_V, fsX1, clr, rv, re, va_rf, b2i, wI, wR, wJ, wZ]
  | 4, _ => simp [defaultValue, tyX1, vp_V, fsX1, clr, rv, re, va_rf, b2i, wI, wR, wJ, wZ]
  | k + 5, hj => exact absurd hj (by omega)
theorem dfX2 {E : Ev} {w : Wd} {n : Nat} : ∀ j, j < 2 → defaultValue (tyX2 j) = vp_V (fsX2 E (clr w n) n) j := by
  intro j hj
  match j, hj with
  | 0, _ => simp [defaultValue, tyX2, vp_V, fsX2, clr, rv, re, va_rf, b2i, wI, wR, wJ, wZ]
  | 1, _ => simp [defaultValue, tyX2, vp_V, fsX2, clr, rv, re, va_rf, b2i, wI, wR, wJ, wZ]
  | k + 2, hj => exact absurd hj (by omega)
theorem dfX3 {E : Ev} {w : Wd} {n : Nat} : ∀ j, j < 7 → defaultValue (tyX3 j) = vp_V (fsX3 E (clr w n) n) j := by
  intro j hj
  match j, hj with
  | 0, _ => simp [defaultValue, tyX3, vp_V, fsX3, clr, rv, re, va_rf, b2i, wI, wR, wJ, wZ]
  | 1, _ => simp [defaultValue, tyX3, vp_V, fsX3, clr, rv, re, va_rf, b2i, wI, wR, wJ, wZ]
  | 2, _ => simp [defaultValue, tyX3, vp_V, fsX3, clr, rv, re, va_rf, b2i, wI, wR, wJ, wZ]
  | 3, _ => simp [defaultValue, tyX3, vp_V, fsX3, clr, rv, re, va_rf, b2i, wI, wR, wJ, wZ]
  | 4, _ => simp [defaultValue, tyX3, vp_V, fsX3, clr, rv, re, va_rf, b2i, wI, wR, wJ, wZ]
  | 5, _ => simp [defaultValue, tyX3, vp_V, fsX3, clr, rv, re, va_rf, b2i, wI, wR, wJ, wZ]
  | 6, _ => simp [defaultValue, tyX3, vp_V, fsX3, clr, rv, re, va_rf, b2i, wI, wR, wJ, wZ]
  | k + 7, hj => exact absurd hj (by omega)
theorem dfX4 {E : Ev} {w : Wd} {n : Nat} : ∀ j, j < 2 → defaultValue (tyX4 j) = vp_V (fsX4 E (clr w n) n) j := by
  intro j hj
  match j, hj with
  | 0, _ => simp [defaultValue, tyX4, vp_V, fsX4, clr, rv, re, va_rf, b2i, wI, wR, wJ, wZ]
  | 1, _ => simp [defaultValue, tyX4, vp_V, fsX4, clr, rv, re, va_rf, b2i, wI, wR, wJ, wZ]
  | k + 2, hj => exact absurd hj (by omega)
theorem dfX5 {E : Ev} {w : Wd} {n : Nat} : ∀ j, j < 7 → defaultValue (tyX5 j) = vp_V (fsX5 E (clr w n) n) j := by
  intro j hj
  match j, hj with
  | 0, _ => simp [defaultValue, tyX5, vp_V, fsX5, clr, rv, re, va_rf, b2i, wI, wR, wJ, wZ]
  | 1, _ => simp [defaultValue, tyX5, vp_V, fsX5, clr, rv, re, va_rf, b2i, wI, wR, wJ, wZ]
  | 2, _ => simp [defaultValue, tyX5, vp_V, fsX5, clr, rv, re, va_rf, b2i, wI, wR, wJ, wZ]
  | 3, _ => simp [defaultValue, tyX5, vp_V, fsX5, clr, rv, re, va_rf, b2i, wI, wR, wJ, wZ]
  | 4, _ => simp [defaultValue, tyX5, vp_V, fsX5, clr, rv, re, va_rf, b2i, wI, wR, wJ, wZ]
  | 5, _ => simp [defaultValue, tyX5, vp_V, fsX5, clr, rv, re, va_rf, b2i, wI, wR, wJ, wZ]
  | 6, _ => simp [defaultValue, tyX5, vp_V, fsX5, clr, rv, re, va_rf, b2i, wI, wR, wJ, wZ]
  | k + 7, hj => exact absurd hj (by omega)
theorem dfX6 {E : Ev} {w : Wd} {n : Nat} : ∀ j, j < 12 → defaultValue (tyX6 j) = vp_V (fsX6 E (clr w n) n) j := by
  intro j hj
  match j, hj with
  | 0, _ => simp [defaultValue, tyX6, vp_V, fsX6, clr, rv, re, va_rf, b2i, wI, wR, wJ, wZ]
  | 1, _ => simp [defaultValue, tyX6, vp_V, fsX6, clr, rv, re, va_rf, b2i, wI, wR, wJ, wZ]
  | 2, _ => simp [defaultValue, tyX6, vp_V, fsX6, clr, rv, re, va_rf, b2i, wI, wR, wJ, wZ]
  | 3, _ => simp [defaultValue, tyX6, vp_V, fsX6, clr, rv, re, va_rf, b2i, wI, wR, wJ, wZ]
  | 4, _ => simp [defaultValue, tyX6, vp_V, fsX6, clr, rv, re, va_rf, b2i, wI, wR, wJ, wZ]
  | 5, _ => simp [defaultValue, tyX6, vp_V, fsX6, clr, rv, re, va_rf, b2i, wI, wR, wJ, wZ]
  | 6, _ => simp [defaultValue, tyX6, vp_V, fsX6, clr, rv, re, va_rf, b2i, wI, wR, wJ, wZ]
  | 7, _ => simp [defaultValue, tyX6, vp_V, fsX6, clr, rv, re, va_rf, b2i, wI, wR, wJ, wZ]
  | 8, _ => simp [defaultValue, tyX6, vp_V, fsX6, clr, rv, re, va_rf, b2i, wI, wR, wJ, wZ]
  | 9, _ => simp [defaultValue, tyX6, vp_V, fsX6, clr, rv, re, va_rf, b2i, wI, wR, wJ, wZ]
  | 10, _ => simp [defaultValue, tyX6, vp_V, fsX6, clr, rv, re, va_rf, b2i, wI, wR, wJ, wZ]
  | 11, _ => simp [defaultValue, tyX6, vp_V, fsX6, clr, rv, re, va_rf, b2i, wI, wR, wJ, wZ]
  | k + 12, hj => exact absurd hj (by omega)
theorem dfX7 {E : Ev} {w : Wd} {n : Nat} : ∀ j, j < 8 → defaultValue (tyX7 j) = vp_V (fsX7 E (clr w n) n) j := by
  intro j hj
  match j, hj with
  | 0, _ => simp [defaultValue, tyX7, vp_V, fsX7, clr, rv, re, va_rf, b2i, wI, wR, wJ, wZ]
  | 1, _ => simp [defaultValue, tyX7, vp_V, fsX7, clr, rv, re, va_rf, b2i, wI, wR, wJ, wZ]
  | 2, _ => simp [defaultValue, tyX7, vp_V, fsX7, clr, rv, re, va_rf, b2i, wI, wR, wJ, wZ]
  | 3, _ => simp [defaultValue, tyX7, vp_V, fsX7, clr, rv, re, va_rf, b2i, wI, wR, wJ, wZ]
  | 4, _ => simp [defaultValue, tyX7, vp_V, fsX7, clr, rv, re, va_rf, b2i, wI, wR, wJ, wZ]
  | 5, _ => simp [defaultValue, tyX7, vp_V, fsX7, clr, rv, re, va_rf, b2i, wI, wR, wJ, wZ]
  | 6, _ => simp [defaultValue, tyX7, vp_V, fsX7, clr, rv, re, va_rf, b2i, wI, wR, wJ, wZ]
  | 7, _ => simp [defaultValue, tyX7, vp_V, fsX7, clr, rv, re, va_rf, b2i, wI, wR, wJ, wZ]
  | k + 8, hj => exact absurd hj (by omega)
theorem dfX8 {E : Ev} {w : Wd} {n : Nat} : ∀ j, j < 7 → defaultValue (tyX8 j) = vp_V (fsX8 E (clr w n) n) j := by
  intro j hj
  match j, hj with
  | 0, _ => simp [defaultValue, tyX8, vp_V, fsX8, clr, rv, re, va_rf, b2i, wI, wR, wJ, wZ]
  | 1, _ => simp [defaultValue, tyX8, vp_V, fsX8, clr, rv, re, va_rf, b2i, wI, wR, wJ, wZ]
  | 2, _ => simp [defaultValue, tyX8, vp_V, fsX8, clr, rv, re, va_rf, b2i, wI, wR, wJ, wZ]
  | 3, _ => simp [defaultValue, tyX8, vp_V, fsX8, clr, rv, re, va_rf, b2i, wI, wR, wJ, wZ]
  | 4, _ => simp [defaultValue, tyX8, vp_V, fsX8, clr, rv, re, va_rf, b2i, wI, wR, wJ, wZ]
  | 5, _ => simp [defaultValue, tyX8, vp_V, fsX8, clr, rv, re, va_rf, b2i, wI, wR, wJ, wZ]
  | 6, _ => simp [defaultValue, tyX8, vp_V, fsX8, clr, rv, re, va_rf, b2i, wI, wR, wJ, wZ]
  | k + 7, hj => exact absurd hj (by omega)
theorem dfX9 {E : Ev} {w : Wd} {n : Nat} : ∀ j, j < 15 → defaultValue (tyX9 j) = vp_V (fsX9 E (clr w n) n) j := by
  intro j hj
  match j, hj with
  | 0, _ => simp [defaultValue, tyX9, vp_V, fsX9, clr, rv, re, va_rf, b2i, wI, wR, wJ, wZ]
  | 1, _ => simp [defaultValue, tyX9, vp_V, fsX9, clr, rv, re, va_rf, b2i, wI, wR, wJ, wZ]
  | 2, _ => simp [defaultValue, tyX9, vp_V, fsX9, clr, rv, re, va_rf, b2i, wI, wR, wJ, wZ]
  | 3, _ => simp [defaultValue, tyX9, vp_V, fsX9, clr, rv, re, va_rf, b2i, wI, wR, wJ, wZ]
  | 4, _ => simp [defaultValue, tyX9, vp_V, fsX9, clr, rv, re, va_rf, b2i, wI, wR, wJ, wZ]
  | 5, _ => simp [defaultValue, tyX9, vp_V, fsX9, clr, rv, re, va_rf, b2i, wI, wR, wJ, wZ]
  | 6, _ => simp [defaultValue, tyX9, vp_V, fsX9, clr, rv, re, va_rf, b2i, wI, wR, wJ, wZ]
  | 7, _ => simp [defaultValue, tyX9, vp_V, fsX9, clr, rv, re, va_rf, b2i, wI, wR, wJ, wZ]
  | 8, _ => simp [defaultValue, tyX9, vp_V, fsX9, clr, rv, re, va_rf, b2i, wI, wR, wJ, wZ]
  | 9, _ => simp [defaultValue, tyX9, vp_V, fsX9, clr, rv, re, va_rf, b2i, wI, wR, wJ, wZ]
  | 10, _ => simp [defaultValue, tyX9, vp_V, fsX9, clr, rv, re, va_rf, b2i, wI, wR, wJ, wZ]
  | 11, _ => simp [defaultValue, tyX9, vp_V, fsX9, clr, rv, re, va_rf, b2i, wI, wR, wJ, wZ]
  | 12, _ => simp [defaultValue, tyX9, vp_V, fsX9, clr, rv, re, va_rf, b2i, wI, wR, wJ, wZ]
  | 13, _ => simp [defaultValue, tyX9, vp_V, fsX9, clr, rv, re, va_rf, b2i, wI, wR, wJ, wZ]
  | 14, _ => simp [defaultValue, tyX9, vp_V, fsX9, clr, rv, re, va_rf, b2i, wI, wR, wJ, wZ]
  | k + 15, hj => exact absurd hj (by omega)
theorem dfX10 {E : Ev} {w : Wd} {n : Nat} : ∀ j, j < 6 → defaultValue (tyX10 j) = vp_V (fsX10 E (clr w n) n) j := by
  intro j hj
  match j, hj with
  | 0, _ => simp [defaultValue, tyX10, vp_V, fsX10, clr, rv, re, va_rf, b2i, wI, wR, wJ, wZ]
  | 1, _ => simp [defaultValue, tyX10, vp_V, fsX10, clr, rv, re, va_rf, b2i, wI, wR, wJ, wZ]
  | 2, _ => simp [defaultValue, tyX10, vp_V, fsX10, clr, rv, re, va_rf, b2i, wI, wR, wJ, wZ]
  | 3, _ => simp [defaultValue, tyX10, vp_V, fsX10, clr, rv, re, va_rf, b2i, wI, wR, wJ, wZ]
  | 4, _ => simp [defaultValue, tyX10, vp_V, fsX10, clr, rv, re, va_rf, b2i, wI, wR, wJ, wZ]
  | 5, _ => simp [defaultValue, tyX10, vp_V, fsX10, clr, rv, re, va_rf, b2i, wI, wR, wJ, wZ]
  | k + 6, hj => exact absurd hj (by omega)
theorem dfX12 {E : Ev} {w : Wd} {n : Nat} : ∀ j, j < 16 → defaultValue (tyX12 j) = vp_V (fsX12 E (clr w n) n) j := by
  intro j hj
  match j, hj with
  | 0, _ => simp [defaultValue, tyX12, vp_V, fsX12, clr, rv, re, va_rf, b2i, wI, wR, wJ, wZ]
  | 1, _ => simp [defaultValue, tyX12, vp_V, fsX12, clr, rv, re, va_rf, b2i, wI, wR, wJ, wZ]
  | 2, _ => simp [defaultValue, tyX12, vp_V, fsX12, clr, rv, re, va_rf, b2i, wI, wR, wJ, wZ]
  | 3, _ => simp [defaultValue, tyX12, vp_V, fsX12, clr, rv, re, va_rf, b2i, wI, wR, wJ, wZ]
  | 4, _ => simp [defaultValue, tyX12, vp_V, fsX12, clr, rv, re, va_rf, b2i, wI, wR, wJ, wZ]
  | 5, _ => simp [defaultValue, tyX12, vp_V, fsX12, clr, rv, re, va_rf, b2i, wI, wR, wJ, wZ]
  | 6, _ => simp [defaultValue, tyX12, vp_V, fsX12, clr, rv, re, va_rf, b2i, wI, wR, wJ, wZ]
  | 7, _ => simp [defaultValue, tyX12, vp_V, fsX12, clr, rv, re, va_rf, b2i, wI, wR, wJ, wZ]
  | 8, _ => simp [defaultValue, tyX12, vp_V, fsX12, clr, rv, re, va_rf, b2i, wI, wR, wJ, wZ]
  | 9, _ => simp [defaultValue, tyX12, vp_V, fsX12, clr, rv, re, va_rf, b2i, wI, wR, wJ, wZ]
  | 10, _ => simp [defaultValue, tyX12, vp_V, fsX12, clr, rv, re, va_rf, b2i, wI, wR, wJ, wZ]
  | 11, _ => simp [defaultValue, tyX12, vp_V, fsX12, clr, rv, re, va_rf, b2i, wI, wR, wJ, wZ]
  | 12, _ => simp [defaultValue, tyX12, vp_V, fsX12, clr, rv, re, va_rf, b2i, wI, wR, wJ, wZ]
  | 13, _ => simp [defaultValue, tyX12, vp_V, fsX12, clr, rv, re, va_rf, b2i, wI, wR, wJ, wZ]
  | 14, _ => simp [defaultValue, tyX12, vp_V, fsX12, clr, rv, re, va_rf, b2i, wI, wR, wJ, wZ]
  | 15, _ => simp [defaultValue, tyX12, vp_V, fsX12, clr, rv, re, va_rf, b2i, wI, wR, wJ, wZ]
  | k + 16, hj => exact absurd hj (by omega)
def kn0 : Kd := fun _ => none
def w00 : Wd := (fun _ _ => 0, fun _ _ => none, fun _ _ => 0, fun _ _ => false, fun _ _ => 0, fun _ _ => 0, fun _ _ => none, fun _ _ => 0)

theorem dfX20 {E : Ev} {w : Wd} {n : Nat} : ∀ j, j < 4 → defaultValue (tyX20 j) = vp_V (fsX20 E (clr w n) n) j := by
  intro j hj
  match j, hj with
  | 0, _ => simp [defaultValue, tyX20, tyJ0, vp_V, fsX20, clr, rv, re, va_rf, b2i, wI, wR, wJ, wZ]
  | 1, _ => simp [defaultValue, tyX20, tyJ0, vp_V, fsX20, clr, rv, re, va_rf, b2i, wI, wR, wJ, wZ]
  | 2, _ => simp [defaultValue, tyX20, tyJ0, vp_V, fsX20, clr, rv, re, va_rf, b2i, wI, wR, wJ, wZ]
  | 3, _ => simp [defaultValue, tyX20, tyJ0, vp_V, fsX20, clr, rv, re, va_rf, b2i, wI, wR, wJ, wZ]
  | k + 4, hj => exact absurd hj (by omega)
theorem dfX21 {E : Ev} {w : Wd} {n : Nat} : ∀ j, j < 4 → defaultValue (tyX21 j) = vp_V (fsX21 E (clr w n) n) j := by
  intro j hj
  match j, hj with
  | 0, _ => simp [defaultValue, tyX21, tyJ4, vp_V, fsX21, clr, rv, re, va_rf, b2i, wI, wR, wJ, wZ]
  | 1, _ => simp [defaultValue, tyX21, tyJ4, vp_V, fsX21, clr, rv, re, va_rf, b2i, wI, wR, wJ, wZ]
  | 2, _ => simp [defaultValue, tyX21, tyJ4, vp_V, fsX21, clr, rv, re, va_rf, b2i, wI, wR, wJ, wZ]
  | 3, _ => simp [defaultValue, tyX21, tyJ4, vp_V, fsX21, clr, rv, re, va_rf, b2i, wI, wR, wJ, wZ]
  | k + 4, hj => exact absurd hj (by omega)
/-! a call's end with a reference, in a method that makes cells -/
section NEWQ
variable {p : Program} {l : Launch} {e : Env} {R : Room} {s : State} {m : MethodId} {args : Array Value} {below : List Frame} {meth : Method} {c : Code} {H : Heap} {locs : List Loc} {cells slots : Nat} {Q : State → Prop}
variable {cc : ByteArray} {pc n : Nat} {ls : Array Slot} {rest : List Value} {E : Ev} {K : Kd} {z : Nat} {w : Wd}
theorem hw_aqret (hexec : p.tables.exec = Jvm.exec) (hb : c.code = cc) {mc ms n' : Nat} {K' : Kd} {w' : Wd} {v r : Option Nat} {rt : FieldType} (hcm : cells ≤ mc) (hsm : slots ≤ ms) (hret : meth.sig.returnType = some rt) (hrt : (∃ n, rt = .object n) ∨ ∃ t, rt = .array t) (hf : some (K, n, v, w) = some (K', n', r, w')) (hH : HQ E K (E.2.1 + n) w s H locs) (hlocks : meth.locks = false) (hdg : decode cc pc = .ok (.areturn, 1)) : W p l e R s m args below meth c H locs cells slots (MQ below (QR E K' (E.2.1 + n') w' r) args s mc ms (hA E)) (F0 m pc ls [rv E v]) := by
  cases hf
  exact W.widen hcm hsm (W.aret hexec hb hret hrt (by cases v with | none => exact Or.inl rfl | some a => exact Or.inr ⟨_, rfl⟩) (fun t ht hW => ⟨⟨v.map (fun a => E.2.1 + a), (), rfl, rfl, by rw [ht]; exact hH.2.2, by rw [ht]; exact hH.1⟩, hH.2.1.F ht⟩) hH.2.1.2.2 hdg hlocks)
theorem hcAq {K' : Kd} {n' kc ks : Nat} {w' : Wd} {r0 : Option Nat} {st0 : List Value} {a : Array Value} (hH : HQ E K (E.2.1 + n) w s H locs) (hr : va_Run p l e R s m args below meth c H locs cells slots kc ks (F0 m pc ls st0) rest (QR E K' (E.2.1 + n') w' r0 a) (hA E)) (kk : ∀ (H1 : Heap) (locs1 : List Loc), HQ E K' (E.2.1 + n') w' s H1 locs1 → W p l e R s m args below meth c H1 locs1 (cells + kc) (slots + ks) Q (F0 m (pc + 3) ls (rv E r0 :: rest))) : W p l e R s m args below meth c H locs cells slots Q (F0 m pc ls st0) := by
  refine va_callq hr hH.2.1 (fun q _ h => h) (fun q h => h) (fun x u t H1 locs1 ht hvm hp hB hz hk hS => ?_)
  subst hp
  exact kk H1 locs1 ⟨by rw [← ht]; exact hB.2, hS, by rw [← ht]; exact hB.1⟩
end NEWQ
