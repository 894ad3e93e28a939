/-! Calls on an object whose address is known, inherited and upward ones; the script; bytes out of a constant text. -/
def LX (E : Ev) (L : Nat) (xs : Nat → Int32) : Prop := L = E.2.2.2.2.1 ∧ xs = E.2.2.2.2.2
theorem gSU {own : String} {idx maxL : Nat} {y : MethodName} {cc : ByteArray} {ret : Option FieldType} (h1 : Cond.methodLink own idx y ∈ bt) (h0 : Cond.sameMethod y.cls y.cls y.name y.desc ∈ bt) (h2 : Cond.superclass own y.cls ∈ bt) (h3 : Cond.instanceMethod y ∈ bt) (h4 : Cond.initialized y.cls ∈ bt) (h5 : Cond.code y cc maxL ret ∈ bt) : GoodIn bt (va_wsSU own idx y (Cond.code y cc maxL ret :: bt)) := by
  intro w hw
  have hm : w ∈ bt := by
    unfold va_wsSU at hw
    simp only [List.cons_append, List.nil_append, List.mem_cons] at hw
    rcases hw with rfl | rfl | rfl | rfl | rfl | rfl | hw
    all_goals first | exact h1 | exact h0 | exact h2 | exact h3 | exact h4 | exact h5 | exact hw
  exact ⟨hm, good_of_word (bt_good hm)⟩
theorem gO {own C owner : String} {idx maxL : Nat} {x y : MethodName} {cc : ByteArray} {ret : Option FieldType} (h1 : Cond.methodLink own idx x ∈ bt) (h0 : Cond.sameMethod x.cls owner x.name x.desc ∈ bt) (h6 : Cond.instanceMethod ⟨owner, x.name, x.desc⟩ ∈ bt) (h2 : Cond.instanceMethod y ∈ bt) (h3 : Cond.selects C x y ∈ bt) (h4 : Cond.initialized y.cls ∈ bt) (h5 : Cond.code y cc maxL ret ∈ bt) : GoodIn bt (va_wsO own idx C owner x y (Cond.code y cc maxL ret :: bt)) := by
  intro w hw
  have hm : w ∈ bt := by
    unfold va_wsO at hw
    simp only [List.cons_append, List.nil_append, List.mem_cons] at hw
    rcases hw with rfl | rfl | rfl | rfl | rfl | rfl | rfl | hw
    all_goals first | exact h1 | exact h0 | exact h6 | exact h2 | exact h3 | exact h4 | exact h5 | exact hw
  exact ⟨hm, good_of_word (bt_good hm)⟩
theorem gW {own : String} {idx maxL : Nat} {y : MethodName} {cc : ByteArray} {ret : Option FieldType} {hh : List (Nat × Nat × Nat × Nat)} (h1 : Cond.methodLink own idx y ∈ bt) (h2 : Cond.static y ∈ bt) (h4 : Cond.initialized y.cls ∈ bt) (h5 : Cond.codeWith y cc maxL ret hh ∈ bt) : GoodIn bt (va_wsS own idx y (Cond.codeWith y cc maxL ret hh :: bt)) := by
  intro w hw
  have hm : w ∈ bt := by
    unfold va_wsS at hw
    simp only [List.cons_append, List.nil_append, List.mem_cons] at hw
    rcases hw with rfl | rfl | rfl | rfl | hw
    · exact h1
    · exact h2
    · exact h4
    · exact h5
    · exact hw
  exact ⟨hm, good_of_word (bt_good hm)⟩
theorem hq_new {E : Ev} {K : Kd} {n : Nat} {w : Wd} {s : State} {H : Heap} {locs : List Loc} (h : HQ E K (E.2.1 + n) w s H locs) : ∀ q, K n ≠ some q := fun q hq => by
  have h1 := (h.1 n q hq).lt
  have h2 := h.2.2
  have h3 : E.2.1 + n < H.size := h1
  omega
theorem hp_drop {E : Ev} {K : Kd} {n : Nat} {q : Nat × Nat} {w : Wd} {H : Heap} (hn : ∀ q, K n ≠ some q) (h : HP E (kup K n q) w H) : HP E K w H := fun a y hy => h a y (by
  unfold kup
  by_cases e : a = n
  · rw [e] at hy
    exact absurd hy (hn y)
  · rw [if_neg e]
    exact hy)
theorem hq_drop {E : Ev} {K : Kd} {n z : Nat} {q : Nat × Nat} {w : Wd} {s : State} {H : Heap} {locs : List Loc} (hn : ∀ q, K n ≠ some q) (h : HQ E (kup K n q) z w s H locs) : HQ E K z w s H locs := ⟨hp_drop hn h.1, h.2⟩
theorem i2b_n {x : Int32} (h : x.toInt8.toInt32 = x) : narrow .byte (.int x) = .int x := congrArg Value.int h
section CALLS
variable {p : Program} {l : Launch} {e : Env} {R : Room} {s : State} {m : MethodId} {args : Array Value} {below : List Frame} {meth : Method} {c : Code} {H : Heap} {locs : List Loc} {cells slots : Nat} {Q : State → Prop}
variable {cc : ByteArray} {pc : Nat} {ls : Array Slot} {rest st0 : List Value} {E : Ev} {K : Kd} {z : Nat} {w w' : Wd} {a0 : Array Value}
variable {x y : MethodName} {bytes : ByteArray} {maxL nL mc ms n index : Nat} {ret : Option FieldType} {ws : List Cond} {rm : Room} {Qc : Array Value → State → Outcome → State → Prop} {free : Addr → Prop} {Ts : List Cond} {own C owner : String} {As : List Value} {r : Option Nat} {a : Nat} {B : State → Prop}
theorem hrV (hr : r = some a) (S : CallFix p m c cc nL s args Ts own) (hM : Met l y ws rm (va_Pc (rv E (some a) :: As) B) Qc mc ms free) (cw : CallW R s args own C index y bytes maxL ret ws rm mc ms n) (hp : PreV s H C (E.2.1 + a) (va_Pc (rv E (some a) :: As) B) As)
    (hn : As.length = n) (hsize : ls.size = nL) (hst : st0 = As.reverse ++ rv E r :: rest) (hrm : rc 8 rest) (hdg : decode cc pc = .ok (.invokevirtual index, 3)) (hf : cells + mc ≤ R.cells ∧ slots + ms ≤ R.slots) :
    va_Run p l e R s m args below meth c H locs cells slots mc ms (F0 m pc ls st0) rest (Qc (rv E r :: As).toArray) free := by
  subst hst
  subst hr
  exact va_runV (b := E.2.1 + a) (As := As) (rest := rest) S hM cw hp rfl hn hsize rfl (lv_room hrm) hdg hf
theorem hrU (hr : r = some a) (S : CallFix p m c cc nL s args Ts own) (hM : Met l y ws rm (va_Pc (rv E (some a) :: As) B) Qc mc ms free) (cw : va_CU R s args own C owner index x y bytes maxL ret ws rm mc ms n) (hp : PreV s H C (E.2.1 + a) (va_Pc (rv E (some a) :: As) B) As)
    (hn : As.length = n) (hsize : ls.size = nL) (hst : st0 = As.reverse ++ rv E r :: rest) (hrm : rc 8 rest) (hdg : decode cc pc = .ok (.invokevirtual index, 3)) (hf : cells + mc ≤ R.cells ∧ slots + ms ≤ R.slots) :
    va_Run p l e R s m args below meth c H locs cells slots mc ms (F0 m pc ls st0) rest (Qc (rv E r :: As).toArray) free := by
  subst hst
  subst hr
  exact va_runU (b := E.2.1 + a) (As := As) (rest := rest) S hM cw hp rfl hn hsize rfl (lv_room hrm) hdg hf
theorem hrSU {cC : ClassId} (hr : r = some a) (hat : ClassAt s C cC) (S : CallFix p m c cc nL s args Ts own) (hM : Met l y ws rm (va_Pc (rv E (some a) :: As) B) Qc mc ms free) (cw : va_CS R s args own index y bytes maxL ret ws rm mc ms n) (hp : PreV s H C (E.2.1 + a) (va_Pc (rv E (some a) :: As) B) As)
    (hn : As.length = n) (hsize : ls.size = nL) (hst : st0 = As.reverse ++ rv E r :: rest) (hrm : rc 8 rest) (hdg : decode cc pc = .ok (.invokespecial index, 3)) (hf : cells + mc ≤ R.cells ∧ slots + ms ≤ R.slots) :
    va_Run p l e R s m args below meth c H locs cells slots mc ms (F0 m pc ls st0) rest (Qc (rv E r :: As).toArray) free := by
  subst hst
  subst hr
  exact va_runSU (b := E.2.1 + a) (As := As) (rest := rest) hat S hM cw hp rfl hn hsize rfl (lv_room hrm) hdg hf
theorem hrI (hr : r = some a) (S : CallFix p m c cc nL s args Ts own) (hM : Met l y ws rm (va_Pc (rv E (some a) :: As) B) Qc mc ms free) (cw : CallB R s args own index y bytes maxL none ws rm mc ms n ∧ y.name = "<init>" ∧ (Cond.instanceMethod y).before args s = true) (hp : PreS s H (va_Pc (rv E (some a) :: As) B) (rv E (some a) :: As))
    (hn : As.length = n) (hsize : ls.size = nL) (hst : st0 = As.reverse ++ rv E r :: rest) (hrm : rc 8 rest) (hdg : decode cc pc = .ok (.invokespecial index, 3)) (hf : cells + mc ≤ R.cells ∧ slots + ms ≤ R.slots) :
    va_Run p l e R s m args below meth c H locs cells slots mc ms (F0 m pc ls st0) rest (Qc (rv E r :: As).toArray) free := by
  subst hst
  subst hr
  exact va_runI (b := E.2.1 + a) (As := As) (rest := rest) S hM cw hp rfl hn hsize rfl (lv_room hrm) hdg hf
theorem hcG_q {r0 : Option Nat} (hH : HQ E K z w s H locs) (hr : va_Run p l e R s m args below meth c H locs cells slots 0 0 (F0 m pc ls st0) rest (QR E K H.size w' r0 a0) (hA E)) (kk : ∀ (H1 : Heap) (locs1 : List Loc), HQ E K z w' s H1 locs1 → W p l e R s m args below meth c H1 locs1 cells slots Q (F0 m (pc + 3) ls (rv E r0 :: rest))) : W p l e R s m args below meth c H locs cells slots Q (F0 m pc ls st0) := by
  refine va_callq hr hH.2.1 (fun q _ h => h) (fun q h => h) (fun x u t H1 locs1 ht hvm hp hB hz hk hS => ?_)
  subst hp
  exact kk H1 locs1 ⟨by rw [← ht]; exact hB.2, hS, by rw [← ht]; exact hB.1.trans hH.2.2⟩
theorem hw_slen (hexec : p.tables.exec = Jvm.exec) (hb : c.code = cc) (hT : HT E s s.heap) {L : Nat} {xs : Nat → Int32} (hLX : LX E L xs) (hH : HQ E K z w s H locs) (hdg : decode cc pc = .ok (.arraylength, 1))
    (kk : W p l e R s m args below meth c H locs cells slots Q (F0 m (pc + 1) ls (.int (nI L) :: rest))) : W p l e R s m args below meth c H locs cells slots Q (F0 m pc ls (.ref (E.2.2.2.1 500) :: rest)) := by
  obtain ⟨rfl, rfl⟩ := hLX
  exact va_tlen hexec hb hT.2.2.2.2.2.2.2.2.2.2.2 hH.2.1 rfl hdg kk
theorem hw_sld (hexec : p.tables.exec = Jvm.exec) (hb : c.code = cc) (hT : HT E s s.heap) {L : Nat} {xs : Nat → Int32} (hLX : LX E L xs) (hH : HQ E K z w s H locs) {i : Int32} {j : Nat} (hj : ixa i L = some j) (hdg : decode cc pc = .ok (.iaload, 1))
    (kk : W p l e R s m args below meth c H locs cells slots Q (F0 m (pc + 1) ls (.int (xs j) :: rest))) : W p l e R s m args below meth c H locs cells slots Q (F0 m pc ls (.int i :: .ref (E.2.2.2.1 500) :: rest)) := by
  obtain ⟨rfl, rfl⟩ := hLX
  obtain ⟨h1, rfl⟩ := ixa_some hj
  exact va_ti hexec hb hT.2.2.2.2.2.2.2.2.2.2.2 hH.2.1 h1 rfl hdg kk
theorem strB_fit : ∀ i, i < 15 → ∀ j, j < 18 → fits .byte (.int ((strB.getD i []).getD j 0)) = true := by decide +kernel
theorem hw_copyC (hexec : p.tables.exec = Jvm.exec) (hb : c.code = cc) (hml : c.maxLocals = ls.size) {own : String} {index : Nat} (hown : s.vm.findClass own = some m.cls) (hlink : (Cond.methodLink own index arraycopyName).before args s = true) (hnat : (Cond.native arraycopyName).before args s = true) (hstat : (Cond.static arraycopyName).before args s = true) (hini : (Cond.initialized "java/lang/System").before args s = true) (hKs : HK E s) (hT : HT E s s.heap) (hH : HQ E K z w s H locs) {i : Nat} (hi : i < 15) {r1 : Option Nat} {a1 n1 : Nat} (hr1 : r1 = some a1) (hK1 : K a1 = some (21, n1)) {sp dp n : Int32} (h1 : ¬ sp < 0) (h2 : ¬ dp < 0) (h3 : ¬ n < 0) (h4 : sp.toNatClampNeg + n.toNatClampNeg ≤ strL.getD i 0) (h5 : dp.toNatClampNeg + n.toNatClampNeg ≤ n1) (hframes : 1 ≤ R.frames) (hlocals : (rest.map fun v => v.category).sum + (nativeFrameWords "java/lang/System" "arraycopy" 5 + 11) ≤ R.locals) (hdg : decode cc pc = .ok (.invokestatic index, 3))
    (kk : ∀ (H1 : Heap) (locs1 : List Loc), HQ E K z (tA w a1 (va_cpy (fun j => (strB.getD i []).getD j 0) (aI w a1) sp.toNatClampNeg dp.toNatClampNeg n.toNatClampNeg)) s H1 locs1 → W p l e R s m args below meth c H1 locs1 cells slots Q (F0 m (pc + 3) ls rest)) : W p l e R s m args below meth c H locs cells slots Q (F0 m pc ls (.int n :: .int dp :: rv E r1 :: .int sp :: .ref (E.2.2.2.1 (400 + i)) :: rest)) := by
  subst hr1
  have hl18 := strL_d i hi
  have nn : ∀ x : Int32, ¬ x < 0 → x.toInt = (x.toNatClampNeg : Int) := by
    intro x hx
    have hx0 : (0 : Int) ≤ x.toInt := by
      have := Int32.not_lt.mp hx
      simpa using Int32.le_iff_toInt_le.mp this
    show x.toInt = ((x.toInt.toNat : Nat) : Int)
    omega
  intro T hT' X
  obtain ⟨scr, hs1, hs2, hs3, hs4, -, hs5, hs7⟩ := (hT.2.2.2.2.1.1 i hi).2.2.2
  have hc0 : H[E.2.2.2.1 (400 + i)]? = some scr := by rw [hH.2.1.2.1 _ (Array.getElem?_eq_some_iff.mp hs1).1 hs7]; exact hs1
  have hc1 : H[E.2.1 + a1]? = some (vp_cell (E.2.2.1 21) (n1, .inl (aI w a1))) := hH.1 a1 _ hK1
  obtain ⟨hs6, k0, hk0, cm0, hkk0⟩ := hs2
  obtain ⟨-, k1, hk1, cm1, hkk1⟩ := (hKs.1.2 1 _ rfl).1 n1 (fun j => .int (aI w a1 j))
  obtain ⟨vm', X', step⟩ := X.arraycopy hexec hown hlink hnat hstat hini (src := E.2.2.2.1 (400 + i)) (dst := E.2.1 + a1) (cs := scr) (cd := vp_cell (E.2.2.1 21) (n1, .inl (aI w a1))) (srcPos := sp) (destPos := dp) (n := n) (by rw [hT']; exact hc0) (by rw [hT']; exact hc1)
    hs6 (fun _ h => by cases h) hs3 (fun h => by cases h) hk0 hk1 hkk0 hkk1 (by simp [refKind]) h1 h2 h3
    (by rw [nn sp h1, nn n h3]; omega)
    (by rw [nn dp h2, nn n h3]; show ¬ _ > ((arrV (E.2.2.1 21) n1 (fun j => .int (aI w a1 j))).slots.size : Int); rw [arrV_size]; omega)
    (fun vm₁ _ k hk => by
      have e : scr.slots.getD (sp.toNatClampNeg + k) .null = .int ((strB.getD i []).getD (sp.toNatClampNeg + k) 0) := by
        rw [Array.getD_eq_getD_getElem?, hs5 _ (by omega)]
        rfl
      refine ⟨?_, ?_⟩
      · rw [e]
        exact strB_fit i hi _ (by omega)
      · rw [e]
        exact trivial)
    (g := F0 m pc ls (.int n :: .int dp :: rv E (some a1) :: .int sp :: .ref (E.2.2.2.1 (400 + i)) :: rest)) rfl (by rw [hml]) (rest := rest) rfl (by rw [hb]; exact hdg) hframes (by show 2 * 0 + _ + _ ≤ _; omega)
  have e1 : copied scr (vp_cell (E.2.2.1 21) (n1, .inl (aI w a1))) sp dp n = vp_cell (E.2.2.1 21) (n1, .inl (va_cpy (fun j => (strB.getD i []).getD j 0) (aI w a1) sp.toNatClampNeg dp.toNatClampNeg n.toNatClampNeg)) := va_copiedX (fun z => .int z) scr (E.2.2.1 21) (fun j => (strB.getD i []).getD j 0) (aI w a1) hs5 h4
  rw [e1] at X' step
  have hl : E.2.1 + a1 < H.size := (Array.getElem?_eq_some_iff.mp hc1).1
  have oq : ∀ (x : Cell) (q : Nat), q ≠ E.2.1 + a1 → (H.setIfInBounds (E.2.1 + a1) x)[q]? = H[q]? := fun x q hq => by simp [Array.getElem?_setIfInBounds, Ne.symm hq]
  obtain ⟨t, b1, b2⟩ := kk _ _ ⟨hH.1.put (H1 := H.setIfInBounds (E.2.1 + a1) (vp_cell (E.2.2.1 21) (n1, .inl (va_cpy (fun j => (strB.getD i []).getD j 0) (aI w a1) sp.toNatClampNeg dp.toNatClampNeg n.toNatClampNeg)))) hK1 (oq _) (by
      show (H.setIfInBounds (E.2.1 + a1) _)[E.2.1 + a1]? = some (vp_cell (E.2.2.1 21) (n1, .inl (aI (tA w a1 _) a1)))
      rw [aI_tA]
      simp [Array.getElem?_setIfInBounds, hl]) (fun b y hb2 => rend_tA hb2), ⟨by simp; exact hH.2.1.1, fun q g1 g2 => by
      rw [oq _ q (fun e => g2 (by rw [e]; exact Nat.le_add_right _ _))]
      exact hH.2.1.2.1 q g1 g2, fun q hq => by
      rcases List.mem_append.mp hq with h | h
      · exact hH.2.1.2.2 q h
      · obtain ⟨z, -, hz⟩ := List.mem_map.mp h
        rw [← hz]
        exact Nat.le_add_right _ _⟩, by simp; exact hH.2.2⟩ _ (by rw [← hT']; rfl) X'
  exact ⟨t, step t b1, b2⟩
/-- the end of a method of the law, with a truth or without an answer -/
theorem hw_wretz (hexec : p.tables.exec = Jvm.exec) (hb : c.code = cc) {mc ms : Nat} (hcm : cells ≤ mc) (hsm : slots ≤ ms) (hret : meth.sig.returnType = some .boolean) {v : Int32} {b r : Bool} {w' : Wd} (hv : v = b2i b) (hf : some (b, w) = some (r, w')) (hH : HQ E K z w s H locs) (hlocks : meth.locks = false) (hdg : decode cc pc = .ok (.ireturn, 1)) : W p l e R s m args below meth c H locs cells slots (MQ below (QW E K w' (b2i r)) args s mc ms (hA E)) (F0 m pc ls [.int v]) := by
  cases hf
  exact W.widen hcm hsm (W.zret hexec hb hret (by rw [hv]; cases b <;> rfl) (fun t ht hW => ⟨⟨v, (), rfl, hv, by show HP E K w t.heap; rw [ht]; exact hH.1⟩, hH.2.1.F ht⟩) hH.2.1.2.2 hdg hlocks)
abbrev QWv (E : Ev) (K : Kd) (w : Wd) : Array Value → State → Outcome → State → Prop := va_Qv (fun (_ : Unit) => True) (fun _ t => HP E K w t.heap) (hA E)
theorem hw_wretv (hexec : p.tables.exec = Jvm.exec) (hb : c.code = cc) {mc ms : Nat} (hcm : cells ≤ mc) (hsm : slots ≤ ms) (hret : meth.sig.returnType = none) {w' : Wd} (hf : some w = some w') (hH : HQ E K z w s H locs) (hlocks : meth.locks = false) (hdg : decode cc pc = .ok (.return_, 1)) : W p l e R s m args below meth c H locs cells slots (MQ below (QWv E K w') args s mc ms (hA E)) (F0 m pc ls []) := by
  cases hf
  exact W.widen hcm hsm (W.vret hexec hb hret (fun t ht hW => ⟨⟨(), rfl, trivial, by show HP E K w t.heap; rw [ht]; exact hH.1⟩, hH.2.1.F ht⟩) hH.2.1.2.2 hdg hlocks)
theorem hcWi {r0 : Int32} {kc ks : Nat} (hH : HQ E K z w s H locs) (hr : va_Run p l e R s m args below meth c H locs cells slots kc ks (F0 m pc ls st0) rest (QW E K w' r0 a0) (hA E)) (kk : ∀ (H1 : Heap) (locs1 : List Loc) (z1 : Nat), HQ E K z1 w' s H1 locs1 → W p l e R s m args below meth c H1 locs1 (cells + kc) (slots + ks) Q (F0 m (pc + 3) ls (.int r0 :: rest))) : W p l e R s m args below meth c H locs cells slots Q (F0 m pc ls st0) := by
  refine va_calli hr hH.2.1 (fun q _ h => h) (fun q h => h) (fun x u t H1 locs1 ht hvm hp hB hz hk hS => ?_)
  subst hp
  exact kk H1 locs1 _ ⟨by rw [← ht]; exact hB, hS, rfl⟩
theorem hcWv {kc ks : Nat} (hH : HQ E K z w s H locs) (hr : va_Run p l e R s m args below meth c H locs cells slots kc ks (F0 m pc ls st0) rest (QWv E K w' a0) (hA E)) (kk : ∀ (H1 : Heap) (locs1 : List Loc) (z1 : Nat), HQ E K z1 w' s H1 locs1 → W p l e R s m args below meth c H1 locs1 (cells + kc) (slots + ks) Q (F0 m (pc + 3) ls rest)) : W p l e R s m args below meth c H locs cells slots Q (F0 m pc ls st0) := by
  refine va_callv hr hH.2.1 (fun q _ h => h) (fun q h => h) (fun u t H1 locs1 ht hvm hp hB hz hk hS => ?_)
  exact kk H1 locs1 _ ⟨by rw [← ht]; exact hB, hS, rfl⟩
end CALLS
