/-! Methods that catch: the law's own helpers. -/
def xh {α β : Type} (q : (α ⊕ Nat) × Wd) (k : α → Option β) (h : Nat → Option β) : Option β := match q.1 with
  | .inl v => k v
  | .inr x => h x
theorem xh_inl {α β : Type} {q : (α ⊕ Nat) × Wd} {k : α → Option β} {h : Nat → Option β} {v : α} (e : q.1 = .inl v) : xh q k h = k v := by unfold xh; rw [e]
theorem xh_inr {α β : Type} {q : (α ⊕ Nat) × Wd} {k : α → Option β} {h : Nat → Option β} {v : Nat} (e : q.1 = .inr v) : xh q k h = h v := by unfold xh; rw [e]
/-- the answer, and the memory; new cells may stand behind it -/
abbrev QW (E : Ev) (K : Kd) (w : Wd) (r : Int32) : Array Value → State → Outcome → State → Prop := va_Qi (fun x (_ : Unit) => x = r) (fun _ t => HP E K w t.heap) (hA E)
theorem MetH_ofW {l : Launch} {y : MethodName} {ws ws' : List Cond} {rm : Room} {Pc : Array Value → State → Prop} {Qc : Array Value → State → Outcome → State → Prop} {mc ms : Nat} {free : Addr → Prop} {cc : ByteArray} {maxL : Nat} {ret : Option FieldType} {hh : List (Nat × Nat × Nat × Nat)}
    (hy : plainName y.cls = true) (hw : ws = Cond.codeWith y cc maxL ret hh :: ws')
    (body : ∀ p e s m args below meth c s₁, BodyLoose p l y (headSpec ws rm) cc maxL ret e s m args below meth c s₁ → c.maxLocals = maxL → c.exceptionTable.toList = tableOf hh → Pc args s →
      W p l e (headSpec ws rm).room s m args below meth c s.heap [] 0 0 (MQ below Qc args s mc ms free) (entryFrame m args maxL)) : Met l y ws rm Pc Qc mc ms free := by
  refine MetFree.of_bodyS (code := cc) (maxLocals := maxL) (ret := ret) hy ?_ ?_
  · intro args s m h hn
    obtain ⟨m9, meth, c, hn9, h1, h2, h3, h4, -, h5, h6, -⟩ := Cond.codeWith_spec (atoms_spec (ws := ws) h _ (by rw [hw]; exact List.mem_cons_self))
    cases hn.symm.trans hn9
    exact ⟨meth, c, h1, h2, h3, h4, h5, h6⟩
  · intro p e s m args below meth c s₁ B hml hP _
    have hh0 : s₁.heap = s.heap := by rw [B.state]; rfl
    obtain ⟨t, a1, o, b1, b2, b3⟩ := body p e s m args below meth c s₁ B hml (vx_table (x := y) B (atoms_spec (ws := ws) B.pre _ (by rw [hw]; exact List.mem_cons_self))) hP s₁ hh0 (Stand.of_body B)
    exact ⟨t, o, a1, b1, b2, ⟨b3.1, b3.2⟩⟩
theorem pass0 {α : Type} {P : α → Prop} : ∀ z ∈ ([] : List α), P z := fun _ h => nomatch h
theorem pass1 {α : Type} {P : α → Prop} {a : α} {l : List α} (h : P a) (t : ∀ z ∈ l, P z) : ∀ z ∈ a :: l, P z := fun z hz => by
  rcases List.mem_cons.mp hz with rfl | hz
  · exact h
  · exact t z hz
section CATCH
variable {p : Program} {l : Launch} {e : Env} {R : Room} {s : State} {m : MethodId} {args : Array Value} {below : List Frame} {meth : Method} {c : Code} {H : Heap} {locs : List Loc} {cells slots : Nat} {Q : State → Prop}
variable {cc : ByteArray} {pc : Nat} {ls : Array Slot} {rest : List Value} {E : Ev} {K : Kd} {z : Nat} {w : Wd}
theorem hw_wret (hexec : p.tables.exec = Jvm.exec) (hb : c.code = cc) {mc ms : Nat} (hcm : cells ≤ mc) (hsm : slots ≤ ms) (hret : meth.sig.returnType = some .int) {v r : Int32} {w' : Wd} (hf : some (v, w) = some (r, w')) (hH : HQ E K z w s H locs) (hlocks : meth.locks = false) (hdg : decode cc pc = .ok (.ireturn, 1)) : W p l e R s m args below meth c H locs cells slots (MQ below (QW E K w' r) args s mc ms (hA E)) (F0 m pc ls [.int v]) := by
  cases hf
  exact W.widen hcm hsm (W.iret hexec hb hret (fun t ht hW => ⟨⟨v, (), rfl, rfl, by show HP E K w t.heap; rw [ht]; exact hH.1⟩, hH.2.1.F ht⟩) hH.2.1.2.2 hdg hlocks)
theorem hxC_i (hexec : p.tables.exec = Jvm.exec) (hb : c.code = cc) {own : String} {nL : Nat} (hml : c.maxLocals = nL) (hown : s.vm.findClass own = some m.cls) (hts : ∀ w ∈ bt, w.before args s = true) (hKs : HK E s) (hT : HT E s s.heap) (hb0 : E.2.1 ≤ s.heap.size) (hH : HQ E K z w s H locs) {y : MethodName} {bytes : ByteArray} {maxL nn index kc ks : Nat} {ret : Option FieldType} {rm : Room} {As : List Value} {st0 : List Value} {ρ : Int32 ⊕ Nat} {w1 : Wd} {a ci : Nat} {C : String} {r : Option Nat} {q : vw_C} {fs : List Value}
    (hM : vx_Met l y (Cond.code y bytes maxL ret :: bt) rm (va_Pc (rv E (some a) :: As) (HB E K w H.size)) (XI E K H.size w1 ρ) (XX E K w1 ρ) kc ks (hA E)) (hG : GoodIn bt (wsV own index C y (Cond.code y bytes maxL ret :: bt))) (hd : y.cls = C ∧ y.cls ≠ "java/lang/invoke/MethodHandle" ∧ y.cls ≠ "java/lang/invoke/VarHandle" ∧ (parseMethodDescriptor y.desc).map (fun d => d.parameters.length) = some nn) (hR : rm.frames + 1 ≤ R.frames ∧ 8 + (maxL + 11) + rm.locals ≤ R.locals ∧ rm.cells = kc ∧ rm.slots = ks) (hr : r = some a) (hKa : K a = some (ci, 0)) (hfs : rend E w (ci, 0) a = .inr (ci, fs)) (hc : vwCl[ci]? = some q) (hq : q.1 = C) (hsz : ls.size = nL) (hn : As.length = nn) (hrm : rc 8 rest) (hst : st0 = As.reverse ++ rv E r :: rest) (hdg : decode cc pc = .ok (.invokevirtual index, 3)) (hcs : cells + kc ≤ R.cells ∧ slots + ks ≤ R.slots)
    (kx : ∀ (cd : Nat), ρ = .inr cd → ∀ (H1 : Heap) (locs1 : List Loc) (q9 : Addr) (ce : Cell), HQ E K H1.size w1 s H1 locs1 → H1[q9]? = some ce → ce.vm = .none → s.vm.findClass (exN cd) = some ce.cls → vx_W p l e R s m args below meth c H1 locs1 (cells + kc) (slots + ks) Q (F0 m pc ls rest) q9)
    (kk : ∀ (r0 : Int32), ρ = .inl r0 → ∀ (H1 : Heap) (locs1 : List Loc), HQ E K z w1 s H1 locs1 → W p l e R s m args below meth c H1 locs1 (cells + kc) (slots + ks) Q (F0 m (pc + 3) ls (.int r0 :: rest))) : W p l e R s m args below meth c H locs cells slots Q (F0 m pc ls st0) := by
  subst hr
  subst hst
  subst hq
  refine vx_calli (vx_runV (As := As) (rest := rest) ⟨hexec, hb, hml, hown, hts⟩ hM (cwV nn hts hG rfl hR.2.2.1 hR.2.2.2 hd ⟨hR.1, hR.2.1⟩) ⟨HB.blind, hH.1.recv hKs hKa hfs hc, HB.pre hKs hT hb0 hH⟩ rfl hn hsz rfl (lv_room hrm) hdg hcs) hH.2.1 (fun q _ h => h) (fun q h => h) (fun q _ h => h) (fun Es ce q9 u t H1 locs1 ht hvm hp hB hz hk hS hce hv hcl => ?_) (fun x u t H1 locs1 ht hvm hp hB hz hk hS => ?_)
  · obtain ⟨g1, g2⟩ := hB
    subst g1
    exact kx u hp H1 locs1 q9 ce ⟨by rw [← ht]; exact g2, hS, rfl⟩ hce hv hcl
  · exact kk x hp H1 locs1 ⟨by rw [← ht]; exact hB.2, hS, by rw [← ht]; exact hB.1.trans hH.2.2⟩
theorem hxC_z (hexec : p.tables.exec = Jvm.exec) (hb : c.code = cc) {own : String} {nL : Nat} (hml : c.maxLocals = nL) (hown : s.vm.findClass own = some m.cls) (hts : ∀ w ∈ bt, w.before args s = true) (hKs : HK E s) (hT : HT E s s.heap) (hb0 : E.2.1 ≤ s.heap.size) (hH : HQ E K z w s H locs) {y : MethodName} {bytes : ByteArray} {maxL nn index kc ks : Nat} {ret : Option FieldType} {rm : Room} {As : List Value} {st0 : List Value} {ρ : Bool ⊕ Nat} {w1 : Wd} {a ci : Nat} {C : String} {r : Option Nat} {q : vw_C} {fs : List Value}
    (hM : vx_Met l y (Cond.code y bytes maxL ret :: bt) rm (va_Pc (rv E (some a) :: As) (HB E K w H.size)) (XZ E K H.size w1 ρ) (XX E K w1 ρ) kc ks (hA E)) (hG : GoodIn bt (wsV own index C y (Cond.code y bytes maxL ret :: bt))) (hd : y.cls = C ∧ y.cls ≠ "java/lang/invoke/MethodHandle" ∧ y.cls ≠ "java/lang/invoke/VarHandle" ∧ (parseMethodDescriptor y.desc).map (fun d => d.parameters.length) = some nn) (hR : rm.frames + 1 ≤ R.frames ∧ 8 + (maxL + 11) + rm.locals ≤ R.locals ∧ rm.cells = kc ∧ rm.slots = ks) (hr : r = some a) (hKa : K a = some (ci, 0)) (hfs : rend E w (ci, 0) a = .inr (ci, fs)) (hc : vwCl[ci]? = some q) (hq : q.1 = C) (hsz : ls.size = nL) (hn : As.length = nn) (hrm : rc 8 rest) (hst : st0 = As.reverse ++ rv E r :: rest) (hdg : decode cc pc = .ok (.invokevirtual index, 3)) (hcs : cells + kc ≤ R.cells ∧ slots + ks ≤ R.slots)
    (kx : ∀ (cd : Nat), ρ = .inr cd → ∀ (H1 : Heap) (locs1 : List Loc) (q9 : Addr) (ce : Cell), HQ E K H1.size w1 s H1 locs1 → H1[q9]? = some ce → ce.vm = .none → s.vm.findClass (exN cd) = some ce.cls → vx_W p l e R s m args below meth c H1 locs1 (cells + kc) (slots + ks) Q (F0 m pc ls rest) q9)
    (kk : ∀ (r0 : Bool), ρ = .inl r0 → ∀ (H1 : Heap) (locs1 : List Loc), HQ E K z w1 s H1 locs1 → W p l e R s m args below meth c H1 locs1 (cells + kc) (slots + ks) Q (F0 m (pc + 3) ls (.int (b2i r0) :: rest))) : W p l e R s m args below meth c H locs cells slots Q (F0 m pc ls st0) := by
  subst hr
  subst hst
  subst hq
  refine vx_calli (vx_runV (As := As) (rest := rest) ⟨hexec, hb, hml, hown, hts⟩ hM (cwV nn hts hG rfl hR.2.2.1 hR.2.2.2 hd ⟨hR.1, hR.2.1⟩) ⟨HB.blind, hH.1.recv hKs hKa hfs hc, HB.pre hKs hT hb0 hH⟩ rfl hn hsz rfl (lv_room hrm) hdg hcs) hH.2.1 (fun q _ h => h) (fun q h => h) (fun q _ h => h) (fun Es ce q9 u t H1 locs1 ht hvm hp hB hz hk hS hce hv hcl => ?_) (fun x u t H1 locs1 ht hvm hp hB hz hk hS => ?_)
  · obtain ⟨g1, g2⟩ := hB
    subst g1
    exact kx u hp H1 locs1 q9 ce ⟨by rw [← ht]; exact g2, hS, rfl⟩ hce hv hcl
  · rw [hp.1]; exact kk u hp.2 H1 locs1 ⟨by rw [← ht]; exact hB.2, hS, by rw [← ht]; exact hB.1.trans hH.2.2⟩
theorem hxC_f (hexec : p.tables.exec = Jvm.exec) (hb : c.code = cc) {own : String} {nL : Nat} (hml : c.maxLocals = nL) (hown : s.vm.findClass own = some m.cls) (hts : ∀ w ∈ bt, w.before args s = true) (hKs : HK E s) (hT : HT E s s.heap) (hb0 : E.2.1 ≤ s.heap.size) (hH : HQ E K z w s H locs) {y : MethodName} {bytes : ByteArray} {maxL nn index kc ks : Nat} {ret : Option FieldType} {rm : Room} {As : List Value} {st0 : List Value} {ρ : UInt32 ⊕ Nat} {w1 : Wd} {a ci : Nat} {C : String} {r : Option Nat} {q : vw_C} {fs : List Value}
    (hM : vx_Met l y (Cond.code y bytes maxL ret :: bt) rm (va_Pc (rv E (some a) :: As) (HB E K w H.size)) (XF E K H.size w1 ρ) (XX E K w1 ρ) kc ks (hA E)) (hG : GoodIn bt (wsV own index C y (Cond.code y bytes maxL ret :: bt))) (hd : y.cls = C ∧ y.cls ≠ "java/lang/invoke/MethodHandle" ∧ y.cls ≠ "java/lang/invoke/VarHandle" ∧ (parseMethodDescriptor y.desc).map (fun d => d.parameters.length) = some nn) (hR : rm.frames + 1 ≤ R.frames ∧ 8 + (maxL + 11) + rm.locals ≤ R.locals ∧ rm.cells = kc ∧ rm.slots = ks) (hr : r = some a) (hKa : K a = some (ci, 0)) (hfs : rend E w (ci, 0) a = .inr (ci, fs)) (hc : vwCl[ci]? = some q) (hq : q.1 = C) (hsz : ls.size = nL) (hn : As.length = nn) (hrm : rc 8 rest) (hst : st0 = As.reverse ++ rv E r :: rest) (hdg : decode cc pc = .ok (.invokevirtual index, 3)) (hcs : cells + kc ≤ R.cells ∧ slots + ks ≤ R.slots)
    (kx : ∀ (cd : Nat), ρ = .inr cd → ∀ (H1 : Heap) (locs1 : List Loc) (q9 : Addr) (ce : Cell), HQ E K H1.size w1 s H1 locs1 → H1[q9]? = some ce → ce.vm = .none → s.vm.findClass (exN cd) = some ce.cls → vx_W p l e R s m args below meth c H1 locs1 (cells + kc) (slots + ks) Q (F0 m pc ls rest) q9)
    (kk : ∀ (r0 : UInt32), ρ = .inl r0 → ∀ (H1 : Heap) (locs1 : List Loc), HQ E K z w1 s H1 locs1 → W p l e R s m args below meth c H1 locs1 (cells + kc) (slots + ks) Q (F0 m (pc + 3) ls (.float r0 :: rest))) : W p l e R s m args below meth c H locs cells slots Q (F0 m pc ls st0) := by
  subst hr
  subst hst
  subst hq
  refine vx_callf (vx_runV (As := As) (rest := rest) ⟨hexec, hb, hml, hown, hts⟩ hM (cwV nn hts hG rfl hR.2.2.1 hR.2.2.2 hd ⟨hR.1, hR.2.1⟩) ⟨HB.blind, hH.1.recv hKs hKa hfs hc, HB.pre hKs hT hb0 hH⟩ rfl hn hsz rfl (lv_room hrm) hdg hcs) hH.2.1 (fun q _ h => h) (fun q h => h) (fun q _ h => h) (fun Es ce q9 u t H1 locs1 ht hvm hp hB hz hk hS hce hv hcl => ?_) (fun x u t H1 locs1 ht hvm hp hB hz hk hS => ?_)
  · obtain ⟨g1, g2⟩ := hB
    subst g1
    exact kx u hp H1 locs1 q9 ce ⟨by rw [← ht]; exact g2, hS, rfl⟩ hce hv hcl
  · exact kk x hp H1 locs1 ⟨by rw [← ht]; exact hB.2, hS, by rw [← ht]; exact hB.1.trans hH.2.2⟩
end CATCH
