variable {X : Kd}
theorem x_copyD {w : Wd} (h : FX w) {a c : Nat} (ha : a ∈ SA) (hc : c ∈ SA) (hac : a ≠ c) : ∃ w', f_X2_copyFrom (Kx X) (a + 1) (wR w 1002 c) w = some w' ∧ Ofi (fun _ x => x = a + 1) (fun x => x = a + 2) w w' ∧ wI w' 201 (a + 1) = wI w 201 (c + 1) ∧ ∀ k, k < 19 → aI w' (a + 2) k = aI w (c + 2) k := by
  unfold f_X2_copyFrom
  rw [t1002 h hc, Option.bind_some, t200 h ha, Option.bind_some, t200 h hc, Option.bind_some]
  try dsimp only
  rw [grd_ok (by omega), Option.bind_some, Option.bind_some, Option.bind_some]
  refine ⟨_, rfl, Ofi.trans (tA_ofi (S := fun _ x => x = a + 1) (A := fun x => x = a + 2) rfl) (ofi_sI (S := fun _ x => x = a + 1) (A := fun x => x = a + 2) rfl), by rw [wI_sI, if_pos ⟨rfl, rfl⟩, wI_tA], fun k hk => ?_⟩
  rw [aI_sI, aI_tA', if_pos rfl, cpy_all hk (by omega)]
theorem x_copyFrom {w : Wd} {a b c : Nat} {s t : Nat → Nat} (h : HX w c b s t) (ha : a ∈ SA) (hac : a ≠ c) : ∃ w', f_X10_copyFrom (Kx X) a (some c) w = some w' ∧ Ofi (fun _ x => RG a x) (RG a) (sR w 1000 a (wR w 1000 c)) w' ∧ HX w' a b s t := by
  have hc := h.2.1.1
  have hb := h.2.1.2.1
  have far := SA_far ha hc hac
  have hab : a + 30 ≤ b ∨ b + 34 ≤ a := (by decide : ∀ a, a ∈ SA → ∀ b, b ∈ SU → a + 30 ≤ b ∨ b + 34 ≤ a) a ha b hb
  have f1 : FX (sR w 1000 a (wR w 1000 c)) := h.1.r1000
  have i1 : ∀ f x, wI (sR w 1000 a (wR w 1000 c)) f x = wI w f x := fun _ _ => rfl
  have z1 : ∀ f x, wZ (sR w 1000 a (wR w 1000 c)) f x = wZ w f x := fun _ _ => rfl
  have a1 : ∀ x, aI (sR w 1000 a (wR w 1000 c)) x = aI w x := fun _ => rfl
  have q1 : wR (sR w 1000 a (wR w 1000 c)) 1000 a = some b := by rw [wR_sR, if_pos ⟨rfl, rfl⟩]; exact h.2.1.2.2
  unfold f_X10_copyFrom
  rw [h.ca, Option.bind_some, Option.bind_some]
  generalize sR w 1000 a (wR w 1000 c) = w1 at *
  have f2 : FX (sI w1 1001 a (wI w1 1001 c)) := f1.sI
  have o2 : Ofi (fun _ x => RG a x) (RG a) w1 (sI w1 1001 a (wI w1 1001 c)) := ofi_sI ⟨by omega, by omega⟩
  have e2 : wI (sI w1 1001 a (wI w1 1001 c)) 1001 a = wI w 1001 c := by rw [wI_sI, if_pos ⟨rfl, rfl⟩, i1]
  rw [Option.bind_some]
  generalize sI w1 1001 a (wI w1 1001 c) = w2 at *
  obtain ⟨w3, c3, o3, d3, l3⟩ := x_copyD (X := X) f2 ha hc hac
  have o3' : Ofi (fun _ x => RG a x) (RG a) w1 w3 := o2.trans (o3.mono (fun _ x q => ⟨by omega, by omega⟩) (fun x q => ⟨by omega, by omega⟩))
  have f3 := o3.FX f2
  rw [t1002 f2 ha, Option.bind_some, c3, Option.bind_some, t1003 f3 ha, Option.bind_some, t1003 f3 hc, Option.bind_some]
  try dsimp only
  rw [grd_ok (by omega), Option.bind_some, Option.bind_some]
  have src3 : ∀ x, c ≤ x → x < c + 30 → (∀ f, wI w3 f x = wI w f x) ∧ aI w3 x = aI w x := fun x x1 x2 => by
    have nr : ¬ RG a x := fun q => by have q1 := q.1; have q2 := q.2; omega
    exact ⟨fun f => (o3'.2.1 f x nr).trans (i1 f x), (o3'.2.2 x nr).trans (a1 x)⟩
  have src2 : ∀ x, c ≤ x → x < c + 30 → (∀ f, wI w2 f x = wI w f x) ∧ aI w2 x = aI w x := fun x x1 x2 => by
    have nr : ¬ RG a x := fun q => by have q1 := q.1; have q2 := q.2; omega
    exact ⟨fun f => (o2.2.1 f x nr).trans (i1 f x), (o2.2.2 x nr).trans (a1 x)⟩
  have f4 : FX (tA w3 (a + 3) (va_cpy (aI w3 (c + 3)) (aI w3 (a + 3)) (0 : Int32).toNatClampNeg (0 : Int32).toNatClampNeg (nI 12).toNatClampNeg)) := f3.tA
  have o4 : Ofi NS (fun x => x = a + 3) w3 (tA w3 (a + 3) (va_cpy (aI w3 (c + 3)) (aI w3 (a + 3)) (0 : Int32).toNatClampNeg (0 : Int32).toNatClampNeg (nI 12).toNatClampNeg)) := tA_ofi rfl
  have l4 : ∀ k, k < 12 → aI (tA w3 (a + 3) (va_cpy (aI w3 (c + 3)) (aI w3 (a + 3)) (0 : Int32).toNatClampNeg (0 : Int32).toNatClampNeg (nI 12).toNatClampNeg)) (a + 3) k = aI w (c + 3) k := fun k hk => by
    rw [aI_tA', if_pos rfl, cpy_all hk (by omega), (src3 (c + 3) (by omega) (by omega)).2]
  generalize tA w3 (a + 3) (va_cpy (aI w3 (c + 3)) (aI w3 (a + 3)) (0 : Int32).toNatClampNeg (0 : Int32).toNatClampNeg (nI 12).toNatClampNeg) = w4 at *
  have o4' : Ofi (fun _ x => RG a x) (RG a) w1 w4 := o3'.trans (o4.mono (fun _ x q => q.elim) (fun x q => ⟨by omega, by omega⟩))
  have src4 : ∀ x, c ≤ x → x < c + 30 → (∀ f, wI w4 f x = wI w f x) ∧ aI w4 x = aI w x := fun x x1 x2 => by
    have nr : ¬ RG a x := fun q => by have q1 := q.1; have q2 := q.2; omega
    exact ⟨fun f => (o4'.2.1 f x nr).trans (i1 f x), (o4'.2.2 x nr).trans (a1 x)⟩
  rw [t1004 f4 ha, Option.bind_some, t1004 f4 hc, Option.bind_some]
  try dsimp only
  rw [grd_ok (by omega), Option.bind_some, Option.bind_some]
  have f5 : FX (tA w4 (a + 4) (va_cpy (aI w4 (c + 4)) (aI w4 (a + 4)) (0 : Int32).toNatClampNeg (0 : Int32).toNatClampNeg (nI 12).toNatClampNeg)) := f4.tA
  have o5 : Ofi NS (fun x => x = a + 4) w4 (tA w4 (a + 4) (va_cpy (aI w4 (c + 4)) (aI w4 (a + 4)) (0 : Int32).toNatClampNeg (0 : Int32).toNatClampNeg (nI 12).toNatClampNeg)) := tA_ofi rfl
  have l5 : ∀ k, k < 12 → aI (tA w4 (a + 4) (va_cpy (aI w4 (c + 4)) (aI w4 (a + 4)) (0 : Int32).toNatClampNeg (0 : Int32).toNatClampNeg (nI 12).toNatClampNeg)) (a + 4) k = aI w (c + 4) k := fun k hk => by
    rw [aI_tA', if_pos rfl, cpy_all hk (by omega), (src4 (c + 4) (by omega) (by omega)).2]
  generalize tA w4 (a + 4) (va_cpy (aI w4 (c + 4)) (aI w4 (a + 4)) (0 : Int32).toNatClampNeg (0 : Int32).toNatClampNeg (nI 12).toNatClampNeg) = w5 at *
  have o5' : Ofi (fun _ x => RG a x) (RG a) w1 w5 := o4'.trans (o5.mono (fun _ x q => q.elim) (fun x q => ⟨by omega, by omega⟩))
  have src5 : ∀ x, c ≤ x → x < c + 30 → (∀ f, wI w5 f x = wI w f x) ∧ aI w5 x = aI w x := fun x x1 x2 => by
    have nr : ¬ RG a x := fun q => by have q1 := q.1; have q2 := q.2; omega
    exact ⟨fun f => (o5'.2.1 f x nr).trans (i1 f x), (o5'.2.2 x nr).trans (a1 x)⟩
  have es : EqS w w5 a c := by
    refine ⟨?_, ?_, fun k hk => ?_, fun k hk => ?_, l5⟩
    · rw [o5.2.1 _ _ (fun q => q), o4.2.1 _ _ (fun q => q), o3.2.1 _ _ (by omega)]; exact e2
    · rw [o5.2.1 _ _ (fun q => q), o4.2.1 _ _ (fun q => q), d3, (src2 (c + 1) (by omega) (by omega)).1]
    · rw [o5.2.2 _ (by omega), o4.2.2 _ (by omega), l3 k hk, (src2 (c + 2) (by omega) (by omega)).2]
    · rw [o5.2.2 _ (by omega), l4 k hk]
  obtain ⟨w6, e6, o6, s6, p6⟩ := x_copyL (X := X) f5 ha hc hac src5 es
  have o6' := o5'.trans o6
  refine ⟨w6, e6, o6', o6'.FX f1, ⟨ha, hb, by rw [o6'.1.1]; exact q1⟩, ?_, h.2.2.2.1.eqs h.gs h.gt s6 p6, h.gs, h.gt⟩
  have hs := h.gs.1
  have nr : ∀ x, b ≤ x → x < b + 34 → ¬ RG a x := fun x x1 x2 q => by have q1 := q.1; have q2 := q.2; omega
  have wi : ∀ f x, b ≤ x → x < b + 34 → wI w6 f x = wI w f x := fun f x x1 x2 => (o6'.2.1 f x (nr x x1 x2)).trans (i1 f x)
  have ai : ∀ x, b ≤ x → x < b + 34 → aI w6 x = aI w x := fun x x1 x2 => (o6'.2.2 x (nr x x1 x2)).trans (a1 x)
  have wz : ∀ f x, wZ w6 f x = wZ w f x := fun f x => by rw [o6'.1.2.2.1]; exact z1 f x
  obtain ⟨u1, u2, u3, u4, u5, u6, u7, u8⟩ := h.2.2.1
  refine ⟨fun k hk => ?_, fun r hr => ?_, fun p hp => ?_, fun p hp k hk => ?_, fun p hp => ?_, fun p hp => ?_, fun k hk => ?_, ?_⟩
  · rw [wi _ _ (by omega) (by omega)]; exact u1 k hk
  · rw [ai _ (by omega) (by omega)]; exact u2 r hr
  · rw [ai _ (by omega) (by omega)]; exact u3 p hp
  · rw [ai (b + 4) (by omega) (by omega), ai (b + 5) (by omega) (by omega)]; exact u4 p hp k hk
  · rw [ai (b + 6) (by omega) (by omega), ai (b + 8) (by omega) (by omega), ai (b + 9) (by omega) (by omega)]; exact u5 p hp
  · rw [wi 300 _ (by omega) (by omega), wi 301 _ (by omega) (by omega), wi 302 _ (by omega) (by omega), wz, wi 304 _ (by omega) (by omega), wi 305 _ (by omega) (by omega)]; exact u6 p hp
  · rw [ai _ (by omega) (by omega)]; exact u7 k hk
  · rw [wi _ _ (by omega) (by omega)]; exact u8

