/-! What holds between the calls. -/
theorem Off.fr {P : Nat → Prop} {w w' : Wd} (h : Off P w w') : Fr (fun _ x => P x) P w w' := ⟨fun f x q => ⟨(h.2.2 x q).1 f, by rw [h.1], (h.2.2 x q).2.1 f⟩, fun x q => ⟨(h.2.2 x q).2.2.2.1, (h.2.2 x q).2.2.2.2.1, by rw [h.2.1]⟩⟩
def HS (w : Wd) (b : Nat) (s : Nat → Nat) : Prop := ∃ m hs, HSx w b s m hs ∧ HSm w s m hs
def SV (w : Wd) (b : Nat) (s : Nat → Nat) : Prop := ∃ v st, SVx w b s v st ∧ SVm w s v st
def PSx (w : Wd) (b : Nat) : Prop := ∃ b2, b2 ∈ SU ∧ b2 ≠ b ∧ wR w 501 36 = some b2
def BFx (w : Wd) (n : Nat) (bf : Nat → Int32) : Prop := wI w 1201 0 = nI n ∧ ∀ k, k < n → aI w 35 k = bf k
def BFm (w : Wd) (n : Nat) (bf : Nat → Int32) : Prop := wI w 1324 415 = nI n ∧ ∀ k, k < n → aI w 431 k = bf k
def BFp (n : Nat) (bf : Nat → Int32) : Prop := n ≤ 900 ∧ ∀ k, k < n → -128 ≤ (bf k).toInt ∧ (bf k).toInt ≤ 127
def BF (w : Wd) : Prop := ∃ n bf, BFp n bf ∧ BFx w n bf ∧ BFm w n bf
def OTx (w : Wd) (n : Nat) (ot : Nat → Int32) : Prop := wI w 1215 0 = nI n ∧ ∀ k, k < n → aI w 414 k = ot k
def OTm (w : Wd) (n : Nat) (ot : Nat → Int32) : Prop := wI w 1338 415 = nI n ∧ ∀ k, k < n → aI w 436 k = ot k
def OT (w : Wd) : Prop := ∃ n ot, n ≤ 348 ∧ OTx w n ot ∧ OTm w n ot
def ER (w : Wd) : Prop := wI w 1203 0 = wI w 1331 415 ∧ wI w 1204 0 = wI w 1332 415
/-- a name's letters, packed in two ways -/
def pkX (l : List Nat) : Nat := l.foldl (fun n c => 256 * n + (96 + c)) 0
def pkM (l : List Nat) : Nat := l.foldl (fun n c => 27 * n + c) 0
def NmOK (l : List Nat) : Prop := 1 ≤ l.length ∧ l.length ≤ 8 ∧ ∀ c, c ∈ l → 1 ≤ c ∧ c ≤ 26
def NMx (w : Wd) (b : Nat) (s : Nat → Nat) (nm : Nat → Nat → List Nat) : Prop := ∀ k i, k < 4 → i < s k → aJ w (b + 15 + 2 * k) i = Int64.ofNat (pkX (nm k i))
def NMm (w : Wd) (s : Nat → Nat) (nm : Nat → Nat → List Nat) : Prop := ∀ k i, k < 4 → i < s k → aJ w (424 + k) i = Int64.ofNat (pkM (nm k i))
def NM (w : Wd) (b : Nat) (s : Nat → Nat) : Prop := ∃ nm : Nat → Nat → List Nat, (∀ k i, k < 4 → i < s k → NmOK (nm k i)) ∧ NMx w b s nm ∧ NMm w s nm
def Otr (w : Wd) (b : Nat) (s : Nat → Nat) : Prop := PSx w b ∧ BF w ∧ OT w ∧ ER w ∧ NM w b s
def Cor (w : Wd) (b : Nat) (s t : Nat → Nat) : Prop := HX w 73 b s t ∧ HM w s t ∧ POK s t ∧ wI w 1315 415 = -nI 1
def Inv (w : Wd) : Prop := ∃ b s t, Cor w b s t ∧ HS w b s ∧ SV w b s ∧ Otr w b s
theorem Otr.fr {S : Nat → Nat → Prop} {A : Nat → Prop} {w w' : Wd} {b : Nat} {s : Nat → Nat} (h : Otr w b s) (hb : b ∈ SU) (k : Fr S A w w') (hS : ∀ f x, S f x → x ≠ 36 ∧ (x = 0 → f = 1210 ∨ f = 1207) ∧ (x = 415 → f < 1320)) (hA : ∀ x, A x → 73 ≤ x ∧ x ≠ 414 ∧ (x < 424 ∨ 428 ≤ x) ∧ x ≠ 431 ∧ x ≠ 436) : Otr w' b s := by
  obtain ⟨⟨b2, p1, p2, p3⟩, ⟨n, bf, q1, q2, q3⟩, ⟨n2, ot, r1, r2, r3⟩, e, nm, n3, n4, n5⟩ := h
  have ub := SU_rg hb
  have g0 : ∀ f, f ≠ 1210 → f ≠ 1207 → wI w' f 0 = wI w f 0 := fun f f1 f2 => (k.1 f 0 (fun q => by have := (hS f 0 q).2.1 rfl; omega)).1
  have g1 : ∀ f, 1320 ≤ f → wI w' f 415 = wI w f 415 := fun f f1 => (k.1 f 415 (fun q => by have := (hS f 415 q).2.2 rfl; omega)).1
  have a1 : ∀ x, x < 73 ∨ x = 414 ∨ (424 ≤ x ∧ x < 428) ∨ x = 431 ∨ x = 436 → ¬ A x := fun x hx q => by have := hA x q; omega
  refine ⟨⟨b2, p1, p2, by rw [(k.1 501 36 (fun q => (hS _ _ q).1 rfl)).2.1]; exact p3⟩, ⟨n, bf, q1, ⟨by rw [g0 _ (by omega) (by omega)]; exact q2.1, fun i hi => by rw [(k.2 35 (a1 _ (by omega))).1]; exact q2.2 i hi⟩, by rw [g1 _ (by omega)]; exact q3.1, fun i hi => by rw [(k.2 431 (a1 _ (by omega))).1]; exact q3.2 i hi⟩, ⟨n2, ot, r1, ⟨by rw [g0 _ (by omega) (by omega)]; exact r2.1, fun i hi => by rw [(k.2 414 (a1 _ (by omega))).1]; exact r2.2 i hi⟩, by rw [g1 _ (by omega)]; exact r3.1, fun i hi => by rw [(k.2 436 (a1 _ (by omega))).1]; exact r3.2 i hi⟩, ⟨by rw [g0 _ (by omega) (by omega), g1 _ (by omega)]; exact e.1, by rw [g0 _ (by omega) (by omega), g1 _ (by omega)]; exact e.2⟩, nm, n3, fun x i hx hi => ?_, fun x i hx hi => ?_⟩
  · rw [(k.2 (b + 15 + 2 * x) (a1 _ (by omega))).2.1]; exact n4 x i hx hi
  · rw [(k.2 (424 + x) (a1 _ (by omega))).2.1]; exact n5 x i hx hi
/-- the class's answer, then the reference's -/
def Rs {α : Type} (E : Nat → Int32 → Prop) (r : α ⊕ Nat) (v : α) (c : Int32) : Prop := match r with
  | .inl a => a = v ∧ c = 0
  | .inr e => E e c
def A437 (x : Nat) : Prop := x = 437
def Both {α : Type} (X : Wd → Option ((α ⊕ Nat) × Wd)) (M : Wd → Option (α × Wd)) (E : Nat → Int32 → Prop) (w : Wd) : Prop :=
  ∃ r w1, X w = some (r, w1) ∧ ∀ w2, Fr NS A437 w1 w2 → ∃ v w3, M w2 = some (v, w3) ∧ Inv w3 ∧ aJ w3 437 = aJ w2 437 ∧ Rs E r v (wI w3 1300 415)
def TSx (f x : Nat) : Prop := (133 ≤ x ∧ x < 163) ∨ (404 ≤ x ∧ x < 414)
def TAx (x : Nat) : Prop := (133 ≤ x ∧ x < 163) ∨ (404 ≤ x ∧ x < 414)
def TSm (f x : Nat) : Prop := x = 415 ∧ (f = 1300 ∨ (1315 ≤ f ∧ f < 1320))
def TAm (x : Nat) : Prop := (417 ≤ x ∧ x < 422) ∨ (428 ≤ x ∧ x < 431)
/-- a call that changes nothing -/
theorem Both.q {α : Type} {X : Wd → Option ((α ⊕ Nat) × Wd)} {M : Wd → Option (α × Wd)} {E : Nat → Int32 → Prop} {w : Wd} (h : Inv w) (H : ∀ b s t, HX w 73 b s t → HM w s t → POK s t → wI w 1315 415 = -nI 1 → ∃ r w1, X w = some (r, w1) ∧ Fr TSx TAx w w1 ∧ FX w1 ∧ ∀ w2, HM w2 s t → wI w2 1315 415 = -nI 1 → ∃ v w3, M w2 = some (v, w3) ∧ Fr TSm TAm w2 w3 ∧ HM w3 s t ∧ wI w3 1315 415 = -nI 1 ∧ Rs E r v (wI w3 1300 415)) : Both X M E w := by
  obtain ⟨b, s, t, ⟨c1, c2, c3, c4⟩, ⟨m, hs, p1, p2⟩, ⟨v, st, q1, q2⟩, o⟩ := h
  obtain ⟨r, w1, e1, r1, f1, k⟩ := H b s t c1 c2 c3 c4
  refine ⟨r, w1, e1, fun w2 r2 => ?_⟩
  have f2 : FX w2 := f1.fr r2 (fun p _ q => q) (fun p hp q => (by decide +kernel : ∀ p, p ∈ fet → p.1 ≠ 437) p hp q)
  have r12 : Fr TSx (fun x => TAx x ∨ x = 437) w w2 := (r1.mono (fun _ _ q => q) (fun _ q => Or.inl q)).trans (r2.mono (fun _ _ q => q.elim) (fun _ q => Or.inr q))
  obtain ⟨v2, w3, e3, r3, h3, g3, rs⟩ := k w2 (c2.fr r12 f2 (by unfold TAx; omega) (by unfold TAx; omega)) (by rw [(r12.1 1315 415 (by unfold TSx; omega)).1]; exact c4)
  have ub := SU_rg c1.2.1.2.1
  have r13 : Fr (fun f x => TSx f x ∨ TSm f x) (fun x => TAx x ∨ x = 437 ∨ TAm x) w w3 := (r12.mono (fun _ _ q => Or.inl q) (fun _ q => q.elim Or.inl (fun z => Or.inr (Or.inl z)))).trans (r3.mono (fun _ _ q => Or.inr q) (fun _ q => Or.inr (Or.inr q)))
  refine ⟨v2, w3, e3, ⟨b, s, t, ⟨c1.fr r13 h3.1 (fun f x q => ?_) (fun x q => ?_), h3, c3, g3⟩, ⟨m, hs, p1.fr c1.2.1.2.1 r13 h3.1 (fun f x q => ?_) (fun x q => ?_), p2.fr r13 (by unfold TSx TSm; omega) (by unfold TAx TAm; omega)⟩, ⟨v, st, q1.fr c1.2.1.2.1 r13 h3.1 (fun f x q => ?_) (fun x q => ?_), q2.fr r13 (by unfold TSx TSm; omega) (by unfold TAx TAm; omega)⟩, o.fr c1.2.1.2.1 r13 (fun f x q => ?_) (fun x q => ?_)⟩, (r3.2 437 (by unfold TAm; omega)).2.1, rs⟩
  all_goals first | unfold TSx TSm at q | unfold TAx TAm at q
  all_goals try unfold RG RB
  all_goals try unfold inU
  all_goals omega
