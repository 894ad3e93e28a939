variable {X : Kd}
theorem Off.fr {P : Nat → Prop} {w w' : Wd} (h : Off P w w') : Fr (fun _ x => P x) P w w' := ⟨fun f x q => ⟨(h.2.2 x q).1 f, by rw [h.1], (h.2.2 x q).2.1 f⟩, fun x q => ⟨(h.2.2 x q).2.2.2.1, (h.2.2 x q).2.2.2.2.1, by rw [h.2.1]⟩⟩
def PSx (w : Wd) (b : Nat) : Prop := ∃ b2, b2 ∈ SU ∧ b2 ≠ b ∧ wR w 501 36 = some b2
def BFx (w : Wd) (n : Nat) (bf : Nat → Int32) : Prop := wI w 1201 0 = nI n ∧ ∀ k, k < n → aI w 35 k = bf k
def BFp (n : Nat) (bf : Nat → Int32) : Prop := n ≤ 900 ∧ ∀ k, k < n → -128 ≤ (bf k).toInt ∧ (bf k).toInt ≤ 127
def OTx (w : Wd) (n : Nat) (ot : Nat → Int32) : Prop := wI w 1215 0 = nI n ∧ ∀ k, k < n → aI w 414 k = ot k
/-- a name's letters, packed in two ways -/
def pkX (l : List Nat) : Nat := l.foldl (fun n c => 256 * n + (96 + c)) 0
def pkM (l : List Nat) : Nat := l.foldl (fun n c => 27 * n + c) 0
def NmOK (l : List Nat) : Prop := 1 ≤ l.length ∧ l.length ≤ 8 ∧ ∀ c, c ∈ l → 1 ≤ c ∧ c ≤ 26
def NMx (w : Wd) (b : Nat) (s : Nat → Nat) (nm : Nat → Nat → List Nat) : Prop := ∀ k i, k < 4 → i < s k → aJ w (b + 15 + 2 * k) i = Int64.ofNat (pkX (nm k i))
/-- the class's answer, then the reference's -/
def Rs {α : Type} (E : Nat → Int32 → Prop) (r : α ⊕ Nat) (v : α) (c : Int32) : Prop := match r with
  | .inl a => a = v ∧ c = 0
  | .inr e => E e c
def TSx (f x : Nat) : Prop := (133 ≤ x ∧ x < 163) ∨ (404 ≤ x ∧ x < 414)
def TAx (x : Nat) : Prop := (133 ≤ x ∧ x < 163) ∨ (404 ≤ x ∧ x < 414)
