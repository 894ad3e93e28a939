variable {X : Kd}
def TX (n : Nat) (bf : Nat → Int32) : Prop := n ≤ 900 ∧ ∀ k, k < n → -128 ≤ (bf k).toInt ∧ (bf k).toInt ≤ 127
def hashU (n : Nat) (bf : Nat → Int32) (k : Nat) : Int32 := if k < n then nI (cdF (bf k)) else -1
theorem hashU_eq {n k c : Nat} {bf : Nat → Int32} (hT : TX n bf) (hc : c < 2000) : hashU n bf k = nI c ↔ k < n ∧ cdF (bf k) = c := by
  unfold hashU
  by_cases e : k < n
  · have h1 := (byte_cs (hT.2 k e)).1
    rw [if_pos e, nI_eq (by omega) (by omega)]
    exact ⟨fun q => ⟨e, q⟩, fun q => q.2⟩
  · rw [if_neg e]
    exact ⟨fun q => absurd q (neg1_eq (a := c) (by omega)), fun q => absurd q.1 e⟩
theorem hashU_m1 {n k : Nat} {bf : Nat → Int32} (hT : TX n bf) : hashU n bf k = -1 ↔ ¬ k < n := by
  unfold hashU
  by_cases e : k < n
  · have h1 := (byte_cs (hT.2 k e)).1
    rw [if_pos e]
    exact ⟨fun q => absurd q.symm (neg1_eq (a := cdF (bf k)) (by omega)), fun q => absurd e q⟩
  · rw [if_neg e]
    exact ⟨fun _ => e, fun _ => rfl⟩
def kwN (l : List Nat) : Option Nat := fstF (fun i => decide (kwL i = l)) 0 16
theorem ls_eq {bf : Nat → Int32} {st d : Nat} {l : List Nat} (hl : ∀ k, k < d → ltr (cdF (bf (st + k))) = true) : l = lts bf st d ↔ l.length = d ∧ ∀ u, u < d → cdF (bf (st + u)) = 96 + l.getD u 0 := by
  have hg : ∀ k, k < d → 97 ≤ cdF (bf (st + k)) := fun k hk => by
    have := hl k hk
    unfold ltr at this
    exact (of_decide_eq_true this).1
  constructor
  · intro q
    subst q
    refine ⟨lts_len, fun u hu => ?_⟩
    rw [lts_get hu]
    have := hg u hu
    omega
  · rintro ⟨h1, h2⟩
    apply List.ext_getElem
    · rw [lts_len]; exact h1
    · intro u h3 h4
      have h5 := h2 u (by omega)
      have h6 := lts_get (bf := bf) (q := st) (d := d) (j := u) (by omega)
      have g3 : l.getD u 0 = l[u] := by simp [List.getD, h3]
      have g4 : (lts bf st d).getD u 0 = (lts bf st d)[u] := by simp [List.getD, h4]
      rw [g3] at h5
      rw [g4] at h6
      have := hg u (by omega)
      omega
