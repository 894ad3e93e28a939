variable {X : Kd}
def BD (c s : Nat → Nat) : Prop := (s 0 ≤ 3 ∧ s 1 ≤ 6 ∧ s 2 ≤ 12 ∧ s 3 ≤ 12) ∧ (∀ o, o < 6 → s (10 + o) ≤ 3) ∧ c 4 ≤ 12
theorem tld_c {s s2 : Nat → Nat} (h : ∀ k, k < 4 → s2 (166 + k) = s (166 + k)) : tld s2 = tld s := by
  unfold tld
  simp only [orS]
  rw [h 0 (by omega), h 1 (by omega), h 2 (by omega), h 3 (by omega)]
theorem wI_tJ' {w : Wd} {a i : Nat} {v : Int64} : wI (tJ w a i v) = wI w := rfl
theorem isHol_e {t t2 : Nat → Nat} (h1 : t 1 ≤ 20) (h : ∀ x, x < 22 → t2 x = t x) {d : Nat} : isHol t2 d = isHol t d := by
  unfold isHol
  rw [h 1 (by omega)]
  refine Bool.eq_iff_iff.mpr ?_
  rw [anyF_iff, anyF_iff]
  constructor
  · rintro ⟨k, k1, k2, k3⟩
    rw [h _ (by omega)] at k3
    exact ⟨k, k1, k2, k3⟩
  · rintro ⟨k, k1, k2, k3⟩
    refine ⟨k, k1, k2, ?_⟩
    rw [h _ (by omega)]
    exact k3
def nmU (nm : Nat → Nat → List Nat) (k i : Nat) (l : List Nat) : Nat → Nat → List Nat := fun k2 i2 => if k2 = k ∧ i2 = i then l else nm k2 i2
theorem nmU_eq {nm : Nat → Nat → List Nat} {k i : Nat} {l : List Nat} : nmU nm k i l k i = l := if_pos ⟨rfl, rfl⟩
theorem nmU_ne {nm : Nat → Nat → List Nat} {k i k2 i2 : Nat} {l : List Nat} (h : ¬ (k2 = k ∧ i2 = i)) : nmU nm k i l k2 i2 = nm k2 i2 := if_neg h
theorem XD_cg {w : Wd} {b : Nat} {c c2 s s2 t : Nat → Nat} {nm : Nat → Nat → List Nat} (h : XD w b c s t nm) (hc : ∀ k, k < 8 → c2 k = c k) (hs : ∀ k, k ≠ 1 → k ≠ 3 → s2 k = s k) (g : s 0 ≤ 3) : XD w b c2 s2 t nm := by
  obtain ⟨u1, u2, u3, u4, u5, u6, u7, u8, u9, u10, u11, u12, u13⟩ := h
  refine ⟨fun k hk => by rw [hc k (by omega)]; exact u1 k hk, fun k i hk hi => u2 k i hk (by rw [hc k (by omega)] at hi; exact hi), fun r hr => ?_, fun o ho => ⟨by rw [hs _ (by omega) (by omega)]; exact (u4 o ho).1, fun k hk => ?_⟩, fun i hi => ?_, fun i hi => ?_, fun i hi hi2 => ?_, fun i hi hi2 => ?_, fun i hi hi2 => ?_, fun i hi => ?_, fun k hk => ?_, ?_, u13⟩
  · rw [hs 0 (by omega) (by omega)] at hr
    rw [hs _ (by omega) (by omega), hs _ (by omega) (by omega)]; exact u3 r hr
  · rw [hs _ (by omega) (by omega)] at hk
    rw [hs _ (by omega) (by omega), hs _ (by omega) (by omega)]; exact (u4 o ho).2 k hk
  · rw [hc 4 (by omega)] at hi
    rw [hs _ (by omega) (by omega)]; exact u5 i hi
  · rw [hs 2 (by omega) (by omega)] at hi
    rw [hs _ (by omega) (by omega), hs _ (by omega) (by omega)]; exact u6 i hi
  · rw [hc 5 (by omega)] at hi2
    rw [hs _ (by omega) (by omega)]; exact u7 i hi hi2
  · rw [hc 6 (by omega)] at hi2
    rw [hs _ (by omega) (by omega)]; exact u8 i hi hi2
  · rw [hc 7 (by omega)] at hi2
    rw [hs _ (by omega) (by omega)]; exact u9 i hi hi2
  · rw [hs _ (by omega) (by omega), hs _ (by omega) (by omega), hs _ (by omega) (by omega)]; exact u10 i hi
  · rw [hs _ (by omega) (by omega)]; exact u11 k hk
  · rw [tld_c (fun k hk => hs _ (by omega) (by omega)), hs _ (by omega) (by omega), hs _ (by omega) (by omega)]; exact u12
theorem XD_name {w : Wd} {b : Nat} {c s t : Nat → Nat} {nm : Nat → Nat → List Nat} (hb : b ∈ SU) (h : XD w b c s t nm) (g : BD c s) {q : Nat} (hq : q < 4) (l : List Nat) : XD (sI (tJ w (b + 15 + 2 * q) (c q) (nJ (pkX l))) 401 (b + 14 + 2 * q) (nI (c q + 1))) b (ups c q (c q + 1)) (s) (t) (nmU nm q (c q) l) := by
  have ub := SU_rg hb
  obtain ⟨⟨g0, g1, g2, g3⟩, g10, g4⟩ := g
  have r : Fr (fun f x => f = 401 ∧ x = b + 14 + 2 * q) (fun x => x = b + 15 + 2 * q) w (sI (tJ w (b + 15 + 2 * q) (c q) (nJ (pkX l))) 401 (b + 14 + 2 * q) (nI (c q + 1))) := Fr.trans (fr_tJ rfl) (fr_sI ⟨rfl, rfl⟩)
  have wi : ∀ f x, ¬ (f = 401 ∧ x = b + 14 + 2 * q) → wI (sI (tJ w (b + 15 + 2 * q) (c q) (nJ (pkX l))) 401 (b + 14 + 2 * q) (nI (c q + 1))) f x = wI w f x := fun f x q => (r.1 f x q).1
  have wz : ∀ f x, ¬ (f = 401 ∧ x = b + 14 + 2 * q) → wZ (sI (tJ w (b + 15 + 2 * q) (c q) (nJ (pkX l))) 401 (b + 14 + 2 * q) (nI (c q + 1))) f x = wZ w f x := fun f x q => (r.1 f x q).2.2
  have ai : ∀ x, ¬ (x = b + 15 + 2 * q) → aI (sI (tJ w (b + 15 + 2 * q) (c q) (nJ (pkX l))) 401 (b + 14 + 2 * q) (nI (c q + 1))) x = aI w x := fun x q => (r.2 x q).1
  have aj : ∀ x, ¬ (x = b + 15 + 2 * q) → aJ (sI (tJ w (b + 15 + 2 * q) (c q) (nJ (pkX l))) 401 (b + 14 + 2 * q) (nI (c q + 1))) x = aJ w x := fun x q => (r.2 x q).2.1
  have hc : ∀ x, x ≠ q → (ups c q (c q + 1)) x = c x := fun x z => ups_ne z
  have hs : ∀ x, True → (s) x = s x := fun x q => rfl
  have ht : ∀ x, True → (t) x = t x := fun x q => rfl
  have hn : ∀ k i, ¬ (k = q ∧ i = c q) → (nmU nm q (c q) l) k i = nm k i := fun k i z => nmU_ne z
  have hh : ∀ d, isHol (t) d = isHol t d := fun d => rfl
  obtain ⟨u1, u2, u3, u4, u5, u6, u7, u8, u9, u10, u11, u12, u13⟩ := h
  refine ⟨fun k hk => ?_, fun k i hk hi => ?_, fun r hr => ?_, fun o ho => ⟨?_, fun k hk => ?_⟩, fun i hi => ?_, fun i hi => ?_, fun i hi hi2 => ?_, fun i hi hi2 => ?_, fun i hi hi2 => ?_, fun i hi => ⟨?_, ?_, ?_, ?_⟩, fun k hk => ?_, ⟨?_, ?_, ?_⟩, ⟨?_, fun d hd => ?_⟩⟩
  · by_cases e : k = q
    · rw [e, wI_sI, if_pos ⟨rfl, rfl⟩, ups_eq]
    · rw [wi _ _ (by omega), hc _ e]; exact u1 k hk
  · by_cases e : k = q
    · rw [e, ups_eq] at hi
      show (if b + 15 + 2 * k = b + 15 + 2 * q ∧ i = c q then nJ (pkX l) else aJ w (b + 15 + 2 * k) i) = _
      by_cases e2 : i = c q
      · rw [if_pos ⟨by rw [e], e2⟩, e, e2, nmU_eq]
      · rw [if_neg (fun z => e2 z.2), hn _ _ (fun z => e2 z.2)]
        exact u2 k i hk (by rw [e]; omega)
    · rw [hc _ e] at hi
      rw [aj _ (by omega), hn _ _ (fun z => e z.1)]; exact u2 k i hk hi
  · rw [hs 0 (by first | trivial | omega)] at hr; rw [ai _ (by first | trivial | omega), hs (4 + r) (by first | trivial | omega), hs (7 + r) (by first | trivial | omega)]; exact u3 r hr
  · rw [ai _ (by first | trivial | omega), hs (10 + o) (by first | trivial | omega)]; exact (u4 o ho).1
  · rw [hs (10 + o) (by first | trivial | omega)] at hk; have := g10 o ho; rw [ai (b + 4) (by first | trivial | omega), ai (b + 5) (by first | trivial | omega), hs (16 + 6 * o + 2 * k) (by first | trivial | omega), hs (17 + 6 * o + 2 * k) (by first | trivial | omega)]; exact (u4 o ho).2 k hk
  · rw [hc 4 (by first | trivial | omega)] at hi; rw [ai (b + 6) (by first | trivial | omega), ai (b + 7) (by first | trivial | omega), hs (52 + i) (by first | trivial | omega), ht (22 + i) (by first | trivial | omega)]; exact u5 i hi
  · rw [hs 2 (by first | trivial | omega)] at hi; rw [ai (b + 8) (by first | trivial | omega), ai (b + 9) (by first | trivial | omega), hs (64 + i) (by first | trivial | omega), hs (76 + i) (by first | trivial | omega)]; exact u6 i hi
  · rw [hc 5 (by first | trivial | omega)] at hi2; rw [wi 300 _ (by first | trivial | omega), hs (88 + i) (by first | trivial | omega)]; exact u7 i hi hi2
  · rw [hc 6 (by first | trivial | omega)] at hi2; rw [wi 301 _ (by first | trivial | omega), hs (100 + i) (by first | trivial | omega)]; exact u8 i hi hi2
  · rw [hc 7 (by first | trivial | omega)] at hi2; rw [wi 302 _ (by first | trivial | omega), hs (112 + i) (by first | trivial | omega)]; exact u9 i hi hi2
  · rw [wz 303 _ (by first | trivial | omega), hs (124 + i) (by first | trivial | omega)]; exact (u10 i hi).1
  · rw [wi 304 _ (by first | trivial | omega), hs (136 + i) (by first | trivial | omega)]; exact (u10 i hi).2.1
  · rw [wi 305 _ (by first | trivial | omega), hs (148 + i) (by first | trivial | omega)]; exact (u10 i hi).2.2.1
  · rw [wi 306 _ (by first | trivial | omega), ht (34 + i) (by first | trivial | omega)]; exact (u10 i hi).2.2.2
  · rw [ai _ (by first | trivial | omega), hs (160 + k) (by first | trivial | omega)]; exact u11 k hk
  · rw [wi 912 _ (by first | trivial | omega), tld_c (fun k hk => hs (166 + k) (by first | trivial | omega))]; exact u12.1
  · rw [wi 913 _ (by first | trivial | omega), hs 164 (by first | trivial | omega)]; exact u12.2.1
  · rw [wz 914 _ (by first | trivial | omega), hs 165 (by first | trivial | omega)]; exact u12.2.2
  · rw [wi 201 _ (by first | trivial | omega), ht 1 (by first | trivial | omega)]; exact u13.1
  · rw [ai _ (by first | trivial | omega), hh]; exact u13.2 d hd
theorem XD_room {w : Wd} {b : Nat} {c s t : Nat → Nat} {nm : Nat → Nat → List Nat} (hb : b ∈ SU) (h : XD w b c s t nm) (g : BD c s) (h0 : s 0 < 3) (lo hi : Nat) : XD (tI w (b + 2) (s 0) (nI (msk lo hi))) b (c) (ups (ups (ups s (4 + s 0) lo) (7 + s 0) hi) 0 (s 0 + 1)) (t) (nm) := by
  have ub := SU_rg hb
  obtain ⟨⟨g0, g1, g2, g3⟩, g10, g4⟩ := g
  have r : Fr (fun f x => False) (fun x => x = b + 2) w (tI w (b + 2) (s 0) (nI (msk lo hi))) := (ofi_tI (S := fun _ _ => False) (A := fun x => x = b + 2) rfl).fr
  have wi : ∀ f x, ¬ (False) → wI (tI w (b + 2) (s 0) (nI (msk lo hi))) f x = wI w f x := fun f x q => (r.1 f x q).1
  have wz : ∀ f x, ¬ (False) → wZ (tI w (b + 2) (s 0) (nI (msk lo hi))) f x = wZ w f x := fun f x q => (r.1 f x q).2.2
  have ai : ∀ x, ¬ (x = b + 2) → aI (tI w (b + 2) (s 0) (nI (msk lo hi))) x = aI w x := fun x q => (r.2 x q).1
  have aj : ∀ x, ¬ (x = b + 2) → aJ (tI w (b + 2) (s 0) (nI (msk lo hi))) x = aJ w x := fun x q => (r.2 x q).2.1
  have hc : ∀ x, True → (c) x = c x := fun x q => rfl
  have hs : ∀ x, (x ≠ 0 ∧ x ≠ 4 + s 0 ∧ x ≠ 7 + s 0) → (ups (ups (ups s (4 + s 0) lo) (7 + s 0) hi) 0 (s 0 + 1)) x = s x := fun x q => by rw [ups_ne (by omega), ups_ne (by omega), ups_ne (by omega)]
  have ht : ∀ x, True → (t) x = t x := fun x q => rfl
  have hn : ∀ k i, True → (nm) k i = nm k i := fun k i q => rfl
  have hh : ∀ d, isHol (t) d = isHol t d := fun d => rfl
  obtain ⟨u1, u2, u3, u4, u5, u6, u7, u8, u9, u10, u11, u12, u13⟩ := h
  refine ⟨fun k hk => ?_, fun k i hk hi => ?_, fun r hr => ?_, fun o ho => ⟨?_, fun k hk => ?_⟩, fun i hi => ?_, fun i hi => ?_, fun i hi hi2 => ?_, fun i hi hi2 => ?_, fun i hi hi2 => ?_, fun i hi => ⟨?_, ?_, ?_, ?_⟩, fun k hk => ?_, ⟨?_, ?_, ?_⟩, ⟨?_, fun d hd => ?_⟩⟩
  · rw [wi _ _ (by first | trivial | omega), hc _ (by first | trivial | omega)]; exact u1 k hk
  · rw [hc _ (by first | trivial | omega)] at hi; rw [aj _ (by first | trivial | omega), hn _ _ (by first | trivial | omega)]; exact u2 k i hk hi
  · rw [ups_eq] at hr
    rw [aI_tI]
    by_cases e : r = s 0
    · rw [if_pos ⟨rfl, e⟩, e, ups_ne (by omega), ups_ne (by omega), ups_eq, ups_ne (by omega), ups_eq]
    · rw [if_neg (fun q => e q.2), hs (4 + r) (by omega), hs (7 + r) (by omega)]; exact u3 r (by omega)
  · rw [ai _ (by first | trivial | omega), hs (10 + o) (by first | trivial | omega)]; exact (u4 o ho).1
  · rw [hs (10 + o) (by first | trivial | omega)] at hk; have := g10 o ho; rw [ai (b + 4) (by first | trivial | omega), ai (b + 5) (by first | trivial | omega), hs (16 + 6 * o + 2 * k) (by first | trivial | omega), hs (17 + 6 * o + 2 * k) (by first | trivial | omega)]; exact (u4 o ho).2 k hk
  · rw [hc 4 (by first | trivial | omega)] at hi; rw [ai (b + 6) (by first | trivial | omega), ai (b + 7) (by first | trivial | omega), hs (52 + i) (by first | trivial | omega), ht (22 + i) (by first | trivial | omega)]; exact u5 i hi
  · rw [hs 2 (by first | trivial | omega)] at hi; rw [ai (b + 8) (by first | trivial | omega), ai (b + 9) (by first | trivial | omega), hs (64 + i) (by first | trivial | omega), hs (76 + i) (by first | trivial | omega)]; exact u6 i hi
  · rw [hc 5 (by first | trivial | omega)] at hi2; rw [wi 300 _ (by first | trivial | omega), hs (88 + i) (by first | trivial | omega)]; exact u7 i hi hi2
  · rw [hc 6 (by first | trivial | omega)] at hi2; rw [wi 301 _ (by first | trivial | omega), hs (100 + i) (by first | trivial | omega)]; exact u8 i hi hi2
  · rw [hc 7 (by first | trivial | omega)] at hi2; rw [wi 302 _ (by first | trivial | omega), hs (112 + i) (by first | trivial | omega)]; exact u9 i hi hi2
  · rw [wz 303 _ (by first | trivial | omega), hs (124 + i) (by first | trivial | omega)]; exact (u10 i hi).1
  · rw [wi 304 _ (by first | trivial | omega), hs (136 + i) (by first | trivial | omega)]; exact (u10 i hi).2.1
  · rw [wi 305 _ (by first | trivial | omega), hs (148 + i) (by first | trivial | omega)]; exact (u10 i hi).2.2.1
  · rw [wi 306 _ (by first | trivial | omega), ht (34 + i) (by first | trivial | omega)]; exact (u10 i hi).2.2.2
  · rw [ai _ (by first | trivial | omega), hs (160 + k) (by first | trivial | omega)]; exact u11 k hk
  · rw [wi 912 _ (by first | trivial | omega), tld_c (fun k hk => hs (166 + k) (by first | trivial | omega))]; exact u12.1
  · rw [wi 913 _ (by first | trivial | omega), hs 164 (by first | trivial | omega)]; exact u12.2.1
  · rw [wz 914 _ (by first | trivial | omega), hs 165 (by first | trivial | omega)]; exact u12.2.2
  · rw [wi 201 _ (by first | trivial | omega), ht 1 (by first | trivial | omega)]; exact u13.1
  · rw [ai _ (by first | trivial | omega), hh]; exact u13.2 d hd
theorem XD_off {w : Wd} {b : Nat} {c s t : Nat → Nat} {nm : Nat → Nat → List Nat} (hb : b ∈ SU) (h : XD w b c s t nm) (g : BD c s) {q : Nat} (hq : q < 6) (h3 : s (10 + q) < 3) (lo hi : Nat) : XD (tI (tI (tI w (b + 4) (3 * q + s (10 + q)) (nI lo)) (b + 5) (3 * q + s (10 + q)) (nI hi)) (b + 3) q (nI (s (10 + q) + 1))) b (c) (ups (ups (ups s (16 + 6 * q + 2 * s (10 + q)) lo) (16 + 6 * q + 2 * s (10 + q) + 1) hi) (10 + q) (s (10 + q) + 1)) (t) (nm) := by
  have ub := SU_rg hb
  obtain ⟨⟨g0, g1, g2, g3⟩, g10, g4⟩ := g
  have q4 : ∀ x, aI (tI (tI (tI w (b + 4) (3 * q + s (10 + q)) (nI lo)) (b + 5) (3 * q + s (10 + q)) (nI hi)) (b + 3) q (nI (s (10 + q) + 1))) (b + 4) x = if x = 3 * q + s (10 + q) then nI lo else aI w (b + 4) x := fun x => by
    rw [aI_tI, if_neg (by omega), aI_tI, if_neg (by omega), aI_tI]
    by_cases e : x = 3 * q + s (10 + q)
    · rw [if_pos ⟨rfl, e⟩, if_pos e]
    · rw [if_neg (fun z => e z.2), if_neg e]
  have q5 : ∀ x, aI (tI (tI (tI w (b + 4) (3 * q + s (10 + q)) (nI lo)) (b + 5) (3 * q + s (10 + q)) (nI hi)) (b + 3) q (nI (s (10 + q) + 1))) (b + 5) x = if x = 3 * q + s (10 + q) then nI hi else aI w (b + 5) x := fun x => by
    rw [aI_tI, if_neg (by omega), aI_tI]
    by_cases e : x = 3 * q + s (10 + q)
    · rw [if_pos ⟨rfl, e⟩, if_pos e]
    · rw [if_neg (fun z => e z.2), if_neg e, aI_tI, if_neg (by omega)]
  have r : Fr (fun f x => False) (fun x => x = b + 4 ∨ x = b + 5 ∨ x = b + 3) w (tI (tI (tI w (b + 4) (3 * q + s (10 + q)) (nI lo)) (b + 5) (3 * q + s (10 + q)) (nI hi)) (b + 3) q (nI (s (10 + q) + 1))) := Fr.trans (Fr.trans (ofi_tI (S := fun _ _ => False) (A := fun x => x = b + 4 ∨ x = b + 5 ∨ x = b + 3) (Or.inl rfl)).fr (ofi_tI (S := fun _ _ => False) (A := fun x => x = b + 4 ∨ x = b + 5 ∨ x = b + 3) (Or.inr (Or.inl rfl))).fr) (ofi_tI (S := fun _ _ => False) (A := fun x => x = b + 4 ∨ x = b + 5 ∨ x = b + 3) (Or.inr (Or.inr rfl))).fr
  have wi : ∀ f x, ¬ (False) → wI (tI (tI (tI w (b + 4) (3 * q + s (10 + q)) (nI lo)) (b + 5) (3 * q + s (10 + q)) (nI hi)) (b + 3) q (nI (s (10 + q) + 1))) f x = wI w f x := fun f x q => (r.1 f x q).1
  have wz : ∀ f x, ¬ (False) → wZ (tI (tI (tI w (b + 4) (3 * q + s (10 + q)) (nI lo)) (b + 5) (3 * q + s (10 + q)) (nI hi)) (b + 3) q (nI (s (10 + q) + 1))) f x = wZ w f x := fun f x q => (r.1 f x q).2.2
  have ai : ∀ x, ¬ (x = b + 4 ∨ x = b + 5 ∨ x = b + 3) → aI (tI (tI (tI w (b + 4) (3 * q + s (10 + q)) (nI lo)) (b + 5) (3 * q + s (10 + q)) (nI hi)) (b + 3) q (nI (s (10 + q) + 1))) x = aI w x := fun x q => (r.2 x q).1
  have aj : ∀ x, ¬ (x = b + 4 ∨ x = b + 5 ∨ x = b + 3) → aJ (tI (tI (tI w (b + 4) (3 * q + s (10 + q)) (nI lo)) (b + 5) (3 * q + s (10 + q)) (nI hi)) (b + 3) q (nI (s (10 + q) + 1))) x = aJ w x := fun x q => (r.2 x q).2.1
  have hc : ∀ x, True → (c) x = c x := fun x q => rfl
  have hs : ∀ x, (x ≠ 10 + q ∧ x ≠ 16 + 6 * q + 2 * s (10 + q) ∧ x ≠ 16 + 6 * q + 2 * s (10 + q) + 1) → (ups (ups (ups s (16 + 6 * q + 2 * s (10 + q)) lo) (16 + 6 * q + 2 * s (10 + q) + 1) hi) (10 + q) (s (10 + q) + 1)) x = s x := fun x q => by rw [ups_ne (by omega), ups_ne (by omega), ups_ne (by omega)]
  have ht : ∀ x, True → (t) x = t x := fun x q => rfl
  have hn : ∀ k i, True → (nm) k i = nm k i := fun k i q => rfl
  have hh : ∀ d, isHol (t) d = isHol t d := fun d => rfl
  obtain ⟨u1, u2, u3, u4, u5, u6, u7, u8, u9, u10, u11, u12, u13⟩ := h
  refine ⟨fun k hk => ?_, fun k i hk hi => ?_, fun r hr => ?_, fun o ho => ⟨?_, fun k hk => ?_⟩, fun i hi => ?_, fun i hi => ?_, fun i hi hi2 => ?_, fun i hi hi2 => ?_, fun i hi hi2 => ?_, fun i hi => ⟨?_, ?_, ?_, ?_⟩, fun k hk => ?_, ⟨?_, ?_, ?_⟩, ⟨?_, fun d hd => ?_⟩⟩
  · rw [wi _ _ (by first | trivial | omega), hc _ (by first | trivial | omega)]; exact u1 k hk
  · rw [hc _ (by first | trivial | omega)] at hi; rw [aj _ (by first | trivial | omega), hn _ _ (by first | trivial | omega)]; exact u2 k i hk hi
  · rw [hs 0 (by first | trivial | omega)] at hr; rw [ai _ (by first | trivial | omega), hs (4 + r) (by first | trivial | omega), hs (7 + r) (by first | trivial | omega)]; exact u3 r hr
  · rw [aI_tI]
    by_cases e : o = q
    · rw [if_pos ⟨rfl, e⟩, e, ups_eq]
    · rw [if_neg (fun z => e z.2), aI_tI, if_neg (by omega), aI_tI, if_neg (by omega), hs (10 + o) (by omega)]; exact (u4 o ho).1
  · by_cases e : o = q
    · subst e
      rw [ups_eq] at hk
      rw [q4, q5]
      by_cases e2 : k = s (10 + o)
      · rw [if_pos (by omega), if_pos (by omega), e2, ups_ne (by omega), ups_ne (by omega), ups_eq, ups_ne (by omega), show 17 + 6 * o + 2 * s (10 + o) = 16 + 6 * o + 2 * s (10 + o) + 1 by omega, ups_eq]
        exact ⟨rfl, rfl⟩
      · rw [if_neg (by omega), if_neg (by omega), hs (16 + 6 * o + 2 * k) (by omega), hs (17 + 6 * o + 2 * k) (by omega)]; exact (u4 o ho).2 k (by omega)
    · rw [hs (10 + o) (by omega)] at hk
      have := g10 o ho
      rw [q4, q5, if_neg (by omega), if_neg (by omega), hs (16 + 6 * o + 2 * k) (by omega), hs (17 + 6 * o + 2 * k) (by omega)]; exact (u4 o ho).2 k hk
  · rw [hc 4 (by first | trivial | omega)] at hi; rw [ai (b + 6) (by first | trivial | omega), ai (b + 7) (by first | trivial | omega), hs (52 + i) (by first | trivial | omega), ht (22 + i) (by first | trivial | omega)]; exact u5 i hi
  · rw [hs 2 (by first | trivial | omega)] at hi; rw [ai (b + 8) (by first | trivial | omega), ai (b + 9) (by first | trivial | omega), hs (64 + i) (by first | trivial | omega), hs (76 + i) (by first | trivial | omega)]; exact u6 i hi
  · rw [hc 5 (by first | trivial | omega)] at hi2; rw [wi 300 _ (by first | trivial | omega), hs (88 + i) (by first | trivial | omega)]; exact u7 i hi hi2
  · rw [hc 6 (by first | trivial | omega)] at hi2; rw [wi 301 _ (by first | trivial | omega), hs (100 + i) (by first | trivial | omega)]; exact u8 i hi hi2
  · rw [hc 7 (by first | trivial | omega)] at hi2; rw [wi 302 _ (by first | trivial | omega), hs (112 + i) (by first | trivial | omega)]; exact u9 i hi hi2
  · rw [wz 303 _ (by first | trivial | omega), hs (124 + i) (by first | trivial | omega)]; exact (u10 i hi).1
  · rw [wi 304 _ (by first | trivial | omega), hs (136 + i) (by first | trivial | omega)]; exact (u10 i hi).2.1
  · rw [wi 305 _ (by first | trivial | omega), hs (148 + i) (by first | trivial | omega)]; exact (u10 i hi).2.2.1
  · rw [wi 306 _ (by first | trivial | omega), ht (34 + i) (by first | trivial | omega)]; exact (u10 i hi).2.2.2
  · rw [ai _ (by first | trivial | omega), hs (160 + k) (by first | trivial | omega)]; exact u11 k hk
  · rw [wi 912 _ (by first | trivial | omega), tld_c (fun k hk => hs (166 + k) (by first | trivial | omega))]; exact u12.1
  · rw [wi 913 _ (by first | trivial | omega), hs 164 (by first | trivial | omega)]; exact u12.2.1
  · rw [wz 914 _ (by first | trivial | omega), hs 165 (by first | trivial | omega)]; exact u12.2.2
  · rw [wi 201 _ (by first | trivial | omega), ht 1 (by first | trivial | omega)]; exact u13.1
  · rw [ai _ (by first | trivial | omega), hh]; exact u13.2 d hd
theorem XD_wd {w : Wd} {b : Nat} {c s t : Nat → Nat} {nm : Nat → Nat → List Nat} (hb : b ∈ SU) (h : XD w b c s t nm) (g : BD c s) {q : Nat} (hc4 : c 4 = q) (ht20 : t 1 ≤ 20) (hq : q < 12) (lo hi : Nat) : XD (tI (tI w (b + 6) q (nI lo)) (b + 7) q (nI hi)) b (ups c 4 (q + 1)) (ups s (52 + q) lo) (ups t (22 + q) (hi + 1)) (nm) := by
  have ub := SU_rg hb
  obtain ⟨⟨g0, g1, g2, g3⟩, g10, g4⟩ := g
  have r : Fr (fun f x => False) (fun x => x = b + 6 ∨ x = b + 7) w (tI (tI w (b + 6) q (nI lo)) (b + 7) q (nI hi)) := Fr.trans (ofi_tI (S := fun _ _ => False) (A := fun x => x = b + 6 ∨ x = b + 7) (Or.inl rfl)).fr (ofi_tI (S := fun _ _ => False) (A := fun x => x = b + 6 ∨ x = b + 7) (Or.inr rfl)).fr
  have wi : ∀ f x, ¬ (False) → wI (tI (tI w (b + 6) q (nI lo)) (b + 7) q (nI hi)) f x = wI w f x := fun f x q => (r.1 f x q).1
  have wz : ∀ f x, ¬ (False) → wZ (tI (tI w (b + 6) q (nI lo)) (b + 7) q (nI hi)) f x = wZ w f x := fun f x q => (r.1 f x q).2.2
  have ai : ∀ x, ¬ (x = b + 6 ∨ x = b + 7) → aI (tI (tI w (b + 6) q (nI lo)) (b + 7) q (nI hi)) x = aI w x := fun x q => (r.2 x q).1
  have aj : ∀ x, ¬ (x = b + 6 ∨ x = b + 7) → aJ (tI (tI w (b + 6) q (nI lo)) (b + 7) q (nI hi)) x = aJ w x := fun x q => (r.2 x q).2.1
  have hc : ∀ x, x ≠ 4 → (ups c 4 (q + 1)) x = c x := fun x z => ups_ne z
  have hs : ∀ x, x ≠ 52 + q → (ups s (52 + q) lo) x = s x := fun x q => ups_ne (by omega)
  have ht : ∀ x, x ≠ 22 + q → (ups t (22 + q) (hi + 1)) x = t x := fun x q => ups_ne (by omega)
  have hn : ∀ k i, True → (nm) k i = nm k i := fun k i q => rfl
  have hh : ∀ d, isHol (ups t (22 + q) (hi + 1)) d = isHol t d := fun d => isHol_e ht20 (fun x z => ups_ne (by omega))
  obtain ⟨u1, u2, u3, u4, u5, u6, u7, u8, u9, u10, u11, u12, u13⟩ := h
  refine ⟨fun k hk => ?_, fun k i hk hi => ?_, fun r hr => ?_, fun o ho => ⟨?_, fun k hk => ?_⟩, fun i hi2 => ?_, fun i hi => ?_, fun i hi hi2 => ?_, fun i hi hi2 => ?_, fun i hi hi2 => ?_, fun i hi => ⟨?_, ?_, ?_, ?_⟩, fun k hk => ?_, ⟨?_, ?_, ?_⟩, ⟨?_, fun d hd => ?_⟩⟩
  · rw [wi _ _ (by first | trivial | omega), hc _ (by first | trivial | omega)]; exact u1 k hk
  · rw [hc _ (by first | trivial | omega)] at hi; rw [aj _ (by first | trivial | omega), hn _ _ (by first | trivial | omega)]; exact u2 k i hk hi
  · rw [hs 0 (by first | trivial | omega)] at hr; rw [ai _ (by first | trivial | omega), hs (4 + r) (by first | trivial | omega), hs (7 + r) (by first | trivial | omega)]; exact u3 r hr
  · rw [ai _ (by first | trivial | omega), hs (10 + o) (by first | trivial | omega)]; exact (u4 o ho).1
  · rw [hs (10 + o) (by first | trivial | omega)] at hk; have := g10 o ho; rw [ai (b + 4) (by first | trivial | omega), ai (b + 5) (by first | trivial | omega), hs (16 + 6 * o + 2 * k) (by first | trivial | omega), hs (17 + 6 * o + 2 * k) (by first | trivial | omega)]; exact (u4 o ho).2 k hk
  · rw [ups_eq] at hi2
    by_cases e : i = q
    · rw [aI_tI, if_neg (by omega), aI_tI, if_pos ⟨rfl, e⟩, aI_tI, if_pos ⟨rfl, e⟩, e, ups_eq, ups_eq, sub_nI (by omega), Nat.add_sub_cancel]
      exact ⟨rfl, rfl⟩
    · rw [aI_tI, if_neg (by omega), aI_tI, if_neg (by omega), aI_tI, if_neg (by omega), aI_tI, if_neg (by omega), hs (52 + i) (by omega), ht (22 + i) (by omega)]; exact u5 i (by omega)
  · rw [hs 2 (by first | trivial | omega)] at hi; rw [ai (b + 8) (by first | trivial | omega), ai (b + 9) (by first | trivial | omega), hs (64 + i) (by first | trivial | omega), hs (76 + i) (by first | trivial | omega)]; exact u6 i hi
  · rw [hc 5 (by first | trivial | omega)] at hi2; rw [wi 300 _ (by first | trivial | omega), hs (88 + i) (by first | trivial | omega)]; exact u7 i hi hi2
  · rw [hc 6 (by first | trivial | omega)] at hi2; rw [wi 301 _ (by first | trivial | omega), hs (100 + i) (by first | trivial | omega)]; exact u8 i hi hi2
  · rw [hc 7 (by first | trivial | omega)] at hi2; rw [wi 302 _ (by first | trivial | omega), hs (112 + i) (by first | trivial | omega)]; exact u9 i hi hi2
  · rw [wz 303 _ (by first | trivial | omega), hs (124 + i) (by first | trivial | omega)]; exact (u10 i hi).1
  · rw [wi 304 _ (by first | trivial | omega), hs (136 + i) (by first | trivial | omega)]; exact (u10 i hi).2.1
  · rw [wi 305 _ (by first | trivial | omega), hs (148 + i) (by first | trivial | omega)]; exact (u10 i hi).2.2.1
  · rw [wi 306 _ (by first | trivial | omega), ht (34 + i) (by first | trivial | omega)]; exact (u10 i hi).2.2.2
  · rw [ai _ (by first | trivial | omega), hs (160 + k) (by first | trivial | omega)]; exact u11 k hk
  · rw [wi 912 _ (by first | trivial | omega), tld_c (fun k hk => hs (166 + k) (by first | trivial | omega))]; exact u12.1
  · rw [wi 913 _ (by first | trivial | omega), hs 164 (by first | trivial | omega)]; exact u12.2.1
  · rw [wz 914 _ (by first | trivial | omega), hs 165 (by first | trivial | omega)]; exact u12.2.2
  · rw [wi 201 _ (by first | trivial | omega), ht 1 (by first | trivial | omega)]; exact u13.1
  · rw [ai _ (by first | trivial | omega), hh]; exact u13.2 d hd
theorem XD_ws {w : Wd} {b : Nat} {c s t : Nat → Nat} {nm : Nat → Nat → List Nat} (hb : b ∈ SU) (h : XD w b c s t nm) (g : BD c s) (h2 : s 2 < 12) (lo hi : Nat) : XD (tI (tI w (b + 8) (s 2) (nI lo)) (b + 9) (s 2) (nI hi)) b (c) (ups (ups (ups s (64 + s 2) lo) (76 + s 2) hi) 2 (s 2 + 1)) (t) (nm) := by
  have ub := SU_rg hb
  obtain ⟨⟨g0, g1, g2, g3⟩, g10, g4⟩ := g
  have r : Fr (fun f x => False) (fun x => x = b + 8 ∨ x = b + 9) w (tI (tI w (b + 8) (s 2) (nI lo)) (b + 9) (s 2) (nI hi)) := Fr.trans (ofi_tI (S := fun _ _ => False) (A := fun x => x = b + 8 ∨ x = b + 9) (Or.inl rfl)).fr (ofi_tI (S := fun _ _ => False) (A := fun x => x = b + 8 ∨ x = b + 9) (Or.inr rfl)).fr
  have wi : ∀ f x, ¬ (False) → wI (tI (tI w (b + 8) (s 2) (nI lo)) (b + 9) (s 2) (nI hi)) f x = wI w f x := fun f x q => (r.1 f x q).1
  have wz : ∀ f x, ¬ (False) → wZ (tI (tI w (b + 8) (s 2) (nI lo)) (b + 9) (s 2) (nI hi)) f x = wZ w f x := fun f x q => (r.1 f x q).2.2
  have ai : ∀ x, ¬ (x = b + 8 ∨ x = b + 9) → aI (tI (tI w (b + 8) (s 2) (nI lo)) (b + 9) (s 2) (nI hi)) x = aI w x := fun x q => (r.2 x q).1
  have aj : ∀ x, ¬ (x = b + 8 ∨ x = b + 9) → aJ (tI (tI w (b + 8) (s 2) (nI lo)) (b + 9) (s 2) (nI hi)) x = aJ w x := fun x q => (r.2 x q).2.1
  have hc : ∀ x, True → (c) x = c x := fun x q => rfl
  have hs : ∀ x, (x ≠ 2 ∧ x ≠ 64 + s 2 ∧ x ≠ 76 + s 2) → (ups (ups (ups s (64 + s 2) lo) (76 + s 2) hi) 2 (s 2 + 1)) x = s x := fun x q => by rw [ups_ne (by omega), ups_ne (by omega), ups_ne (by omega)]
  have ht : ∀ x, True → (t) x = t x := fun x q => rfl
  have hn : ∀ k i, True → (nm) k i = nm k i := fun k i q => rfl
  have hh : ∀ d, isHol (t) d = isHol t d := fun d => rfl
  obtain ⟨u1, u2, u3, u4, u5, u6, u7, u8, u9, u10, u11, u12, u13⟩ := h
  refine ⟨fun k hk => ?_, fun k i hk hi => ?_, fun r hr => ?_, fun o ho => ⟨?_, fun k hk => ?_⟩, fun i hi => ?_, fun i hi2 => ?_, fun i hi hi2 => ?_, fun i hi hi2 => ?_, fun i hi hi2 => ?_, fun i hi => ⟨?_, ?_, ?_, ?_⟩, fun k hk => ?_, ⟨?_, ?_, ?_⟩, ⟨?_, fun d hd => ?_⟩⟩
  · rw [wi _ _ (by first | trivial | omega), hc _ (by first | trivial | omega)]; exact u1 k hk
  · rw [hc _ (by first | trivial | omega)] at hi; rw [aj _ (by first | trivial | omega), hn _ _ (by first | trivial | omega)]; exact u2 k i hk hi
  · rw [hs 0 (by first | trivial | omega)] at hr; rw [ai _ (by first | trivial | omega), hs (4 + r) (by first | trivial | omega), hs (7 + r) (by first | trivial | omega)]; exact u3 r hr
  · rw [ai _ (by first | trivial | omega), hs (10 + o) (by first | trivial | omega)]; exact (u4 o ho).1
  · rw [hs (10 + o) (by first | trivial | omega)] at hk; have := g10 o ho; rw [ai (b + 4) (by first | trivial | omega), ai (b + 5) (by first | trivial | omega), hs (16 + 6 * o + 2 * k) (by first | trivial | omega), hs (17 + 6 * o + 2 * k) (by first | trivial | omega)]; exact (u4 o ho).2 k hk
  · rw [hc 4 (by first | trivial | omega)] at hi; rw [ai (b + 6) (by first | trivial | omega), ai (b + 7) (by first | trivial | omega), hs (52 + i) (by first | trivial | omega), ht (22 + i) (by first | trivial | omega)]; exact u5 i hi
  · rw [ups_eq] at hi2
    by_cases e : i = s 2
    · rw [aI_tI, if_neg (by omega), aI_tI, if_pos ⟨rfl, e⟩, aI_tI, if_pos ⟨rfl, e⟩, e, ups_ne (by omega), ups_ne (by omega), ups_eq, ups_ne (by omega), ups_eq]
      exact ⟨rfl, rfl⟩
    · rw [aI_tI, if_neg (by omega), aI_tI, if_neg (by omega), aI_tI, if_neg (by omega), aI_tI, if_neg (by omega), hs (64 + i) (by omega), hs (76 + i) (by omega)]; exact u6 i (by omega)
  · rw [hc 5 (by first | trivial | omega)] at hi2; rw [wi 300 _ (by first | trivial | omega), hs (88 + i) (by first | trivial | omega)]; exact u7 i hi hi2
  · rw [hc 6 (by first | trivial | omega)] at hi2; rw [wi 301 _ (by first | trivial | omega), hs (100 + i) (by first | trivial | omega)]; exact u8 i hi hi2
  · rw [hc 7 (by first | trivial | omega)] at hi2; rw [wi 302 _ (by first | trivial | omega), hs (112 + i) (by first | trivial | omega)]; exact u9 i hi hi2
  · rw [wz 303 _ (by first | trivial | omega), hs (124 + i) (by first | trivial | omega)]; exact (u10 i hi).1
  · rw [wi 304 _ (by first | trivial | omega), hs (136 + i) (by first | trivial | omega)]; exact (u10 i hi).2.1
  · rw [wi 305 _ (by first | trivial | omega), hs (148 + i) (by first | trivial | omega)]; exact (u10 i hi).2.2.1
  · rw [wi 306 _ (by first | trivial | omega), ht (34 + i) (by first | trivial | omega)]; exact (u10 i hi).2.2.2
  · rw [ai _ (by first | trivial | omega), hs (160 + k) (by first | trivial | omega)]; exact u11 k hk
  · rw [wi 912 _ (by first | trivial | omega), tld_c (fun k hk => hs (166 + k) (by first | trivial | omega))]; exact u12.1
  · rw [wi 913 _ (by first | trivial | omega), hs 164 (by first | trivial | omega)]; exact u12.2.1
  · rw [wz 914 _ (by first | trivial | omega), hs 165 (by first | trivial | omega)]; exact u12.2.2
  · rw [wi 201 _ (by first | trivial | omega), ht 1 (by first | trivial | omega)]; exact u13.1
  · rw [ai _ (by first | trivial | omega), hh]; exact u13.2 d hd
theorem XD_cf {w : Wd} {b : Nat} {c s t : Nat → Nat} {nm : Nat → Nat → List Nat} (hb : b ∈ SU) (h : XD w b c s t nm) (g : BD c s) {q : Nat} (hq : c 5 = q) (hq2 : q < 12) (v : Nat) : XD (sI w 300 (b + 22 + q) (nI v)) b (ups c 5 (q + 1)) (ups s (88 + q) v) (t) (nm) := by
  have ub := SU_rg hb
  obtain ⟨⟨g0, g1, g2, g3⟩, g10, g4⟩ := g
  have r : Fr (fun f x => f = 300 ∧ x = b + 22 + q) (fun x => False) w (sI w 300 (b + 22 + q) (nI v)) := fr_sI ⟨rfl, rfl⟩
  have wi : ∀ f x, ¬ (f = 300 ∧ x = b + 22 + q) → wI (sI w 300 (b + 22 + q) (nI v)) f x = wI w f x := fun f x q => (r.1 f x q).1
  have wz : ∀ f x, ¬ (f = 300 ∧ x = b + 22 + q) → wZ (sI w 300 (b + 22 + q) (nI v)) f x = wZ w f x := fun f x q => (r.1 f x q).2.2
  have ai : ∀ x, ¬ (False) → aI (sI w 300 (b + 22 + q) (nI v)) x = aI w x := fun x q => (r.2 x q).1
  have aj : ∀ x, ¬ (False) → aJ (sI w 300 (b + 22 + q) (nI v)) x = aJ w x := fun x q => (r.2 x q).2.1
  have hc : ∀ x, x ≠ 5 → (ups c 5 (q + 1)) x = c x := fun x z => ups_ne z
  have hs : ∀ x, x ≠ 88 + q → (ups s (88 + q) v) x = s x := fun x q => ups_ne (by omega)
  have ht : ∀ x, True → (t) x = t x := fun x q => rfl
  have hn : ∀ k i, True → (nm) k i = nm k i := fun k i q => rfl
  have hh : ∀ d, isHol (t) d = isHol t d := fun d => rfl
  obtain ⟨u1, u2, u3, u4, u5, u6, u7, u8, u9, u10, u11, u12, u13⟩ := h
  refine ⟨fun k hk => ?_, fun k i hk hi => ?_, fun r hr => ?_, fun o ho => ⟨?_, fun k hk => ?_⟩, fun i hi => ?_, fun i hi => ?_, fun i hi hi2 => ?_, fun i hi hi2 => ?_, fun i hi hi2 => ?_, fun i hi => ⟨?_, ?_, ?_, ?_⟩, fun k hk => ?_, ⟨?_, ?_, ?_⟩, ⟨?_, fun d hd => ?_⟩⟩
  · rw [wi _ _ (by first | trivial | omega), hc _ (by first | trivial | omega)]; exact u1 k hk
  · rw [hc _ (by first | trivial | omega)] at hi; rw [aj _ (by first | trivial | omega), hn _ _ (by first | trivial | omega)]; exact u2 k i hk hi
  · rw [hs 0 (by first | trivial | omega)] at hr; rw [ai _ (by first | trivial | omega), hs (4 + r) (by first | trivial | omega), hs (7 + r) (by first | trivial | omega)]; exact u3 r hr
  · rw [ai _ (by first | trivial | omega), hs (10 + o) (by first | trivial | omega)]; exact (u4 o ho).1
  · rw [hs (10 + o) (by first | trivial | omega)] at hk; have := g10 o ho; rw [ai (b + 4) (by first | trivial | omega), ai (b + 5) (by first | trivial | omega), hs (16 + 6 * o + 2 * k) (by first | trivial | omega), hs (17 + 6 * o + 2 * k) (by first | trivial | omega)]; exact (u4 o ho).2 k hk
  · rw [hc 4 (by first | trivial | omega)] at hi; rw [ai (b + 6) (by first | trivial | omega), ai (b + 7) (by first | trivial | omega), hs (52 + i) (by first | trivial | omega), ht (22 + i) (by first | trivial | omega)]; exact u5 i hi
  · rw [hs 2 (by first | trivial | omega)] at hi; rw [ai (b + 8) (by first | trivial | omega), ai (b + 9) (by first | trivial | omega), hs (64 + i) (by first | trivial | omega), hs (76 + i) (by first | trivial | omega)]; exact u6 i hi
  · rw [ups_eq] at hi2
    by_cases e : i = q
    · rw [wI_sI, if_pos ⟨rfl, by rw [e]⟩, e, ups_eq]
    · rw [wi 300 _ (by omega), hs (88 + i) (by omega)]; exact u7 i hi (by omega)
  · rw [hc 6 (by first | trivial | omega)] at hi2; rw [wi 301 _ (by first | trivial | omega), hs (100 + i) (by first | trivial | omega)]; exact u8 i hi hi2
  · rw [hc 7 (by first | trivial | omega)] at hi2; rw [wi 302 _ (by first | trivial | omega), hs (112 + i) (by first | trivial | omega)]; exact u9 i hi hi2
  · rw [wz 303 _ (by first | trivial | omega), hs (124 + i) (by first | trivial | omega)]; exact (u10 i hi).1
  · rw [wi 304 _ (by first | trivial | omega), hs (136 + i) (by first | trivial | omega)]; exact (u10 i hi).2.1
  · rw [wi 305 _ (by first | trivial | omega), hs (148 + i) (by first | trivial | omega)]; exact (u10 i hi).2.2.1
  · rw [wi 306 _ (by first | trivial | omega), ht (34 + i) (by first | trivial | omega)]; exact (u10 i hi).2.2.2
  · rw [ai _ (by first | trivial | omega), hs (160 + k) (by first | trivial | omega)]; exact u11 k hk
  · rw [wi 912 _ (by first | trivial | omega), tld_c (fun k hk => hs (166 + k) (by first | trivial | omega))]; exact u12.1
  · rw [wi 913 _ (by first | trivial | omega), hs 164 (by first | trivial | omega)]; exact u12.2.1
  · rw [wz 914 _ (by first | trivial | omega), hs 165 (by first | trivial | omega)]; exact u12.2.2
  · rw [wi 201 _ (by first | trivial | omega), ht 1 (by first | trivial | omega)]; exact u13.1
  · rw [ai _ (by first | trivial | omega), hh]; exact u13.2 d hd
theorem XD_cs {w : Wd} {b : Nat} {c s t : Nat → Nat} {nm : Nat → Nat → List Nat} (hb : b ∈ SU) (h : XD w b c s t nm) (g : BD c s) {q : Nat} (hq : c 6 = q) (hq2 : q < 12) (v : Nat) : XD (sI w 301 (b + 22 + q) (nI v)) b (ups c 6 (q + 1)) (ups s (100 + q) v) (t) (nm) := by
  have ub := SU_rg hb
  obtain ⟨⟨g0, g1, g2, g3⟩, g10, g4⟩ := g
  have r : Fr (fun f x => f = 301 ∧ x = b + 22 + q) (fun x => False) w (sI w 301 (b + 22 + q) (nI v)) := fr_sI ⟨rfl, rfl⟩
  have wi : ∀ f x, ¬ (f = 301 ∧ x = b + 22 + q) → wI (sI w 301 (b + 22 + q) (nI v)) f x = wI w f x := fun f x q => (r.1 f x q).1
  have wz : ∀ f x, ¬ (f = 301 ∧ x = b + 22 + q) → wZ (sI w 301 (b + 22 + q) (nI v)) f x = wZ w f x := fun f x q => (r.1 f x q).2.2
  have ai : ∀ x, ¬ (False) → aI (sI w 301 (b + 22 + q) (nI v)) x = aI w x := fun x q => (r.2 x q).1
  have aj : ∀ x, ¬ (False) → aJ (sI w 301 (b + 22 + q) (nI v)) x = aJ w x := fun x q => (r.2 x q).2.1
  have hc : ∀ x, x ≠ 6 → (ups c 6 (q + 1)) x = c x := fun x z => ups_ne z
  have hs : ∀ x, x ≠ 100 + q → (ups s (100 + q) v) x = s x := fun x q => ups_ne (by omega)
  have ht : ∀ x, True → (t) x = t x := fun x q => rfl
  have hn : ∀ k i, True → (nm) k i = nm k i := fun k i q => rfl
  have hh : ∀ d, isHol (t) d = isHol t d := fun d => rfl
  obtain ⟨u1, u2, u3, u4, u5, u6, u7, u8, u9, u10, u11, u12, u13⟩ := h
  refine ⟨fun k hk => ?_, fun k i hk hi => ?_, fun r hr => ?_, fun o ho => ⟨?_, fun k hk => ?_⟩, fun i hi => ?_, fun i hi => ?_, fun i hi hi2 => ?_, fun i hi hi2 => ?_, fun i hi hi2 => ?_, fun i hi => ⟨?_, ?_, ?_, ?_⟩, fun k hk => ?_, ⟨?_, ?_, ?_⟩, ⟨?_, fun d hd => ?_⟩⟩
  · rw [wi _ _ (by first | trivial | omega), hc _ (by first | trivial | omega)]; exact u1 k hk
  · rw [hc _ (by first | trivial | omega)] at hi; rw [aj _ (by first | trivial | omega), hn _ _ (by first | trivial | omega)]; exact u2 k i hk hi
  · rw [hs 0 (by first | trivial | omega)] at hr; rw [ai _ (by first | trivial | omega), hs (4 + r) (by first | trivial | omega), hs (7 + r) (by first | trivial | omega)]; exact u3 r hr
  · rw [ai _ (by first | trivial | omega), hs (10 + o) (by first | trivial | omega)]; exact (u4 o ho).1
  · rw [hs (10 + o) (by first | trivial | omega)] at hk; have := g10 o ho; rw [ai (b + 4) (by first | trivial | omega), ai (b + 5) (by first | trivial | omega), hs (16 + 6 * o + 2 * k) (by first | trivial | omega), hs (17 + 6 * o + 2 * k) (by first | trivial | omega)]; exact (u4 o ho).2 k hk
  · rw [hc 4 (by first | trivial | omega)] at hi; rw [ai (b + 6) (by first | trivial | omega), ai (b + 7) (by first | trivial | omega), hs (52 + i) (by first | trivial | omega), ht (22 + i) (by first | trivial | omega)]; exact u5 i hi
  · rw [hs 2 (by first | trivial | omega)] at hi; rw [ai (b + 8) (by first | trivial | omega), ai (b + 9) (by first | trivial | omega), hs (64 + i) (by first | trivial | omega), hs (76 + i) (by first | trivial | omega)]; exact u6 i hi
  · rw [hc 5 (by first | trivial | omega)] at hi2; rw [wi 300 _ (by first | trivial | omega), hs (88 + i) (by first | trivial | omega)]; exact u7 i hi hi2
  · rw [ups_eq] at hi2
    by_cases e : i = q
    · rw [wI_sI, if_pos ⟨rfl, by rw [e]⟩, e, ups_eq]
    · rw [wi 301 _ (by omega), hs (100 + i) (by omega)]; exact u8 i hi (by omega)
  · rw [hc 7 (by first | trivial | omega)] at hi2; rw [wi 302 _ (by first | trivial | omega), hs (112 + i) (by first | trivial | omega)]; exact u9 i hi hi2
  · rw [wz 303 _ (by first | trivial | omega), hs (124 + i) (by first | trivial | omega)]; exact (u10 i hi).1
  · rw [wi 304 _ (by first | trivial | omega), hs (136 + i) (by first | trivial | omega)]; exact (u10 i hi).2.1
  · rw [wi 305 _ (by first | trivial | omega), hs (148 + i) (by first | trivial | omega)]; exact (u10 i hi).2.2.1
  · rw [wi 306 _ (by first | trivial | omega), ht (34 + i) (by first | trivial | omega)]; exact (u10 i hi).2.2.2
  · rw [ai _ (by first | trivial | omega), hs (160 + k) (by first | trivial | omega)]; exact u11 k hk
  · rw [wi 912 _ (by first | trivial | omega), tld_c (fun k hk => hs (166 + k) (by first | trivial | omega))]; exact u12.1
  · rw [wi 913 _ (by first | trivial | omega), hs 164 (by first | trivial | omega)]; exact u12.2.1
  · rw [wz 914 _ (by first | trivial | omega), hs 165 (by first | trivial | omega)]; exact u12.2.2
  · rw [wi 201 _ (by first | trivial | omega), ht 1 (by first | trivial | omega)]; exact u13.1
  · rw [ai _ (by first | trivial | omega), hh]; exact u13.2 d hd
theorem XD_cl {w : Wd} {b : Nat} {c s t : Nat → Nat} {nm : Nat → Nat → List Nat} (hb : b ∈ SU) (h : XD w b c s t nm) (g : BD c s) {q : Nat} (hq : c 7 = q) (hq2 : q < 12) (v : Nat) : XD (sI w 302 (b + 22 + q) (nI v)) b (ups c 7 (q + 1)) (ups s (112 + q) v) (t) (nm) := by
  have ub := SU_rg hb
  obtain ⟨⟨g0, g1, g2, g3⟩, g10, g4⟩ := g
  have r : Fr (fun f x => f = 302 ∧ x = b + 22 + q) (fun x => False) w (sI w 302 (b + 22 + q) (nI v)) := fr_sI ⟨rfl, rfl⟩
  have wi : ∀ f x, ¬ (f = 302 ∧ x = b + 22 + q) → wI (sI w 302 (b + 22 + q) (nI v)) f x = wI w f x := fun f x q => (r.1 f x q).1
  have wz : ∀ f x, ¬ (f = 302 ∧ x = b + 22 + q) → wZ (sI w 302 (b + 22 + q) (nI v)) f x = wZ w f x := fun f x q => (r.1 f x q).2.2
  have ai : ∀ x, ¬ (False) → aI (sI w 302 (b + 22 + q) (nI v)) x = aI w x := fun x q => (r.2 x q).1
  have aj : ∀ x, ¬ (False) → aJ (sI w 302 (b + 22 + q) (nI v)) x = aJ w x := fun x q => (r.2 x q).2.1
  have hc : ∀ x, x ≠ 7 → (ups c 7 (q + 1)) x = c x := fun x z => ups_ne z
  have hs : ∀ x, x ≠ 112 + q → (ups s (112 + q) v) x = s x := fun x q => ups_ne (by omega)
  have ht : ∀ x, True → (t) x = t x := fun x q => rfl
  have hn : ∀ k i, True → (nm) k i = nm k i := fun k i q => rfl
  have hh : ∀ d, isHol (t) d = isHol t d := fun d => rfl
  obtain ⟨u1, u2, u3, u4, u5, u6, u7, u8, u9, u10, u11, u12, u13⟩ := h
  refine ⟨fun k hk => ?_, fun k i hk hi => ?_, fun r hr => ?_, fun o ho => ⟨?_, fun k hk => ?_⟩, fun i hi => ?_, fun i hi => ?_, fun i hi hi2 => ?_, fun i hi hi2 => ?_, fun i hi hi2 => ?_, fun i hi => ⟨?_, ?_, ?_, ?_⟩, fun k hk => ?_, ⟨?_, ?_, ?_⟩, ⟨?_, fun d hd => ?_⟩⟩
  · rw [wi _ _ (by first | trivial | omega), hc _ (by first | trivial | omega)]; exact u1 k hk
  · rw [hc _ (by first | trivial | omega)] at hi; rw [aj _ (by first | trivial | omega), hn _ _ (by first | trivial | omega)]; exact u2 k i hk hi
  · rw [hs 0 (by first | trivial | omega)] at hr; rw [ai _ (by first | trivial | omega), hs (4 + r) (by first | trivial | omega), hs (7 + r) (by first | trivial | omega)]; exact u3 r hr
  · rw [ai _ (by first | trivial | omega), hs (10 + o) (by first | trivial | omega)]; exact (u4 o ho).1
  · rw [hs (10 + o) (by first | trivial | omega)] at hk; have := g10 o ho; rw [ai (b + 4) (by first | trivial | omega), ai (b + 5) (by first | trivial | omega), hs (16 + 6 * o + 2 * k) (by first | trivial | omega), hs (17 + 6 * o + 2 * k) (by first | trivial | omega)]; exact (u4 o ho).2 k hk
  · rw [hc 4 (by first | trivial | omega)] at hi; rw [ai (b + 6) (by first | trivial | omega), ai (b + 7) (by first | trivial | omega), hs (52 + i) (by first | trivial | omega), ht (22 + i) (by first | trivial | omega)]; exact u5 i hi
  · rw [hs 2 (by first | trivial | omega)] at hi; rw [ai (b + 8) (by first | trivial | omega), ai (b + 9) (by first | trivial | omega), hs (64 + i) (by first | trivial | omega), hs (76 + i) (by first | trivial | omega)]; exact u6 i hi
  · rw [hc 5 (by first | trivial | omega)] at hi2; rw [wi 300 _ (by first | trivial | omega), hs (88 + i) (by first | trivial | omega)]; exact u7 i hi hi2
  · rw [hc 6 (by first | trivial | omega)] at hi2; rw [wi 301 _ (by first | trivial | omega), hs (100 + i) (by first | trivial | omega)]; exact u8 i hi hi2
  · rw [ups_eq] at hi2
    by_cases e : i = q
    · rw [wI_sI, if_pos ⟨rfl, by rw [e]⟩, e, ups_eq]
    · rw [wi 302 _ (by omega), hs (112 + i) (by omega)]; exact u9 i hi (by omega)
  · rw [wz 303 _ (by first | trivial | omega), hs (124 + i) (by first | trivial | omega)]; exact (u10 i hi).1
  · rw [wi 304 _ (by first | trivial | omega), hs (136 + i) (by first | trivial | omega)]; exact (u10 i hi).2.1
  · rw [wi 305 _ (by first | trivial | omega), hs (148 + i) (by first | trivial | omega)]; exact (u10 i hi).2.2.1
  · rw [wi 306 _ (by first | trivial | omega), ht (34 + i) (by first | trivial | omega)]; exact (u10 i hi).2.2.2
  · rw [ai _ (by first | trivial | omega), hs (160 + k) (by first | trivial | omega)]; exact u11 k hk
  · rw [wi 912 _ (by first | trivial | omega), tld_c (fun k hk => hs (166 + k) (by first | trivial | omega))]; exact u12.1
  · rw [wi 913 _ (by first | trivial | omega), hs 164 (by first | trivial | omega)]; exact u12.2.1
  · rw [wz 914 _ (by first | trivial | omega), hs 165 (by first | trivial | omega)]; exact u12.2.2
  · rw [wi 201 _ (by first | trivial | omega), ht 1 (by first | trivial | omega)]; exact u13.1
  · rw [ai _ (by first | trivial | omega), hh]; exact u13.2 d hd
theorem XD_cc {w : Wd} {b : Nat} {c s t : Nat → Nat} {nm : Nat → Nat → List Nat} (hb : b ∈ SU) (h : XD w b c s t nm) (g : BD c s) {q : Nat} (hq : q < 12) : XD (sZ w 303 (b + 22 + q) true) b (c) (ups s (124 + q) 1) (t) (nm) := by
  have ub := SU_rg hb
  obtain ⟨⟨g0, g1, g2, g3⟩, g10, g4⟩ := g
  have r : Fr (fun f x => f = 303 ∧ x = b + 22 + q) (fun x => False) w (sZ w 303 (b + 22 + q) true) := fr_sZ ⟨rfl, rfl⟩
  have wi : ∀ f x, ¬ (f = 303 ∧ x = b + 22 + q) → wI (sZ w 303 (b + 22 + q) true) f x = wI w f x := fun f x q => (r.1 f x q).1
  have wz : ∀ f x, ¬ (f = 303 ∧ x = b + 22 + q) → wZ (sZ w 303 (b + 22 + q) true) f x = wZ w f x := fun f x q => (r.1 f x q).2.2
  have ai : ∀ x, ¬ (False) → aI (sZ w 303 (b + 22 + q) true) x = aI w x := fun x q => (r.2 x q).1
  have aj : ∀ x, ¬ (False) → aJ (sZ w 303 (b + 22 + q) true) x = aJ w x := fun x q => (r.2 x q).2.1
  have hc : ∀ x, True → (c) x = c x := fun x q => rfl
  have hs : ∀ x, x ≠ 124 + q → (ups s (124 + q) 1) x = s x := fun x q => ups_ne (by omega)
  have ht : ∀ x, True → (t) x = t x := fun x q => rfl
  have hn : ∀ k i, True → (nm) k i = nm k i := fun k i q => rfl
  have hh : ∀ d, isHol (t) d = isHol t d := fun d => rfl
  obtain ⟨u1, u2, u3, u4, u5, u6, u7, u8, u9, u10, u11, u12, u13⟩ := h
  refine ⟨fun k hk => ?_, fun k i hk hi => ?_, fun r hr => ?_, fun o ho => ⟨?_, fun k hk => ?_⟩, fun i hi => ?_, fun i hi => ?_, fun i hi hi2 => ?_, fun i hi hi2 => ?_, fun i hi hi2 => ?_, fun i hi => ⟨?_, ?_, ?_, ?_⟩, fun k hk => ?_, ⟨?_, ?_, ?_⟩, ⟨?_, fun d hd => ?_⟩⟩
  · rw [wi _ _ (by first | trivial | omega), hc _ (by first | trivial | omega)]; exact u1 k hk
  · rw [hc _ (by first | trivial | omega)] at hi; rw [aj _ (by first | trivial | omega), hn _ _ (by first | trivial | omega)]; exact u2 k i hk hi
  · rw [hs 0 (by first | trivial | omega)] at hr; rw [ai _ (by first | trivial | omega), hs (4 + r) (by first | trivial | omega), hs (7 + r) (by first | trivial | omega)]; exact u3 r hr
  · rw [ai _ (by first | trivial | omega), hs (10 + o) (by first | trivial | omega)]; exact (u4 o ho).1
  · rw [hs (10 + o) (by first | trivial | omega)] at hk; have := g10 o ho; rw [ai (b + 4) (by first | trivial | omega), ai (b + 5) (by first | trivial | omega), hs (16 + 6 * o + 2 * k) (by first | trivial | omega), hs (17 + 6 * o + 2 * k) (by first | trivial | omega)]; exact (u4 o ho).2 k hk
  · rw [hc 4 (by first | trivial | omega)] at hi; rw [ai (b + 6) (by first | trivial | omega), ai (b + 7) (by first | trivial | omega), hs (52 + i) (by first | trivial | omega), ht (22 + i) (by first | trivial | omega)]; exact u5 i hi
  · rw [hs 2 (by first | trivial | omega)] at hi; rw [ai (b + 8) (by first | trivial | omega), ai (b + 9) (by first | trivial | omega), hs (64 + i) (by first | trivial | omega), hs (76 + i) (by first | trivial | omega)]; exact u6 i hi
  · rw [hc 5 (by first | trivial | omega)] at hi2; rw [wi 300 _ (by first | trivial | omega), hs (88 + i) (by first | trivial | omega)]; exact u7 i hi hi2
  · rw [hc 6 (by first | trivial | omega)] at hi2; rw [wi 301 _ (by first | trivial | omega), hs (100 + i) (by first | trivial | omega)]; exact u8 i hi hi2
  · rw [hc 7 (by first | trivial | omega)] at hi2; rw [wi 302 _ (by first | trivial | omega), hs (112 + i) (by first | trivial | omega)]; exact u9 i hi hi2
  · by_cases e : i = q
    · rw [e, ups_eq, wZ_sZ, if_pos ⟨rfl, rfl⟩]; rfl
    · rw [wz 303 _ (by omega), hs (124 + i) (by omega)]; exact (u10 i hi).1
  · rw [wi 304 _ (by first | trivial | omega), hs (136 + i) (by first | trivial | omega)]; exact (u10 i hi).2.1
  · rw [wi 305 _ (by first | trivial | omega), hs (148 + i) (by first | trivial | omega)]; exact (u10 i hi).2.2.1
  · rw [wi 306 _ (by first | trivial | omega), ht (34 + i) (by first | trivial | omega)]; exact (u10 i hi).2.2.2
  · rw [ai _ (by first | trivial | omega), hs (160 + k) (by first | trivial | omega)]; exact u11 k hk
  · rw [wi 912 _ (by first | trivial | omega), tld_c (fun k hk => hs (166 + k) (by first | trivial | omega))]; exact u12.1
  · rw [wi 913 _ (by first | trivial | omega), hs 164 (by first | trivial | omega)]; exact u12.2.1
  · rw [wz 914 _ (by first | trivial | omega), hs 165 (by first | trivial | omega)]; exact u12.2.2
  · rw [wi 201 _ (by first | trivial | omega), ht 1 (by first | trivial | omega)]; exact u13.1
  · rw [ai _ (by first | trivial | omega), hh]; exact u13.2 d hd
theorem XD_cn {w : Wd} {b : Nat} {c s t : Nat → Nat} {nm : Nat → Nat → List Nat} (hb : b ∈ SU) (h : XD w b c s t nm) (g : BD c s) {q : Nat} (hq : q < 12) (v : Nat) : XD (sI w 304 (b + 22 + q) (nI v)) b (c) (ups s (136 + q) v) (t) (nm) := by
  have ub := SU_rg hb
  obtain ⟨⟨g0, g1, g2, g3⟩, g10, g4⟩ := g
  have r : Fr (fun f x => f = 304 ∧ x = b + 22 + q) (fun x => False) w (sI w 304 (b + 22 + q) (nI v)) := fr_sI ⟨rfl, rfl⟩
  have wi : ∀ f x, ¬ (f = 304 ∧ x = b + 22 + q) → wI (sI w 304 (b + 22 + q) (nI v)) f x = wI w f x := fun f x q => (r.1 f x q).1
  have wz : ∀ f x, ¬ (f = 304 ∧ x = b + 22 + q) → wZ (sI w 304 (b + 22 + q) (nI v)) f x = wZ w f x := fun f x q => (r.1 f x q).2.2
  have ai : ∀ x, ¬ (False) → aI (sI w 304 (b + 22 + q) (nI v)) x = aI w x := fun x q => (r.2 x q).1
  have aj : ∀ x, ¬ (False) → aJ (sI w 304 (b + 22 + q) (nI v)) x = aJ w x := fun x q => (r.2 x q).2.1
  have hc : ∀ x, True → (c) x = c x := fun x q => rfl
  have hs : ∀ x, x ≠ 136 + q → (ups s (136 + q) v) x = s x := fun x q => ups_ne (by omega)
  have ht : ∀ x, True → (t) x = t x := fun x q => rfl
  have hn : ∀ k i, True → (nm) k i = nm k i := fun k i q => rfl
  have hh : ∀ d, isHol (t) d = isHol t d := fun d => rfl
  obtain ⟨u1, u2, u3, u4, u5, u6, u7, u8, u9, u10, u11, u12, u13⟩ := h
  refine ⟨fun k hk => ?_, fun k i hk hi => ?_, fun r hr => ?_, fun o ho => ⟨?_, fun k hk => ?_⟩, fun i hi => ?_, fun i hi => ?_, fun i hi hi2 => ?_, fun i hi hi2 => ?_, fun i hi hi2 => ?_, fun i hi => ⟨?_, ?_, ?_, ?_⟩, fun k hk => ?_, ⟨?_, ?_, ?_⟩, ⟨?_, fun d hd => ?_⟩⟩
  · rw [wi _ _ (by first | trivial | omega), hc _ (by first | trivial | omega)]; exact u1 k hk
  · rw [hc _ (by first | trivial | omega)] at hi; rw [aj _ (by first | trivial | omega), hn _ _ (by first | trivial | omega)]; exact u2 k i hk hi
  · rw [hs 0 (by first | trivial | omega)] at hr; rw [ai _ (by first | trivial | omega), hs (4 + r) (by first | trivial | omega), hs (7 + r) (by first | trivial | omega)]; exact u3 r hr
  · rw [ai _ (by first | trivial | omega), hs (10 + o) (by first | trivial | omega)]; exact (u4 o ho).1
  · rw [hs (10 + o) (by first | trivial | omega)] at hk; have := g10 o ho; rw [ai (b + 4) (by first | trivial | omega), ai (b + 5) (by first | trivial | omega), hs (16 + 6 * o + 2 * k) (by first | trivial | omega), hs (17 + 6 * o + 2 * k) (by first | trivial | omega)]; exact (u4 o ho).2 k hk
  · rw [hc 4 (by first | trivial | omega)] at hi; rw [ai (b + 6) (by first | trivial | omega), ai (b + 7) (by first | trivial | omega), hs (52 + i) (by first | trivial | omega), ht (22 + i) (by first | trivial | omega)]; exact u5 i hi
  · rw [hs 2 (by first | trivial | omega)] at hi; rw [ai (b + 8) (by first | trivial | omega), ai (b + 9) (by first | trivial | omega), hs (64 + i) (by first | trivial | omega), hs (76 + i) (by first | trivial | omega)]; exact u6 i hi
  · rw [hc 5 (by first | trivial | omega)] at hi2; rw [wi 300 _ (by first | trivial | omega), hs (88 + i) (by first | trivial | omega)]; exact u7 i hi hi2
  · rw [hc 6 (by first | trivial | omega)] at hi2; rw [wi 301 _ (by first | trivial | omega), hs (100 + i) (by first | trivial | omega)]; exact u8 i hi hi2
  · rw [hc 7 (by first | trivial | omega)] at hi2; rw [wi 302 _ (by first | trivial | omega), hs (112 + i) (by first | trivial | omega)]; exact u9 i hi hi2
  · rw [wz 303 _ (by first | trivial | omega), hs (124 + i) (by first | trivial | omega)]; exact (u10 i hi).1
  · by_cases e : i = q
    · rw [e, ups_eq, wI_sI, if_pos ⟨rfl, rfl⟩]
    · rw [wi 304 _ (by omega), hs (136 + i) (by omega)]; exact (u10 i hi).2.1
  · rw [wi 305 _ (by first | trivial | omega), hs (148 + i) (by first | trivial | omega)]; exact (u10 i hi).2.2.1
  · rw [wi 306 _ (by first | trivial | omega), ht (34 + i) (by first | trivial | omega)]; exact (u10 i hi).2.2.2
  · rw [ai _ (by first | trivial | omega), hs (160 + k) (by first | trivial | omega)]; exact u11 k hk
  · rw [wi 912 _ (by first | trivial | omega), tld_c (fun k hk => hs (166 + k) (by first | trivial | omega))]; exact u12.1
  · rw [wi 913 _ (by first | trivial | omega), hs 164 (by first | trivial | omega)]; exact u12.2.1
  · rw [wz 914 _ (by first | trivial | omega), hs 165 (by first | trivial | omega)]; exact u12.2.2
  · rw [wi 201 _ (by first | trivial | omega), ht 1 (by first | trivial | omega)]; exact u13.1
  · rw [ai _ (by first | trivial | omega), hh]; exact u13.2 d hd
theorem XD_cx {w : Wd} {b : Nat} {c s t : Nat → Nat} {nm : Nat → Nat → List Nat} (hb : b ∈ SU) (h : XD w b c s t nm) (g : BD c s) {q : Nat} (hq : q < 12) (v : Nat) : XD (sI w 305 (b + 22 + q) (nI v)) b (c) (ups s (148 + q) v) (t) (nm) := by
  have ub := SU_rg hb
  obtain ⟨⟨g0, g1, g2, g3⟩, g10, g4⟩ := g
  have r : Fr (fun f x => f = 305 ∧ x = b + 22 + q) (fun x => False) w (sI w 305 (b + 22 + q) (nI v)) := fr_sI ⟨rfl, rfl⟩
  have wi : ∀ f x, ¬ (f = 305 ∧ x = b + 22 + q) → wI (sI w 305 (b + 22 + q) (nI v)) f x = wI w f x := fun f x q => (r.1 f x q).1
  have wz : ∀ f x, ¬ (f = 305 ∧ x = b + 22 + q) → wZ (sI w 305 (b + 22 + q) (nI v)) f x = wZ w f x := fun f x q => (r.1 f x q).2.2
  have ai : ∀ x, ¬ (False) → aI (sI w 305 (b + 22 + q) (nI v)) x = aI w x := fun x q => (r.2 x q).1
  have aj : ∀ x, ¬ (False) → aJ (sI w 305 (b + 22 + q) (nI v)) x = aJ w x := fun x q => (r.2 x q).2.1
  have hc : ∀ x, True → (c) x = c x := fun x q => rfl
  have hs : ∀ x, x ≠ 148 + q → (ups s (148 + q) v) x = s x := fun x q => ups_ne (by omega)
  have ht : ∀ x, True → (t) x = t x := fun x q => rfl
  have hn : ∀ k i, True → (nm) k i = nm k i := fun k i q => rfl
  have hh : ∀ d, isHol (t) d = isHol t d := fun d => rfl
  obtain ⟨u1, u2, u3, u4, u5, u6, u7, u8, u9, u10, u11, u12, u13⟩ := h
  refine ⟨fun k hk => ?_, fun k i hk hi => ?_, fun r hr => ?_, fun o ho => ⟨?_, fun k hk => ?_⟩, fun i hi => ?_, fun i hi => ?_, fun i hi hi2 => ?_, fun i hi hi2 => ?_, fun i hi hi2 => ?_, fun i hi => ⟨?_, ?_, ?_, ?_⟩, fun k hk => ?_, ⟨?_, ?_, ?_⟩, ⟨?_, fun d hd => ?_⟩⟩
  · rw [wi _ _ (by first | trivial | omega), hc _ (by first | trivial | omega)]; exact u1 k hk
  · rw [hc _ (by first | trivial | omega)] at hi; rw [aj _ (by first | trivial | omega), hn _ _ (by first | trivial | omega)]; exact u2 k i hk hi
  · rw [hs 0 (by first | trivial | omega)] at hr; rw [ai _ (by first | trivial | omega), hs (4 + r) (by first | trivial | omega), hs (7 + r) (by first | trivial | omega)]; exact u3 r hr
  · rw [ai _ (by first | trivial | omega), hs (10 + o) (by first | trivial | omega)]; exact (u4 o ho).1
  · rw [hs (10 + o) (by first | trivial | omega)] at hk; have := g10 o ho; rw [ai (b + 4) (by first | trivial | omega), ai (b + 5) (by first | trivial | omega), hs (16 + 6 * o + 2 * k) (by first | trivial | omega), hs (17 + 6 * o + 2 * k) (by first | trivial | omega)]; exact (u4 o ho).2 k hk
  · rw [hc 4 (by first | trivial | omega)] at hi; rw [ai (b + 6) (by first | trivial | omega), ai (b + 7) (by first | trivial | omega), hs (52 + i) (by first | trivial | omega), ht (22 + i) (by first | trivial | omega)]; exact u5 i hi
  · rw [hs 2 (by first | trivial | omega)] at hi; rw [ai (b + 8) (by first | trivial | omega), ai (b + 9) (by first | trivial | omega), hs (64 + i) (by first | trivial | omega), hs (76 + i) (by first | trivial | omega)]; exact u6 i hi
  · rw [hc 5 (by first | trivial | omega)] at hi2; rw [wi 300 _ (by first | trivial | omega), hs (88 + i) (by first | trivial | omega)]; exact u7 i hi hi2
  · rw [hc 6 (by first | trivial | omega)] at hi2; rw [wi 301 _ (by first | trivial | omega), hs (100 + i) (by first | trivial | omega)]; exact u8 i hi hi2
  · rw [hc 7 (by first | trivial | omega)] at hi2; rw [wi 302 _ (by first | trivial | omega), hs (112 + i) (by first | trivial | omega)]; exact u9 i hi hi2
  · rw [wz 303 _ (by first | trivial | omega), hs (124 + i) (by first | trivial | omega)]; exact (u10 i hi).1
  · rw [wi 304 _ (by first | trivial | omega), hs (136 + i) (by first | trivial | omega)]; exact (u10 i hi).2.1
  · by_cases e : i = q
    · rw [e, ups_eq, wI_sI, if_pos ⟨rfl, rfl⟩]
    · rw [wi 305 _ (by omega), hs (148 + i) (by omega)]; exact (u10 i hi).2.2.1
  · rw [wi 306 _ (by first | trivial | omega), ht (34 + i) (by first | trivial | omega)]; exact (u10 i hi).2.2.2
  · rw [ai _ (by first | trivial | omega), hs (160 + k) (by first | trivial | omega)]; exact u11 k hk
  · rw [wi 912 _ (by first | trivial | omega), tld_c (fun k hk => hs (166 + k) (by first | trivial | omega))]; exact u12.1
  · rw [wi 913 _ (by first | trivial | omega), hs 164 (by first | trivial | omega)]; exact u12.2.1
  · rw [wz 914 _ (by first | trivial | omega), hs 165 (by first | trivial | omega)]; exact u12.2.2
  · rw [wi 201 _ (by first | trivial | omega), ht 1 (by first | trivial | omega)]; exact u13.1
  · rw [ai _ (by first | trivial | omega), hh]; exact u13.2 d hd
theorem XD_cb {w : Wd} {b : Nat} {c s t : Nat → Nat} {nm : Nat → Nat → List Nat} (hb : b ∈ SU) (h : XD w b c s t nm) (g : BD c s) {q : Nat} (hq : q < 12) (ht20 : t 1 ≤ 20) (v : Nat) : XD (sI w 306 (b + 22 + q) (nI v)) b (c) (s) (ups t (34 + q) v) (nm) := by
  have ub := SU_rg hb
  obtain ⟨⟨g0, g1, g2, g3⟩, g10, g4⟩ := g
  have r : Fr (fun f x => f = 306 ∧ x = b + 22 + q) (fun x => False) w (sI w 306 (b + 22 + q) (nI v)) := fr_sI ⟨rfl, rfl⟩
  have wi : ∀ f x, ¬ (f = 306 ∧ x = b + 22 + q) → wI (sI w 306 (b + 22 + q) (nI v)) f x = wI w f x := fun f x q => (r.1 f x q).1
  have wz : ∀ f x, ¬ (f = 306 ∧ x = b + 22 + q) → wZ (sI w 306 (b + 22 + q) (nI v)) f x = wZ w f x := fun f x q => (r.1 f x q).2.2
  have ai : ∀ x, ¬ (False) → aI (sI w 306 (b + 22 + q) (nI v)) x = aI w x := fun x q => (r.2 x q).1
  have aj : ∀ x, ¬ (False) → aJ (sI w 306 (b + 22 + q) (nI v)) x = aJ w x := fun x q => (r.2 x q).2.1
  have hc : ∀ x, True → (c) x = c x := fun x q => rfl
  have hs : ∀ x, True → (s) x = s x := fun x q => rfl
  have ht : ∀ x, x ≠ 34 + q → (ups t (34 + q) v) x = t x := fun x q => ups_ne (by omega)
  have hn : ∀ k i, True → (nm) k i = nm k i := fun k i q => rfl
  have hh : ∀ d, isHol (ups t (34 + q) v) d = isHol t d := fun d => isHol_e ht20 (fun x z => ups_ne (by omega))
  obtain ⟨u1, u2, u3, u4, u5, u6, u7, u8, u9, u10, u11, u12, u13⟩ := h
  refine ⟨fun k hk => ?_, fun k i hk hi => ?_, fun r hr => ?_, fun o ho => ⟨?_, fun k hk => ?_⟩, fun i hi => ?_, fun i hi => ?_, fun i hi hi2 => ?_, fun i hi hi2 => ?_, fun i hi hi2 => ?_, fun i hi => ⟨?_, ?_, ?_, ?_⟩, fun k hk => ?_, ⟨?_, ?_, ?_⟩, ⟨?_, fun d hd => ?_⟩⟩
  · rw [wi _ _ (by first | trivial | omega), hc _ (by first | trivial | omega)]; exact u1 k hk
  · rw [hc _ (by first | trivial | omega)] at hi; rw [aj _ (by first | trivial | omega), hn _ _ (by first | trivial | omega)]; exact u2 k i hk hi
  · rw [hs 0 (by first | trivial | omega)] at hr; rw [ai _ (by first | trivial | omega), hs (4 + r) (by first | trivial | omega), hs (7 + r) (by first | trivial | omega)]; exact u3 r hr
  · rw [ai _ (by first | trivial | omega), hs (10 + o) (by first | trivial | omega)]; exact (u4 o ho).1
  · rw [hs (10 + o) (by first | trivial | omega)] at hk; have := g10 o ho; rw [ai (b + 4) (by first | trivial | omega), ai (b + 5) (by first | trivial | omega), hs (16 + 6 * o + 2 * k) (by first | trivial | omega), hs (17 + 6 * o + 2 * k) (by first | trivial | omega)]; exact (u4 o ho).2 k hk
  · rw [hc 4 (by first | trivial | omega)] at hi; rw [ai (b + 6) (by first | trivial | omega), ai (b + 7) (by first | trivial | omega), hs (52 + i) (by first | trivial | omega), ht (22 + i) (by first | trivial | omega)]; exact u5 i hi
  · rw [hs 2 (by first | trivial | omega)] at hi; rw [ai (b + 8) (by first | trivial | omega), ai (b + 9) (by first | trivial | omega), hs (64 + i) (by first | trivial | omega), hs (76 + i) (by first | trivial | omega)]; exact u6 i hi
  · rw [hc 5 (by first | trivial | omega)] at hi2; rw [wi 300 _ (by first | trivial | omega), hs (88 + i) (by first | trivial | omega)]; exact u7 i hi hi2
  · rw [hc 6 (by first | trivial | omega)] at hi2; rw [wi 301 _ (by first | trivial | omega), hs (100 + i) (by first | trivial | omega)]; exact u8 i hi hi2
  · rw [hc 7 (by first | trivial | omega)] at hi2; rw [wi 302 _ (by first | trivial | omega), hs (112 + i) (by first | trivial | omega)]; exact u9 i hi hi2
  · rw [wz 303 _ (by first | trivial | omega), hs (124 + i) (by first | trivial | omega)]; exact (u10 i hi).1
  · rw [wi 304 _ (by first | trivial | omega), hs (136 + i) (by first | trivial | omega)]; exact (u10 i hi).2.1
  · rw [wi 305 _ (by first | trivial | omega), hs (148 + i) (by first | trivial | omega)]; exact (u10 i hi).2.2.1
  · by_cases e : i = q
    · rw [e, ups_eq, wI_sI, if_pos ⟨rfl, rfl⟩]
    · rw [wi 306 _ (by omega), ht (34 + i) (by omega)]; exact (u10 i hi).2.2.2
  · rw [ai _ (by first | trivial | omega), hs (160 + k) (by first | trivial | omega)]; exact u11 k hk
  · rw [wi 912 _ (by first | trivial | omega), tld_c (fun k hk => hs (166 + k) (by first | trivial | omega))]; exact u12.1
  · rw [wi 913 _ (by first | trivial | omega), hs 164 (by first | trivial | omega)]; exact u12.2.1
  · rw [wz 914 _ (by first | trivial | omega), hs 165 (by first | trivial | omega)]; exact u12.2.2
  · rw [wi 201 _ (by first | trivial | omega), ht 1 (by first | trivial | omega)]; exact u13.1
  · rw [ai _ (by first | trivial | omega), hh]; exact u13.2 d hd
theorem XD_rt {w : Wd} {b : Nat} {c s t : Nat → Nat} {nm : Nat → Nat → List Nat} (hb : b ∈ SU) (h : XD w b c s t nm) (g : BD c s) {q : Nat} (hq : q < 4) {v : Nat} (hv : tld (ups s (166 + q) 1) = v) : XD (sI w 912 b (nI v)) b (c) (ups s (166 + q) 1) (t) (nm) := by
  have ub := SU_rg hb
  obtain ⟨⟨g0, g1, g2, g3⟩, g10, g4⟩ := g
  have r : Fr (fun f x => f = 912 ∧ x = b) (fun x => False) w (sI w 912 b (nI v)) := fr_sI ⟨rfl, rfl⟩
  have wi : ∀ f x, ¬ (f = 912 ∧ x = b) → wI (sI w 912 b (nI v)) f x = wI w f x := fun f x q => (r.1 f x q).1
  have wz : ∀ f x, ¬ (f = 912 ∧ x = b) → wZ (sI w 912 b (nI v)) f x = wZ w f x := fun f x q => (r.1 f x q).2.2
  have ai : ∀ x, ¬ (False) → aI (sI w 912 b (nI v)) x = aI w x := fun x q => (r.2 x q).1
  have aj : ∀ x, ¬ (False) → aJ (sI w 912 b (nI v)) x = aJ w x := fun x q => (r.2 x q).2.1
  have hc : ∀ x, True → (c) x = c x := fun x q => rfl
  have hs : ∀ x, x ≠ 166 + q → (ups s (166 + q) 1) x = s x := fun x q => ups_ne (by omega)
  have ht : ∀ x, True → (t) x = t x := fun x q => rfl
  have hn : ∀ k i, True → (nm) k i = nm k i := fun k i q => rfl
  have hh : ∀ d, isHol (t) d = isHol t d := fun d => rfl
  obtain ⟨u1, u2, u3, u4, u5, u6, u7, u8, u9, u10, u11, u12, u13⟩ := h
  refine ⟨fun k hk => ?_, fun k i hk hi => ?_, fun r hr => ?_, fun o ho => ⟨?_, fun k hk => ?_⟩, fun i hi => ?_, fun i hi => ?_, fun i hi hi2 => ?_, fun i hi hi2 => ?_, fun i hi hi2 => ?_, fun i hi => ⟨?_, ?_, ?_, ?_⟩, fun k hk => ?_, ⟨?_, ?_, ?_⟩, ⟨?_, fun d hd => ?_⟩⟩
  · rw [wi _ _ (by first | trivial | omega), hc _ (by first | trivial | omega)]; exact u1 k hk
  · rw [hc _ (by first | trivial | omega)] at hi; rw [aj _ (by first | trivial | omega), hn _ _ (by first | trivial | omega)]; exact u2 k i hk hi
  · rw [hs 0 (by first | trivial | omega)] at hr; rw [ai _ (by first | trivial | omega), hs (4 + r) (by first | trivial | omega), hs (7 + r) (by first | trivial | omega)]; exact u3 r hr
  · rw [ai _ (by first | trivial | omega), hs (10 + o) (by first | trivial | omega)]; exact (u4 o ho).1
  · rw [hs (10 + o) (by first | trivial | omega)] at hk; have := g10 o ho; rw [ai (b + 4) (by first | trivial | omega), ai (b + 5) (by first | trivial | omega), hs (16 + 6 * o + 2 * k) (by first | trivial | omega), hs (17 + 6 * o + 2 * k) (by first | trivial | omega)]; exact (u4 o ho).2 k hk
  · rw [hc 4 (by first | trivial | omega)] at hi; rw [ai (b + 6) (by first | trivial | omega), ai (b + 7) (by first | trivial | omega), hs (52 + i) (by first | trivial | omega), ht (22 + i) (by first | trivial | omega)]; exact u5 i hi
  · rw [hs 2 (by first | trivial | omega)] at hi; rw [ai (b + 8) (by first | trivial | omega), ai (b + 9) (by first | trivial | omega), hs (64 + i) (by first | trivial | omega), hs (76 + i) (by first | trivial | omega)]; exact u6 i hi
  · rw [hc 5 (by first | trivial | omega)] at hi2; rw [wi 300 _ (by first | trivial | omega), hs (88 + i) (by first | trivial | omega)]; exact u7 i hi hi2
  · rw [hc 6 (by first | trivial | omega)] at hi2; rw [wi 301 _ (by first | trivial | omega), hs (100 + i) (by first | trivial | omega)]; exact u8 i hi hi2
  · rw [hc 7 (by first | trivial | omega)] at hi2; rw [wi 302 _ (by first | trivial | omega), hs (112 + i) (by first | trivial | omega)]; exact u9 i hi hi2
  · rw [wz 303 _ (by first | trivial | omega), hs (124 + i) (by first | trivial | omega)]; exact (u10 i hi).1
  · rw [wi 304 _ (by first | trivial | omega), hs (136 + i) (by first | trivial | omega)]; exact (u10 i hi).2.1
  · rw [wi 305 _ (by first | trivial | omega), hs (148 + i) (by first | trivial | omega)]; exact (u10 i hi).2.2.1
  · rw [wi 306 _ (by first | trivial | omega), ht (34 + i) (by first | trivial | omega)]; exact (u10 i hi).2.2.2
  · rw [ai _ (by first | trivial | omega), hs (160 + k) (by first | trivial | omega)]; exact u11 k hk
  · rw [wI_sI, if_pos ⟨rfl, rfl⟩, hv]
  · rw [wi 913 _ (by first | trivial | omega), hs 164 (by first | trivial | omega)]; exact u12.2.1
  · rw [wz 914 _ (by first | trivial | omega), hs 165 (by first | trivial | omega)]; exact u12.2.2
  · rw [wi 201 _ (by first | trivial | omega), ht 1 (by first | trivial | omega)]; exact u13.1
  · rw [ai _ (by first | trivial | omega), hh]; exact u13.2 d hd
theorem XD_rd {w : Wd} {b : Nat} {c s t : Nat → Nat} {nm : Nat → Nat → List Nat} (hb : b ∈ SU) (h : XD w b c s t nm) (g : BD c s) {q : Nat} (hq : q < 4) (v : Nat) : XD (tI w (b + 13) q (nI v)) b (c) (ups s (160 + q) v) (t) (nm) := by
  have ub := SU_rg hb
  obtain ⟨⟨g0, g1, g2, g3⟩, g10, g4⟩ := g
  have r : Fr (fun f x => False) (fun x => x = b + 13) w (tI w (b + 13) q (nI v)) := (ofi_tI (S := fun _ _ => False) (A := fun x => x = b + 13) rfl).fr
  have wi : ∀ f x, ¬ (False) → wI (tI w (b + 13) q (nI v)) f x = wI w f x := fun f x q => (r.1 f x q).1
  have wz : ∀ f x, ¬ (False) → wZ (tI w (b + 13) q (nI v)) f x = wZ w f x := fun f x q => (r.1 f x q).2.2
  have ai : ∀ x, ¬ (x = b + 13) → aI (tI w (b + 13) q (nI v)) x = aI w x := fun x q => (r.2 x q).1
  have aj : ∀ x, ¬ (x = b + 13) → aJ (tI w (b + 13) q (nI v)) x = aJ w x := fun x q => (r.2 x q).2.1
  have hc : ∀ x, True → (c) x = c x := fun x q => rfl
  have hs : ∀ x, x ≠ 160 + q → (ups s (160 + q) v) x = s x := fun x q => ups_ne (by omega)
  have ht : ∀ x, True → (t) x = t x := fun x q => rfl
  have hn : ∀ k i, True → (nm) k i = nm k i := fun k i q => rfl
  have hh : ∀ d, isHol (t) d = isHol t d := fun d => rfl
  obtain ⟨u1, u2, u3, u4, u5, u6, u7, u8, u9, u10, u11, u12, u13⟩ := h
  refine ⟨fun k hk => ?_, fun k i hk hi => ?_, fun r hr => ?_, fun o ho => ⟨?_, fun k hk => ?_⟩, fun i hi => ?_, fun i hi => ?_, fun i hi hi2 => ?_, fun i hi hi2 => ?_, fun i hi hi2 => ?_, fun i hi => ⟨?_, ?_, ?_, ?_⟩, fun k hk => ?_, ⟨?_, ?_, ?_⟩, ⟨?_, fun d hd => ?_⟩⟩
  · rw [wi _ _ (by first | trivial | omega), hc _ (by first | trivial | omega)]; exact u1 k hk
  · rw [hc _ (by first | trivial | omega)] at hi; rw [aj _ (by first | trivial | omega), hn _ _ (by first | trivial | omega)]; exact u2 k i hk hi
  · rw [hs 0 (by first | trivial | omega)] at hr; rw [ai _ (by first | trivial | omega), hs (4 + r) (by first | trivial | omega), hs (7 + r) (by first | trivial | omega)]; exact u3 r hr
  · rw [ai _ (by first | trivial | omega), hs (10 + o) (by first | trivial | omega)]; exact (u4 o ho).1
  · rw [hs (10 + o) (by first | trivial | omega)] at hk; have := g10 o ho; rw [ai (b + 4) (by first | trivial | omega), ai (b + 5) (by first | trivial | omega), hs (16 + 6 * o + 2 * k) (by first | trivial | omega), hs (17 + 6 * o + 2 * k) (by first | trivial | omega)]; exact (u4 o ho).2 k hk
  · rw [hc 4 (by first | trivial | omega)] at hi; rw [ai (b + 6) (by first | trivial | omega), ai (b + 7) (by first | trivial | omega), hs (52 + i) (by first | trivial | omega), ht (22 + i) (by first | trivial | omega)]; exact u5 i hi
  · rw [hs 2 (by first | trivial | omega)] at hi; rw [ai (b + 8) (by first | trivial | omega), ai (b + 9) (by first | trivial | omega), hs (64 + i) (by first | trivial | omega), hs (76 + i) (by first | trivial | omega)]; exact u6 i hi
  · rw [hc 5 (by first | trivial | omega)] at hi2; rw [wi 300 _ (by first | trivial | omega), hs (88 + i) (by first | trivial | omega)]; exact u7 i hi hi2
  · rw [hc 6 (by first | trivial | omega)] at hi2; rw [wi 301 _ (by first | trivial | omega), hs (100 + i) (by first | trivial | omega)]; exact u8 i hi hi2
  · rw [hc 7 (by first | trivial | omega)] at hi2; rw [wi 302 _ (by first | trivial | omega), hs (112 + i) (by first | trivial | omega)]; exact u9 i hi hi2
  · rw [wz 303 _ (by first | trivial | omega), hs (124 + i) (by first | trivial | omega)]; exact (u10 i hi).1
  · rw [wi 304 _ (by first | trivial | omega), hs (136 + i) (by first | trivial | omega)]; exact (u10 i hi).2.1
  · rw [wi 305 _ (by first | trivial | omega), hs (148 + i) (by first | trivial | omega)]; exact (u10 i hi).2.2.1
  · rw [wi 306 _ (by first | trivial | omega), ht (34 + i) (by first | trivial | omega)]; exact (u10 i hi).2.2.2
  · rw [aI_tI]
    by_cases e : k = q
    · rw [if_pos ⟨rfl, e⟩, e, ups_eq]
    · rw [if_neg (fun z => e z.2), hs (160 + k) (by omega)]; exact u11 k hk
  · rw [wi 912 _ (by first | trivial | omega), tld_c (fun k hk => hs (166 + k) (by first | trivial | omega))]; exact u12.1
  · rw [wi 913 _ (by first | trivial | omega), hs 164 (by first | trivial | omega)]; exact u12.2.1
  · rw [wz 914 _ (by first | trivial | omega), hs 165 (by first | trivial | omega)]; exact u12.2.2
  · rw [wi 201 _ (by first | trivial | omega), ht 1 (by first | trivial | omega)]; exact u13.1
  · rw [ai _ (by first | trivial | omega), hh]; exact u13.2 d hd
theorem XD_kt {w : Wd} {b : Nat} {c s t : Nat → Nat} {nm : Nat → Nat → List Nat} (hb : b ∈ SU) (h : XD w b c s t nm) (g : BD c s)  : XD (sZ w 914 b true) b (c) (ups s 165 1) (t) (nm) := by
  have ub := SU_rg hb
  obtain ⟨⟨g0, g1, g2, g3⟩, g10, g4⟩ := g
  have r : Fr (fun f x => f = 914 ∧ x = b) (fun x => False) w (sZ w 914 b true) := fr_sZ ⟨rfl, rfl⟩
  have wi : ∀ f x, ¬ (f = 914 ∧ x = b) → wI (sZ w 914 b true) f x = wI w f x := fun f x q => (r.1 f x q).1
  have wz : ∀ f x, ¬ (f = 914 ∧ x = b) → wZ (sZ w 914 b true) f x = wZ w f x := fun f x q => (r.1 f x q).2.2
  have ai : ∀ x, ¬ (False) → aI (sZ w 914 b true) x = aI w x := fun x q => (r.2 x q).1
  have aj : ∀ x, ¬ (False) → aJ (sZ w 914 b true) x = aJ w x := fun x q => (r.2 x q).2.1
  have hc : ∀ x, True → (c) x = c x := fun x q => rfl
  have hs : ∀ x, x ≠ 165 → (ups s 165 1) x = s x := fun x q => ups_ne (by omega)
  have ht : ∀ x, True → (t) x = t x := fun x q => rfl
  have hn : ∀ k i, True → (nm) k i = nm k i := fun k i q => rfl
  have hh : ∀ d, isHol (t) d = isHol t d := fun d => rfl
  obtain ⟨u1, u2, u3, u4, u5, u6, u7, u8, u9, u10, u11, u12, u13⟩ := h
  refine ⟨fun k hk => ?_, fun k i hk hi => ?_, fun r hr => ?_, fun o ho => ⟨?_, fun k hk => ?_⟩, fun i hi => ?_, fun i hi => ?_, fun i hi hi2 => ?_, fun i hi hi2 => ?_, fun i hi hi2 => ?_, fun i hi => ⟨?_, ?_, ?_, ?_⟩, fun k hk => ?_, ⟨?_, ?_, ?_⟩, ⟨?_, fun d hd => ?_⟩⟩
  · rw [wi _ _ (by first | trivial | omega), hc _ (by first | trivial | omega)]; exact u1 k hk
  · rw [hc _ (by first | trivial | omega)] at hi; rw [aj _ (by first | trivial | omega), hn _ _ (by first | trivial | omega)]; exact u2 k i hk hi
  · rw [hs 0 (by first | trivial | omega)] at hr; rw [ai _ (by first | trivial | omega), hs (4 + r) (by first | trivial | omega), hs (7 + r) (by first | trivial | omega)]; exact u3 r hr
  · rw [ai _ (by first | trivial | omega), hs (10 + o) (by first | trivial | omega)]; exact (u4 o ho).1
  · rw [hs (10 + o) (by first | trivial | omega)] at hk; have := g10 o ho; rw [ai (b + 4) (by first | trivial | omega), ai (b + 5) (by first | trivial | omega), hs (16 + 6 * o + 2 * k) (by first | trivial | omega), hs (17 + 6 * o + 2 * k) (by first | trivial | omega)]; exact (u4 o ho).2 k hk
  · rw [hc 4 (by first | trivial | omega)] at hi; rw [ai (b + 6) (by first | trivial | omega), ai (b + 7) (by first | trivial | omega), hs (52 + i) (by first | trivial | omega), ht (22 + i) (by first | trivial | omega)]; exact u5 i hi
  · rw [hs 2 (by first | trivial | omega)] at hi; rw [ai (b + 8) (by first | trivial | omega), ai (b + 9) (by first | trivial | omega), hs (64 + i) (by first | trivial | omega), hs (76 + i) (by first | trivial | omega)]; exact u6 i hi
  · rw [hc 5 (by first | trivial | omega)] at hi2; rw [wi 300 _ (by first | trivial | omega), hs (88 + i) (by first | trivial | omega)]; exact u7 i hi hi2
  · rw [hc 6 (by first | trivial | omega)] at hi2; rw [wi 301 _ (by first | trivial | omega), hs (100 + i) (by first | trivial | omega)]; exact u8 i hi hi2
  · rw [hc 7 (by first | trivial | omega)] at hi2; rw [wi 302 _ (by first | trivial | omega), hs (112 + i) (by first | trivial | omega)]; exact u9 i hi hi2
  · rw [wz 303 _ (by first | trivial | omega), hs (124 + i) (by first | trivial | omega)]; exact (u10 i hi).1
  · rw [wi 304 _ (by first | trivial | omega), hs (136 + i) (by first | trivial | omega)]; exact (u10 i hi).2.1
  · rw [wi 305 _ (by first | trivial | omega), hs (148 + i) (by first | trivial | omega)]; exact (u10 i hi).2.2.1
  · rw [wi 306 _ (by first | trivial | omega), ht (34 + i) (by first | trivial | omega)]; exact (u10 i hi).2.2.2
  · rw [ai _ (by first | trivial | omega), hs (160 + k) (by first | trivial | omega)]; exact u11 k hk
  · rw [wi 912 _ (by first | trivial | omega), tld_c (fun k hk => hs (166 + k) (by first | trivial | omega))]; exact u12.1
  · rw [wi 913 _ (by first | trivial | omega), hs 164 (by first | trivial | omega)]; exact u12.2.1
  · rw [wZ_sZ, if_pos ⟨rfl, rfl⟩, ups_eq]; rfl
  · rw [wi 201 _ (by first | trivial | omega), ht 1 (by first | trivial | omega)]; exact u13.1
  · rw [ai _ (by first | trivial | omega), hh]; exact u13.2 d hd
theorem XD_kv {w : Wd} {b : Nat} {c s t : Nat → Nat} {nm : Nat → Nat → List Nat} (hb : b ∈ SU) (h : XD w b c s t nm) (g : BD c s) (v : Nat) : XD (sI w 913 b (nI v)) b (c) (ups s 164 v) (t) (nm) := by
  have ub := SU_rg hb
  obtain ⟨⟨g0, g1, g2, g3⟩, g10, g4⟩ := g
  have r : Fr (fun f x => f = 913 ∧ x = b) (fun x => False) w (sI w 913 b (nI v)) := fr_sI ⟨rfl, rfl⟩
  have wi : ∀ f x, ¬ (f = 913 ∧ x = b) → wI (sI w 913 b (nI v)) f x = wI w f x := fun f x q => (r.1 f x q).1
  have wz : ∀ f x, ¬ (f = 913 ∧ x = b) → wZ (sI w 913 b (nI v)) f x = wZ w f x := fun f x q => (r.1 f x q).2.2
  have ai : ∀ x, ¬ (False) → aI (sI w 913 b (nI v)) x = aI w x := fun x q => (r.2 x q).1
  have aj : ∀ x, ¬ (False) → aJ (sI w 913 b (nI v)) x = aJ w x := fun x q => (r.2 x q).2.1
  have hc : ∀ x, True → (c) x = c x := fun x q => rfl
  have hs : ∀ x, x ≠ 164 → (ups s 164 v) x = s x := fun x q => ups_ne (by omega)
  have ht : ∀ x, True → (t) x = t x := fun x q => rfl
  have hn : ∀ k i, True → (nm) k i = nm k i := fun k i q => rfl
  have hh : ∀ d, isHol (t) d = isHol t d := fun d => rfl
  obtain ⟨u1, u2, u3, u4, u5, u6, u7, u8, u9, u10, u11, u12, u13⟩ := h
  refine ⟨fun k hk => ?_, fun k i hk hi => ?_, fun r hr => ?_, fun o ho => ⟨?_, fun k hk => ?_⟩, fun i hi => ?_, fun i hi => ?_, fun i hi hi2 => ?_, fun i hi hi2 => ?_, fun i hi hi2 => ?_, fun i hi => ⟨?_, ?_, ?_, ?_⟩, fun k hk => ?_, ⟨?_, ?_, ?_⟩, ⟨?_, fun d hd => ?_⟩⟩
  · rw [wi _ _ (by first | trivial | omega), hc _ (by first | trivial | omega)]; exact u1 k hk
  · rw [hc _ (by first | trivial | omega)] at hi; rw [aj _ (by first | trivial | omega), hn _ _ (by first | trivial | omega)]; exact u2 k i hk hi
  · rw [hs 0 (by first | trivial | omega)] at hr; rw [ai _ (by first | trivial | omega), hs (4 + r) (by first | trivial | omega), hs (7 + r) (by first | trivial | omega)]; exact u3 r hr
  · rw [ai _ (by first | trivial | omega), hs (10 + o) (by first | trivial | omega)]; exact (u4 o ho).1
  · rw [hs (10 + o) (by first | trivial | omega)] at hk; have := g10 o ho; rw [ai (b + 4) (by first | trivial | omega), ai (b + 5) (by first | trivial | omega), hs (16 + 6 * o + 2 * k) (by first | trivial | omega), hs (17 + 6 * o + 2 * k) (by first | trivial | omega)]; exact (u4 o ho).2 k hk
  · rw [hc 4 (by first | trivial | omega)] at hi; rw [ai (b + 6) (by first | trivial | omega), ai (b + 7) (by first | trivial | omega), hs (52 + i) (by first | trivial | omega), ht (22 + i) (by first | trivial | omega)]; exact u5 i hi
  · rw [hs 2 (by first | trivial | omega)] at hi; rw [ai (b + 8) (by first | trivial | omega), ai (b + 9) (by first | trivial | omega), hs (64 + i) (by first | trivial | omega), hs (76 + i) (by first | trivial | omega)]; exact u6 i hi
  · rw [hc 5 (by first | trivial | omega)] at hi2; rw [wi 300 _ (by first | trivial | omega), hs (88 + i) (by first | trivial | omega)]; exact u7 i hi hi2
  · rw [hc 6 (by first | trivial | omega)] at hi2; rw [wi 301 _ (by first | trivial | omega), hs (100 + i) (by first | trivial | omega)]; exact u8 i hi hi2
  · rw [hc 7 (by first | trivial | omega)] at hi2; rw [wi 302 _ (by first | trivial | omega), hs (112 + i) (by first | trivial | omega)]; exact u9 i hi hi2
  · rw [wz 303 _ (by first | trivial | omega), hs (124 + i) (by first | trivial | omega)]; exact (u10 i hi).1
  · rw [wi 304 _ (by first | trivial | omega), hs (136 + i) (by first | trivial | omega)]; exact (u10 i hi).2.1
  · rw [wi 305 _ (by first | trivial | omega), hs (148 + i) (by first | trivial | omega)]; exact (u10 i hi).2.2.1
  · rw [wi 306 _ (by first | trivial | omega), ht (34 + i) (by first | trivial | omega)]; exact (u10 i hi).2.2.2
  · rw [ai _ (by first | trivial | omega), hs (160 + k) (by first | trivial | omega)]; exact u11 k hk
  · rw [wi 912 _ (by first | trivial | omega), tld_c (fun k hk => hs (166 + k) (by first | trivial | omega))]; exact u12.1
  · rw [wI_sI, if_pos ⟨rfl, rfl⟩, ups_eq]
  · rw [wz 914 _ (by first | trivial | omega), hs 165 (by first | trivial | omega)]; exact u12.2.2
  · rw [wi 201 _ (by first | trivial | omega), ht 1 (by first | trivial | omega)]; exact u13.1
  · rw [ai _ (by first | trivial | omega), hh]; exact u13.2 d hd
theorem XD_ho {w : Wd} {b : Nat} {c s t : Nat → Nat} {nm : Nat → Nat → List Nat} (hb : b ∈ SU) (h : XD w b c s t nm) (g : BD c s) {d : Nat} (hd : d < 600) (h1 : t 1 < 20) : XD (sI (tI w (b + 12) (d / 32) (aI w (b + 12) (d / 32) ||| nI (2 ^ (d % 32)))) 201 (b + 11) (nI (t 1 + 1))) b (c) (s) (hoT t d) (nm) := by
  have ub := SU_rg hb
  obtain ⟨⟨g0, g1, g2, g3⟩, g10, g4⟩ := g
  have r : Fr (fun f x => f = 201 ∧ x = b + 11) (fun x => x = b + 12) w (sI (tI w (b + 12) (d / 32) (aI w (b + 12) (d / 32) ||| nI (2 ^ (d % 32)))) 201 (b + 11) (nI (t 1 + 1))) := Fr.trans (ofi_tI (S := fun f x => f = 201 ∧ x = b + 11) (A := fun x => x = b + 12) rfl).fr (fr_sI ⟨rfl, rfl⟩)
  have wi : ∀ f x, ¬ (f = 201 ∧ x = b + 11) → wI (sI (tI w (b + 12) (d / 32) (aI w (b + 12) (d / 32) ||| nI (2 ^ (d % 32)))) 201 (b + 11) (nI (t 1 + 1))) f x = wI w f x := fun f x q => (r.1 f x q).1
  have wz : ∀ f x, ¬ (f = 201 ∧ x = b + 11) → wZ (sI (tI w (b + 12) (d / 32) (aI w (b + 12) (d / 32) ||| nI (2 ^ (d % 32)))) 201 (b + 11) (nI (t 1 + 1))) f x = wZ w f x := fun f x q => (r.1 f x q).2.2
  have ai : ∀ x, ¬ (x = b + 12) → aI (sI (tI w (b + 12) (d / 32) (aI w (b + 12) (d / 32) ||| nI (2 ^ (d % 32)))) 201 (b + 11) (nI (t 1 + 1))) x = aI w x := fun x q => (r.2 x q).1
  have aj : ∀ x, ¬ (x = b + 12) → aJ (sI (tI w (b + 12) (d / 32) (aI w (b + 12) (d / 32) ||| nI (2 ^ (d % 32)))) 201 (b + 11) (nI (t 1 + 1))) x = aJ w x := fun x q => (r.2 x q).2.1
  have hc : ∀ x, True → (c) x = c x := fun x q => rfl
  have hs : ∀ x, True → (s) x = s x := fun x q => rfl
  have ht : ∀ x, (x ≠ 1 ∧ x ≠ 2 + t 1) → (hoT t d) x = t x := fun x q => hoT_ne (by omega) (by omega)
  have hn : ∀ k i, True → (nm) k i = nm k i := fun k i q => rfl
  obtain ⟨u1, u2, u3, u4, u5, u6, u7, u8, u9, u10, u11, u12, u13⟩ := h
  refine ⟨fun k hk => ?_, fun k i hk hi => ?_, fun r hr => ?_, fun o ho => ⟨?_, fun k hk => ?_⟩, fun i hi => ?_, fun i hi => ?_, fun i hi hi2 => ?_, fun i hi hi2 => ?_, fun i hi hi2 => ?_, fun i hi => ⟨?_, ?_, ?_, ?_⟩, fun k hk => ?_, ⟨?_, ?_, ?_⟩, ⟨?_, fun e hd2 => ?_⟩⟩
  · rw [wi _ _ (by first | trivial | omega), hc _ (by first | trivial | omega)]; exact u1 k hk
  · rw [hc _ (by first | trivial | omega)] at hi; rw [aj _ (by first | trivial | omega), hn _ _ (by first | trivial | omega)]; exact u2 k i hk hi
  · rw [hs 0 (by first | trivial | omega)] at hr; rw [ai _ (by first | trivial | omega), hs (4 + r) (by first | trivial | omega), hs (7 + r) (by first | trivial | omega)]; exact u3 r hr
  · rw [ai _ (by first | trivial | omega), hs (10 + o) (by first | trivial | omega)]; exact (u4 o ho).1
  · rw [hs (10 + o) (by first | trivial | omega)] at hk; have := g10 o ho; rw [ai (b + 4) (by first | trivial | omega), ai (b + 5) (by first | trivial | omega), hs (16 + 6 * o + 2 * k) (by first | trivial | omega), hs (17 + 6 * o + 2 * k) (by first | trivial | omega)]; exact (u4 o ho).2 k hk
  · rw [hc 4 (by first | trivial | omega)] at hi; rw [ai (b + 6) (by first | trivial | omega), ai (b + 7) (by first | trivial | omega), hs (52 + i) (by first | trivial | omega), ht (22 + i) (by first | trivial | omega)]; exact u5 i hi
  · rw [hs 2 (by first | trivial | omega)] at hi; rw [ai (b + 8) (by first | trivial | omega), ai (b + 9) (by first | trivial | omega), hs (64 + i) (by first | trivial | omega), hs (76 + i) (by first | trivial | omega)]; exact u6 i hi
  · rw [hc 5 (by first | trivial | omega)] at hi2; rw [wi 300 _ (by first | trivial | omega), hs (88 + i) (by first | trivial | omega)]; exact u7 i hi hi2
  · rw [hc 6 (by first | trivial | omega)] at hi2; rw [wi 301 _ (by first | trivial | omega), hs (100 + i) (by first | trivial | omega)]; exact u8 i hi hi2
  · rw [hc 7 (by first | trivial | omega)] at hi2; rw [wi 302 _ (by first | trivial | omega), hs (112 + i) (by first | trivial | omega)]; exact u9 i hi hi2
  · rw [wz 303 _ (by first | trivial | omega), hs (124 + i) (by first | trivial | omega)]; exact (u10 i hi).1
  · rw [wi 304 _ (by first | trivial | omega), hs (136 + i) (by first | trivial | omega)]; exact (u10 i hi).2.1
  · rw [wi 305 _ (by first | trivial | omega), hs (148 + i) (by first | trivial | omega)]; exact (u10 i hi).2.2.1
  · rw [wi 306 _ (by first | trivial | omega), ht (34 + i) (by first | trivial | omega)]; exact (u10 i hi).2.2.2
  · rw [ai _ (by first | trivial | omega), hs (160 + k) (by first | trivial | omega)]; exact u11 k hk
  · rw [wi 912 _ (by first | trivial | omega), tld_c (fun k hk => hs (166 + k) (by first | trivial | omega))]; exact u12.1
  · rw [wi 913 _ (by first | trivial | omega), hs 164 (by first | trivial | omega)]; exact u12.2.1
  · rw [wz 914 _ (by first | trivial | omega), hs 165 (by first | trivial | omega)]; exact u12.2.2
  · rw [wI_sI, if_pos ⟨rfl, rfl⟩, hoT_1]
  · rw [hoT_hol, aI_sI, aI_tI]
    by_cases e1 : e / 32 = d / 32
    · rw [if_pos ⟨rfl, e1⟩, bit_or (by omega) (by omega), ← e1]
      by_cases e2 : e % 32 = d % 32
      · have e3 : d = e := by omega
        rw [if_pos e2, e3, beq_self_eq_true, Bool.or_true]; rfl
      · have e3 : d ≠ e := fun q => e2 (by rw [q])
        rw [if_neg e2, beq_false_of_ne e3, Bool.or_false]
        exact u13.2 e hd2
    · have e3 : d ≠ e := fun q => e1 (by rw [q])
      rw [if_neg (fun q => e1 q.2), beq_false_of_ne e3, Bool.or_false]
      exact u13.2 e hd2

