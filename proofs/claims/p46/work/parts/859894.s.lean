variable {X : Kd}
def PSS (b f x : Nat) : Prop := (x = 36 ∧ 502 ≤ f ∧ f ≤ 506) ∨ (x = 37 ∧ 800 ≤ f ∧ f ≤ 806) ∨ (b ≤ x ∧ x < b + 34)
def PSA (b x : Nat) : Prop := b ≤ x ∧ x < b + 34
def XP (w0 w : Wd) (n : Nat) (bf : Nat → Int32) (b p0 p : Nat) : Prop := FX w ∧ b ∈ SU ∧ (p ≤ n ∧ p0 ≤ p ∧ TX n bf) ∧ XT w n bf ∧ TKx w n bf p ∧ wR w 501 36 = some b ∧ (wI w 502 36 = 0 ∧ wI w 503 36 = -1) ∧ Fr (PSS b) (PSA b) w0 w
def XFl (w0 w : Wd) (b : Nat) (e : Nat × Nat) : Prop := FX w ∧ wR w 501 36 = some b ∧ wI w 502 36 = nI e.1 ∧ wI w 503 36 = nI e.2 ∧ Fr (PSS b) (PSA b) w0 w
def tld (s : Nat → Nat) : Nat := orS (fun k => if s (166 + k) = 1 then 2 ^ k else 0) 4
def XD (w : Wd) (b : Nat) (c s t : Nat → Nat) (nm : Nat → Nat → List Nat) : Prop :=
  (∀ k, k < 4 → wI w 401 (b + 14 + 2 * k) = nI (c k)) ∧ (∀ k i, k < 4 → i < c k → aJ w (b + 15 + 2 * k) i = nJ (pkX (nm k i))) ∧
  (∀ r, r < s 0 → aI w (b + 2) r = nI (msk (s (4 + r)) (s (7 + r)))) ∧
  (∀ o, o < 6 → aI w (b + 3) o = nI (s (10 + o)) ∧ ∀ k, k < s (10 + o) → aI w (b + 4) (3 * o + k) = nI (s (16 + 6 * o + 2 * k)) ∧ aI w (b + 5) (3 * o + k) = nI (s (17 + 6 * o + 2 * k))) ∧
  (∀ i, i < c 4 → aI w (b + 6) i = nI (s (52 + i)) ∧ aI w (b + 7) i = nI (t (22 + i)) - nI 1) ∧
  (∀ i, i < s 2 → aI w (b + 8) i = nI (s (64 + i)) ∧ aI w (b + 9) i = nI (s (76 + i))) ∧
  (∀ i, i < 12 → i < c 5 → wI w 300 (b + 22 + i) = nI (s (88 + i))) ∧ (∀ i, i < 12 → i < c 6 → wI w 301 (b + 22 + i) = nI (s (100 + i))) ∧ (∀ i, i < 12 → i < c 7 → wI w 302 (b + 22 + i) = nI (s (112 + i))) ∧
  (∀ i, i < 12 → wZ w 303 (b + 22 + i) = (s (124 + i) == 1) ∧ wI w 304 (b + 22 + i) = nI (s (136 + i)) ∧ wI w 305 (b + 22 + i) = nI (s (148 + i)) ∧ wI w 306 (b + 22 + i) = nI (t (34 + i))) ∧
  (∀ k, k < 4 → aI w (b + 13) k = nI (s (160 + k))) ∧ (wI w 912 b = nI (tld s) ∧ wI w 913 b = nI (s 164) ∧ wZ w 914 b = (s 165 == 1)) ∧
  (wI w 201 (b + 11) = nI (t 1) ∧ ∀ d, d < 600 → ushr (aI w (b + 12) (d / 32)) (nI (d % 32)) &&& nI 1 = nI (bn (isHol t d)))
def XQr (w0 w : Wd) (n : Nat) (bf : Nat → Int32) (b p0 p : Nat) (c s t : Nat → Nat) (nm : Nat → Nat → List Nat) : Prop := XP w0 w n bf b p0 p ∧ XD w b c s t nm
theorem XD.fr {S : Nat → Nat → Prop} {A : Nat → Prop} {w w' : Wd} {b : Nat} {c s t : Nat → Nat} {nm : Nat → Nat → List Nat} (h : XD w b c s t nm) (k : Fr S A w w') (hS : ∀ f x, b ≤ x → x < b + 34 → ¬ S f x) (hA : ∀ x, b ≤ x → x < b + 34 → ¬ A x) : XD w' b c s t nm := by
  have wi : ∀ f x, b ≤ x → x < b + 34 → wI w' f x = wI w f x := fun f x h1 h2 => (k.1 f x (hS f x h1 h2)).1
  have wz : ∀ f x, b ≤ x → x < b + 34 → wZ w' f x = wZ w f x := fun f x h1 h2 => (k.1 f x (hS f x h1 h2)).2.2
  have ai : ∀ x, b ≤ x → x < b + 34 → aI w' x = aI w x := fun x h1 h2 => (k.2 x (hA x h1 h2)).1
  have aj : ∀ x, b ≤ x → x < b + 34 → aJ w' x = aJ w x := fun x h1 h2 => (k.2 x (hA x h1 h2)).2.1
  obtain ⟨u1, u2, u3, u4, u5, u6, u7, u8, u9, u10, u11, u12, u13⟩ := h
  refine ⟨fun k hk => ?_, fun k i hk hi => ?_, fun r hr => ?_, fun o ho => ⟨?_, fun k hk => ?_⟩, fun i hi => ?_, fun i hi => ?_, fun i hi hi2 => ?_, fun i hi hi2 => ?_, fun i hi hi2 => ?_, fun i hi => ?_, fun k hk => ?_, ?_, ?_, fun d hd => ?_⟩
  · rw [wi _ _ (by omega) (by omega)]; exact u1 k hk
  · rw [aj _ (by omega) (by omega)]; exact u2 k i hk hi
  · rw [ai _ (by omega) (by omega)]; exact u3 r hr
  · rw [ai _ (by omega) (by omega)]; exact (u4 o ho).1
  · rw [ai (b + 4) (by omega) (by omega), ai (b + 5) (by omega) (by omega)]; exact (u4 o ho).2 k hk
  · rw [ai (b + 6) (by omega) (by omega), ai (b + 7) (by omega) (by omega)]; exact u5 i hi
  · rw [ai (b + 8) (by omega) (by omega), ai (b + 9) (by omega) (by omega)]; exact u6 i hi
  · rw [wi _ _ (by omega) (by omega)]; exact u7 i hi hi2
  · rw [wi _ _ (by omega) (by omega)]; exact u8 i hi hi2
  · rw [wi _ _ (by omega) (by omega)]; exact u9 i hi hi2
  · rw [wz _ _ (by omega) (by omega), wi 304 _ (by omega) (by omega), wi 305 _ (by omega) (by omega), wi 306 _ (by omega) (by omega)]; exact u10 i hi
  · rw [ai _ (by omega) (by omega)]; exact u11 k hk
  · rw [wi 912 _ (by omega) (by omega), wi 913 _ (by omega) (by omega), wz _ _ (by omega) (by omega)]; exact u12
  · rw [wi _ _ (by omega) (by omega)]; exact u13.1
  · rw [ai _ (by omega) (by omega)]; exact u13.2 d hd
theorem XP.st {S : Nat → Nat → Prop} {A : Nat → Prop} {w0 w w' : Wd} {n : Nat} {bf : Nat → Int32} {b p0 p : Nat} (h : XP w0 w n bf b p0 p) (hf : FX w') (hJ : wJ w' = wJ w) (k : Fr S A w w') (hS : ∀ f x, S f x → (x = 36 ∧ 504 ≤ f ∧ f ≤ 506) ∨ (b ≤ x ∧ x < b + 34)) (hA : ∀ x, A x → b ≤ x ∧ x < b + 34) : XP w0 w' n bf b p0 p := by
  obtain ⟨h1, h2, h3, h4, h5, h6, h7, h8⟩ := h
  have ub := SU_rg h2
  have g : ∀ f x, x = 37 ∨ (x = 36 ∧ (f < 504 ∨ 506 < f)) → ¬ S f x := fun f x hx q => by have := hS f x q; omega
  refine ⟨hf, h2, h3, h4.fr k (g _ _ (by omega)) (g _ _ (by omega)) (fun q => by have := hA _ q; omega), ⟨?_, ?_, ?_, ?_, ?_⟩, ?_, ⟨?_, ?_⟩, h8.trans (k.mono (fun f x q => ?_) (fun x q => hA x q))⟩
  · rw [(k.1 802 37 (g _ _ (by omega))).1]; exact h5.1
  · rw [(k.1 803 37 (g _ _ (by omega))).1]; exact h5.2.1
  · rw [(k.1 804 37 (g _ _ (by omega))).2.1]; exact h5.2.2.1
  · rw [hJ]; exact h5.2.2.2.1
  · rw [(k.1 806 37 (g _ _ (by omega))).1]; exact h5.2.2.2.2
  · rw [(k.1 501 36 (g _ _ (by omega))).2.1]; exact h6
  · rw [(k.1 502 36 (g _ _ (by omega))).1]; exact h7.1
  · rw [(k.1 503 36 (g _ _ (by omega))).1]; exact h7.2
  · have := hS f x q; unfold PSS; omega
def S36 (f x : Nat) : Prop := x = 36 ∧ 504 ≤ f ∧ f ≤ 506
theorem XQr.t36 {w0 w : Wd} {n : Nat} {bf : Nat → Int32} {b p0 p : Nat} {c s t : Nat → Nat} {nm : Nat → Nat → List Nat} (h : XQr w0 w n bf b p0 p c s t nm) {f : Nat} {v : Int32} (h1 : 504 ≤ f) (h2 : f ≤ 506) : XQr w0 (sI w f 36 v) n bf b p0 p c s t nm := by
  have ub := SU_rg h.1.2.1
  have k : Fr S36 NA w (sI w f 36 v) := fr_sI ⟨rfl, h1, h2⟩
  exact ⟨h.1.st h.1.1.sI rfl k (fun f x q => Or.inl q) (fun x q => q.elim), h.2.fr k (fun f x q1 q2 q => by unfold S36 at q; omega) (fun x _ _ q => q.elim)⟩
def S37 (f x : Nat) : Prop := SCx f x ∨ S36 f x
theorem XQr.adv {w0 w : Wd} {n : Nat} {bf : Nat → Int32} {b p0 p : Nat} {c s t : Nat → Nat} {nm : Nat → Nat → List Nat} (h : XQr w0 w n bf b p0 p c s t nm) : ∃ w', f_X8_advance (Kx X) 37 w = some w' ∧ XQr w0 w' n bf b p0 (enT n bf p) c s t nm ∧ Fr SCx NA w w' := by
  obtain ⟨⟨h1, h2, ⟨h3, h30, hT⟩, h4, h5, h6, h7, h8⟩, hd⟩ := h
  have ub := SU_rg h2
  have er := enT_rg (bf := bf) h3
  have sr := skT_rg (bf := bf) h3
  obtain ⟨w', e1, r1, f1, k1⟩ := x_advance (X := X) h1 hT h4 er.2 h5.2.1
  refine ⟨w', e1, ⟨⟨f1, h2, ⟨er.2, by omega, hT⟩, h4.fr r1 (by unfold SCx; omega) (by unfold SCx; omega) (fun q => q), k1, by rw [(r1.1 501 36 (by unfold SCx; omega)).2.1]; exact h6, ⟨by rw [(r1.1 502 36 (by unfold SCx; omega)).1]; exact h7.1, by rw [(r1.1 503 36 (by unfold SCx; omega)).1]; exact h7.2⟩, h8.trans (r1.mono (fun f x q => by unfold SCx at q; unfold PSS; omega) (fun _ q => q.elim))⟩, hd.fr r1 (fun f x q1 q2 q => by unfold SCx at q; omega) (fun _ _ _ q => q)⟩, r1⟩
theorem x_fail {w0 w : Wd} {n : Nat} {bf : Nat → Int32} {b p0 p : Nat} (h : XP w0 w n bf b p0 p) {u : Int32} {e : Nat} (he : u = nI e) : ∃ w', f_X5_fail (Kx X) 36 u w = some (false, w') ∧ XFl w0 w' b (e, skT n bf p) := by
  obtain ⟨h1, h2, ⟨h3, h30, hT⟩, h4, h5, h6, h7, h8⟩ := h
  have r1 : Fr (PSS b) (PSA b) w (sI (sI w 502 36 u) 503 36 (nI (skT n bf p))) := (fr_sI (by unfold PSS; omega)).trans (fr_sI (by unfold PSS; omega))
  refine ⟨_, ?_, h1.sI.sI, h6, ?_, ?_, h8.trans r1⟩
  · unfold f_X5_fail
    rw [Option.bind_some, x500 h1.sI, Option.bind_some, wI_sI, if_neg (by omega), h5.1, Option.bind_some]
  · rw [wI_sI, if_neg (by omega), wI_sI, if_pos ⟨rfl, rfl⟩, he]
  · rw [wI_sI, if_pos ⟨rfl, rfl⟩]
