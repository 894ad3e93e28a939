variable {X : Kd}
def Fr (S : Nat → Nat → Prop) (A : Nat → Prop) (w w' : Wd) : Prop := (∀ f x, ¬ S f x → wI w' f x = wI w f x ∧ wR w' f x = wR w f x ∧ wZ w' f x = wZ w f x) ∧ ∀ x, ¬ A x → aI w' x = aI w x ∧ aJ w' x = aJ w x ∧ aR w' x = aR w x
theorem Fr.rf {S : Nat → Nat → Prop} {A : Nat → Prop} {w : Wd} : Fr S A w w := ⟨fun _ _ _ => ⟨rfl, rfl, rfl⟩, fun _ _ => ⟨rfl, rfl, rfl⟩⟩
theorem Fr.trans {S : Nat → Nat → Prop} {A : Nat → Prop} {w w1 w2 : Wd} (h : Fr S A w w1) (k : Fr S A w1 w2) : Fr S A w w2 := ⟨fun f x q => ⟨(k.1 f x q).1.trans (h.1 f x q).1, (k.1 f x q).2.1.trans (h.1 f x q).2.1, (k.1 f x q).2.2.trans (h.1 f x q).2.2⟩, fun x q => ⟨(k.2 x q).1.trans (h.2 x q).1, (k.2 x q).2.1.trans (h.2 x q).2.1, (k.2 x q).2.2.trans (h.2 x q).2.2⟩⟩
theorem Fr.mono {S S' : Nat → Nat → Prop} {A A' : Nat → Prop} {w w1 : Wd} (h : Fr S A w w1) (hS : ∀ f x, S f x → S' f x) (hA : ∀ x, A x → A' x) : Fr S' A' w w1 := ⟨fun f x q => h.1 f x (fun z => q (hS f x z)), fun x q => h.2 x (fun z => q (hA x z))⟩
theorem Ofi.fr {S : Nat → Nat → Prop} {A : Nat → Prop} {w w' : Wd} (h : Ofi S A w w') : Fr S A w w' := ⟨fun f x q => ⟨h.2.1 f x q, by rw [h.1.1], by rw [h.1.2.2.1]⟩, fun x q => ⟨h.2.2 x q, by rw [h.1.2.2.2.2.1], by rw [h.1.2.1]⟩⟩
theorem fr_sI {S : Nat → Nat → Prop} {A : Nat → Prop} {w : Wd} {f a : Nat} {v : Int32} (h : S f a) : Fr S A w (sI w f a v) := ⟨fun g x q => ⟨by
  rw [wI_sI, if_neg (fun z => q (by rw [z.1, z.2]; exact h))], rfl, rfl⟩, fun _ _ => ⟨rfl, rfl, rfl⟩⟩
theorem fr_sR {S : Nat → Nat → Prop} {A : Nat → Prop} {w : Wd} {f a : Nat} {v : Option Nat} (h : S f a) : Fr S A w (sR w f a v) := ⟨fun g x q => ⟨rfl, by
  rw [wR_sR, if_neg (fun z => q (by rw [z.1, z.2]; exact h))], rfl⟩, fun _ _ => ⟨rfl, rfl, rfl⟩⟩
theorem wZ_sZ {w : Wd} {f a g x : Nat} {v : Bool} : wZ (sZ w f a v) g x = if g = f ∧ x = a then v else wZ w g x := rfl
theorem fr_sZ {S : Nat → Nat → Prop} {A : Nat → Prop} {w : Wd} {f a : Nat} {v : Bool} (h : S f a) : Fr S A w (sZ w f a v) := ⟨fun g x q => ⟨rfl, rfl, by
  rw [wZ_sZ, if_neg (fun z => q (by rw [z.1, z.2]; exact h))]⟩, fun _ _ => ⟨rfl, rfl, rfl⟩⟩
theorem aJ_tJ {w : Wd} {a i x j : Nat} {v : Int64} : aJ (tJ w a i v) x j = if x = a ∧ j = i then v else aJ w x j := rfl
theorem aR_tR {w : Wd} {a i x j : Nat} {v : Option Nat} : aR (tR w a i v) x j = if x = a ∧ j = i then v else aR w x j := rfl
theorem fr_tJ {S : Nat → Nat → Prop} {A : Nat → Prop} {w : Wd} {a i : Nat} {v : Int64} (h : A a) : Fr S A w (tJ w a i v) := ⟨fun _ _ _ => ⟨rfl, rfl, rfl⟩, fun x q => ⟨rfl, funext fun j => by
  rw [aJ_tJ, if_neg (fun z => q (by rw [z.1]; exact h))], rfl⟩⟩
theorem fr_tR {S : Nat → Nat → Prop} {A : Nat → Prop} {w : Wd} {a i : Nat} {v : Option Nat} (h : A a) : Fr S A w (tR w a i v) := ⟨fun _ _ _ => ⟨rfl, rfl, rfl⟩, fun x q => ⟨rfl, rfl, funext fun j => by
  rw [aR_tR, if_neg (fun z => q (by rw [z.1]; exact h))]⟩⟩
theorem fr_tD {S : Nat → Nat → Prop} {A : Nat → Prop} {w : Wd} {a i : Nat} {v : UInt64} : Fr S A w (tD w a i v) := ⟨fun _ _ _ => ⟨rfl, rfl, rfl⟩, fun _ _ => ⟨rfl, rfl, rfl⟩⟩
theorem FX.fr {S : Nat → Nat → Prop} {A : Nat → Prop} {w w' : Wd} (h : FX w) (k : Fr S A w w') (hS : ∀ p, p ∈ frt → ¬ S p.1 p.2.1) (hA : ∀ p, p ∈ fet → ¬ A p.1) : FX w' := ⟨fun p hp => by rw [(k.1 _ _ (hS p hp)).2.1]; exact h.1 p hp, fun p hp => by rw [(k.2 _ (hA p hp)).2.2]; exact h.2 p hp⟩
theorem FX.tR163 {w : Wd} {i : Nat} {v : Option Nat} (h : FX w) : FX (tR w 163 i v) := ⟨fun p hp => h.1 p hp, fun p hp => by
  have e : p.1 ≠ 163 := (by decide +kernel : ∀ p, p ∈ fet → p.1 ≠ 163) p hp
  rw [aR_tR, if_neg (fun q => e q.1)]
  exact h.2 p hp⟩
theorem FX.r501 {w : Wd} {v : Option Nat} (h : FX w) : FX (sR w 501 36 v) := ⟨fun p hp => by
  have e : p.1 ≠ 501 := (by decide +kernel : ∀ p, p ∈ frt → p.1 ≠ 501) p hp
  rw [wR_sR, if_neg (fun q => e q.1)]
  exact h.1 p hp, fun p hp => h.2 p hp⟩
def RB (b x : Nat) : Prop := b ≤ x ∧ x < b + 34
theorem HX.fr {S : Nat → Nat → Prop} {A : Nat → Prop} {w w' : Wd} {a b : Nat} {s t : Nat → Nat} (h : HX w a b s t) (k : Fr S A w w') (hf : FX w') (hS : ∀ f x, S f x → ¬ RG a x ∧ ¬ RB b x) (hA : ∀ x, A x → ¬ RG a x ∧ ¬ RB b x) : HX w' a b s t := by
  have hs := h.gs.1
  have g1 : ∀ f x, a ≤ x → x < a + 30 → wI w' f x = wI w f x ∧ wR w' f x = wR w f x ∧ wZ w' f x = wZ w f x := fun f x x1 x2 => k.1 f x (fun q => (hS f x q).1 ⟨x1, x2⟩)
  have g2 : ∀ x, a ≤ x → x < a + 30 → aI w' x = aI w x := fun x x1 x2 => (k.2 x (fun q => (hA x q).1 ⟨x1, x2⟩)).1
  have b1 : ∀ f x, b ≤ x → x < b + 34 → wI w' f x = wI w f x := fun f x x1 x2 => (k.1 f x (fun q => (hS f x q).2 ⟨x1, x2⟩)).1
  have bz : ∀ f x, b ≤ x → x < b + 34 → wZ w' f x = wZ w f x := fun f x x1 x2 => (k.1 f x (fun q => (hS f x q).2 ⟨x1, x2⟩)).2.2
  have b2 : ∀ x, b ≤ x → x < b + 34 → aI w' x = aI w x := fun x x1 x2 => (k.2 x (fun q => (hA x q).2 ⟨x1, x2⟩)).1
  refine ⟨hf, ⟨h.2.1.1, h.2.1.2.1, by rw [(g1 1000 a (by omega) (by omega)).2.1]; exact h.2.1.2.2⟩, ?_, ?_, h.2.2.2.2⟩
  · obtain ⟨u1, u2, u3, u4, u5, u6, u7, u8⟩ := h.2.2.1
    refine ⟨fun k hk => ?_, fun r hr => ?_, fun o ho => ?_, fun o ho k hk => ?_, fun i hi => ?_, fun i hi => ?_, fun k hk => ?_, ?_⟩
    · rw [b1 _ _ (by omega) (by omega)]; exact u1 k hk
    · rw [b2 _ (by omega) (by omega)]; exact u2 r hr
    · rw [b2 _ (by omega) (by omega)]; exact u3 o ho
    · rw [b2 (b + 4) (by omega) (by omega), b2 (b + 5) (by omega) (by omega)]; exact u4 o ho k hk
    · rw [b2 (b + 6) (by omega) (by omega), b2 (b + 8) (by omega) (by omega), b2 (b + 9) (by omega) (by omega)]; exact u5 i hi
    · rw [b1 300 _ (by omega) (by omega), b1 301 _ (by omega) (by omega), b1 302 _ (by omega) (by omega), bz 303 _ (by omega) (by omega), b1 304 _ (by omega) (by omega), b1 305 _ (by omega) (by omega)]; exact u6 i hi
    · rw [b2 _ (by omega) (by omega)]; exact u7 k hk
    · rw [b1 _ _ (by omega) (by omega)]; exact u8
  · obtain ⟨v1, v2, v3, v4, v5⟩ := h.2.2.2.1
    refine ⟨⟨?_, ?_⟩, fun d hd => ?_, fun i hi => ?_, fun i hi => ?_, fun i hi => ?_⟩
    · rw [(g1 _ _ (by omega) (by omega)).1]; exact v1.1
    · rw [(g1 _ _ (by omega) (by omega)).1]; exact v1.2
    · rw [g2 _ (by omega) (by omega)]; exact v2 d hd
    · rw [g2 _ (by omega) (by omega)]; exact v3 i hi
    · rw [g2 _ (by omega) (by omega)]; exact v4 i hi
    · rw [(g1 700 (a + 6 + 2 * i) (by omega) (by omega)).1, (g1 701 (a + 6 + 2 * i) (by omega) (by omega)).1, (g1 702 (a + 6 + 2 * i) (by omega) (by omega)).1, (g1 703 (a + 6 + 2 * i) (by omega) (by omega)).1, (g1 704 (a + 6 + 2 * i) (by omega) (by omega)).1, (g1 705 (a + 6 + 2 * i) (by omega) (by omega)).1, (g1 706 (a + 6 + 2 * i) (by omega) (by omega)).1]
      rw [g2 (a + 7 + 2 * i) (by omega) (by omega)]
      exact v5 i hi
def SP : List Nat := [164, 194, 224, 254, 284, 314, 344, 374]
theorem SP_SA {a : Nat} (h : a ∈ SP) : a ∈ SA := (by decide : ∀ a, a ∈ SP → a ∈ SA) a h
theorem SP_rg {a : Nat} (h : a ∈ SP) : 164 ≤ a ∧ a + 30 ≤ 404 := (by decide : ∀ a, a ∈ SP → 164 ≤ a ∧ a + 30 ≤ 404) a h
theorem SU_rg {b : Nat} (h : b ∈ SU) : 1 ≤ b ∧ b + 34 ≤ 73 ∧ (b = 1 ∨ b = 39) := (by decide : ∀ b, b ∈ SU → 1 ≤ b ∧ b + 34 ≤ 73 ∧ (b = 1 ∨ b = 39)) b h
def inU (x : Nat) : Prop := (1 ≤ x ∧ x < 35) ∨ (39 ≤ x ∧ x < 73)
theorem RB_U {b x : Nat} (hb : b ∈ SU) (h : RB b x) : inU x := by
  obtain ⟨h1, h2⟩ := h
  rcases (SU_rg hb).2.2 with e | e
  · exact Or.inl ⟨by omega, by omega⟩
  · exact Or.inr ⟨by omega, by omega⟩
def PA8 (w : Wd) (pa : Nat → Nat) : Prop := (∀ i, i < 8 → aR w 163 i = some (pa i) ∧ pa i ∈ SP) ∧ ∀ i j, i < 8 → j < 8 → pa i = pa j → i = j
def HSx (w : Wd) (b : Nat) (s : Nat → Nat) (m : Nat) (hs : Nat → Nat → Nat) : Prop := wI w 1210 0 = nI m ∧ m ≤ 8 ∧ ∃ pa, PA8 w pa ∧ ∀ i, i < m → HX w (pa i) b s (hs i)
def SVx (w : Wd) (b : Nat) (s : Nat → Nat) (v : Bool) (st : Nat → Nat) : Prop := wZ w 1207 0 = v ∧ (v = true → HX w 103 b s st)
theorem HSx.fr {S : Nat → Nat → Prop} {A : Nat → Prop} {w w' : Wd} {b m : Nat} {s : Nat → Nat} {hs : Nat → Nat → Nat} (h : HSx w b s m hs) (hb : b ∈ SU) (k : Fr S A w w') (hf : FX w') (hS : ∀ f x, S f x → (x < 164 ∨ 404 ≤ x) ∧ ¬ inU x ∧ (x = 0 → f ≠ 1210)) (hA : ∀ x, A x → (x < 163 ∨ 404 ≤ x) ∧ ¬ inU x) : HSx w' b s m hs := by
  obtain ⟨h1, h2, pa, hp, h3⟩ := h
  refine ⟨by rw [(k.1 1210 0 (fun q => (hS _ _ q).2.2 rfl rfl)).1]; exact h1, h2, pa, ⟨fun i hi => by rw [(k.2 163 (fun q => by have := (hA _ q).1; omega)).2.2]; exact hp.1 i hi, hp.2⟩, fun i hi => (h3 i hi).fr k hf (fun f x q => ⟨fun z => ?_, fun z => (hS f x q).2.1 (RB_U hb z)⟩) (fun x q => ⟨fun z => ?_, fun z => (hA x q).2 (RB_U hb z)⟩)⟩
  · have r := SP_rg (hp.1 i (by omega)).2
    have := (hS f x q).1
    have z1 := z.1
    have z2 := z.2
    omega
  · have r := SP_rg (hp.1 i (by omega)).2
    have := (hA x q).1
    have z1 := z.1
    have z2 := z.2
    omega
theorem SVx.fr {S : Nat → Nat → Prop} {A : Nat → Prop} {w w' : Wd} {b : Nat} {s st : Nat → Nat} {v : Bool} (h : SVx w b s v st) (hb : b ∈ SU) (k : Fr S A w w') (hf : FX w') (hS : ∀ f x, S f x → (x < 103 ∨ 133 ≤ x) ∧ ¬ inU x ∧ (x = 0 → f ≠ 1207)) (hA : ∀ x, A x → (x < 103 ∨ 133 ≤ x) ∧ ¬ inU x) : SVx w' b s v st := by
  refine ⟨by rw [(k.1 1207 0 (fun q => (hS _ _ q).2.2 rfl rfl)).2.2]; exact h.1, fun e => (h.2 e).fr k hf (fun f x q => ⟨fun z => ?_, fun z => (hS f x q).2.1 (RB_U hb z)⟩) (fun x q => ⟨fun z => ?_, fun z => (hA x q).2 (RB_U hb z)⟩)⟩
  · have := (hS f x q).1
    have z1 := z.1
    have z2 := z.2
    omega
  · have := (hA x q).1
    have z1 := z.1
    have z2 := z.2
    omega
