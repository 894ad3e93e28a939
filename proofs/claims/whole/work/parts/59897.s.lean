/-! Reading a setup: both sides' drafts; names. -/
theorem XQr_name {w0 w : Wd} {n : Nat} {bf : Nat → Int32} {b p0 p : Nat} {c s t : Nat → Nat} {nm : Nat → Nat → List Nat} (h : XQr w0 w n bf b p0 p c s t nm) (g : BD c s) {q : Nat} (hq : q < 4) (l : List Nat) : XQr w0 (sI (tJ w (b + 15 + 2 * q) (c q) (nJ (pkX l))) 401 (b + 14 + 2 * q) (nI (c q + 1))) n bf b p0 p (ups c q (c q + 1)) (s) (t) (nmU nm q (c q) l) := by
  have ub := SU_rg h.1.2.1
  obtain ⟨⟨g0, g1, g2, g3⟩, g10, g4⟩ := id g
  have r : Fr (fun f x => f = 401 ∧ x = b + 14 + 2 * q) (fun x => x = b + 15 + 2 * q) w (sI (tJ w (b + 15 + 2 * q) (c q) (nJ (pkX l))) 401 (b + 14 + 2 * q) (nI (c q + 1))) := Fr.trans (fr_tJ rfl) (fr_sI ⟨rfl, rfl⟩)
  exact ⟨h.1.st (h.1.1.of rfl rfl) rfl r (fun f x (q : f = 401 ∧ x = b + 14 + 2 * q) => Or.inr (by first | exact q.elim | omega)) (fun x (q : x = b + 15 + 2 * q) => by first | exact q.elim | omega), XD_name h.1.2.1 h.2 g hq l⟩
theorem XQr_room {w0 w : Wd} {n : Nat} {bf : Nat → Int32} {b p0 p : Nat} {c s t : Nat → Nat} {nm : Nat → Nat → List Nat} (h : XQr w0 w n bf b p0 p c s t nm) (g : BD c s) (h0 : s 0 < 3) (lo hi : Nat) : XQr w0 (tI w (b + 2) (s 0) (nI (msk lo hi))) n bf b p0 p (c) (ups (ups (ups s (4 + s 0) lo) (7 + s 0) hi) 0 (s 0 + 1)) (t) (nm) := by
  have ub := SU_rg h.1.2.1
  obtain ⟨⟨g0, g1, g2, g3⟩, g10, g4⟩ := id g
  have r : Fr (fun f x => False) (fun x => x = b + 2) w (tI w (b + 2) (s 0) (nI (msk lo hi))) := (ofi_tI (S := fun _ _ => False) (A := fun x => x = b + 2) rfl).fr
  exact ⟨h.1.st (h.1.1.of rfl rfl) rfl r (fun f x (q : False) => Or.inr (by first | exact q.elim | omega)) (fun x (q : x = b + 2) => by first | exact q.elim | omega), XD_room h.1.2.1 h.2 g h0 lo hi⟩
theorem XQr_off {w0 w : Wd} {n : Nat} {bf : Nat → Int32} {b p0 p : Nat} {c s t : Nat → Nat} {nm : Nat → Nat → List Nat} (h : XQr w0 w n bf b p0 p c s t nm) (g : BD c s) {q : Nat} (hq : q < 6) (h3 : s (10 + q) < 3) (lo hi : Nat) : XQr w0 (tI (tI (tI w (b + 4) (3 * q + s (10 + q)) (nI lo)) (b + 5) (3 * q + s (10 + q)) (nI hi)) (b + 3) q (nI (s (10 + q) + 1))) n bf b p0 p (c) (ups (ups (ups s (16 + 6 * q + 2 * s (10 + q)) lo) (16 + 6 * q + 2 * s (10 + q) + 1) hi) (10 + q) (s (10 + q) + 1)) (t) (nm) := by
  have ub := SU_rg h.1.2.1
  obtain ⟨⟨g0, g1, g2, g3⟩, g10, g4⟩ := id g
  have r : Fr (fun f x => False) (fun x => x = b + 4 ∨ x = b + 5 ∨ x = b + 3) w (tI (tI (tI w (b + 4) (3 * q + s (10 + q)) (nI lo)) (b + 5) (3 * q + s (10 + q)) (nI hi)) (b + 3) q (nI (s (10 + q) + 1))) := Fr.trans (Fr.trans (ofi_tI (S := fun _ _ => False) (A := fun x => x = b + 4 ∨ x = b + 5 ∨ x = b + 3) (Or.inl rfl)).fr (ofi_tI (S := fun _ _ => False) (A := fun x => x = b + 4 ∨ x = b + 5 ∨ x = b + 3) (Or.inr (Or.inl rfl))).fr) (ofi_tI (S := fun _ _ => False) (A := fun x => x = b + 4 ∨ x = b + 5 ∨ x = b + 3) (Or.inr (Or.inr rfl))).fr
  exact ⟨h.1.st (h.1.1.of rfl rfl) rfl r (fun f x (q : False) => Or.inr (by first | exact q.elim | omega)) (fun x (q : x = b + 4 ∨ x = b + 5 ∨ x = b + 3) => by first | exact q.elim | omega), XD_off h.1.2.1 h.2 g hq h3 lo hi⟩
theorem XQr_wd {w0 w : Wd} {n : Nat} {bf : Nat → Int32} {b p0 p : Nat} {c s t : Nat → Nat} {nm : Nat → Nat → List Nat} (h : XQr w0 w n bf b p0 p c s t nm) (g : BD c s) {q : Nat} (hc4 : c 4 = q) (ht20 : t 1 ≤ 20) (hq : q < 12) (lo hi : Nat) : XQr w0 (tI (tI w (b + 6) q (nI lo)) (b + 7) q (nI hi)) n bf b p0 p (ups c 4 (q + 1)) (ups s (52 + q) lo) (ups t (22 + q) (hi + 1)) (nm) := by
  have ub := SU_rg h.1.2.1
  obtain ⟨⟨g0, g1, g2, g3⟩, g10, g4⟩ := id g
  have r : Fr (fun f x => False) (fun x => x = b + 6 ∨ x = b + 7) w (tI (tI w (b + 6) q (nI lo)) (b + 7) q (nI hi)) := Fr.trans (ofi_tI (S := fun _ _ => False) (A := fun x => x = b + 6 ∨ x = b + 7) (Or.inl rfl)).fr (ofi_tI (S := fun _ _ => False) (A := fun x => x = b + 6 ∨ x = b + 7) (Or.inr rfl)).fr
  exact ⟨h.1.st (h.1.1.of rfl rfl) rfl r (fun f x (q : False) => Or.inr (by first | exact q.elim | omega)) (fun x (q : x = b + 6 ∨ x = b + 7) => by first | exact q.elim | omega), XD_wd h.1.2.1 h.2 g hc4 ht20 hq lo hi⟩
theorem XQr_ws {w0 w : Wd} {n : Nat} {bf : Nat → Int32} {b p0 p : Nat} {c s t : Nat → Nat} {nm : Nat → Nat → List Nat} (h : XQr w0 w n bf b p0 p c s t nm) (g : BD c s) (h2 : s 2 < 12) (lo hi : Nat) : XQr w0 (tI (tI w (b + 8) (s 2) (nI lo)) (b + 9) (s 2) (nI hi)) n bf b p0 p (c) (ups (ups (ups s (64 + s 2) lo) (76 + s 2) hi) 2 (s 2 + 1)) (t) (nm) := by
  have ub := SU_rg h.1.2.1
  obtain ⟨⟨g0, g1, g2, g3⟩, g10, g4⟩ := id g
  have r : Fr (fun f x => False) (fun x => x = b + 8 ∨ x = b + 9) w (tI (tI w (b + 8) (s 2) (nI lo)) (b + 9) (s 2) (nI hi)) := Fr.trans (ofi_tI (S := fun _ _ => False) (A := fun x => x = b + 8 ∨ x = b + 9) (Or.inl rfl)).fr (ofi_tI (S := fun _ _ => False) (A := fun x => x = b + 8 ∨ x = b + 9) (Or.inr rfl)).fr
  exact ⟨h.1.st (h.1.1.of rfl rfl) rfl r (fun f x (q : False) => Or.inr (by first | exact q.elim | omega)) (fun x (q : x = b + 8 ∨ x = b + 9) => by first | exact q.elim | omega), XD_ws h.1.2.1 h.2 g h2 lo hi⟩
theorem XQr_cf {w0 w : Wd} {n : Nat} {bf : Nat → Int32} {b p0 p : Nat} {c s t : Nat → Nat} {nm : Nat → Nat → List Nat} (h : XQr w0 w n bf b p0 p c s t nm) (g : BD c s) {q : Nat} (hq : c 5 = q) (hq2 : q < 12) (v : Nat) : XQr w0 (sI w 300 (b + 22 + q) (nI v)) n bf b p0 p (ups c 5 (q + 1)) (ups s (88 + q) v) (t) (nm) := by
  have ub := SU_rg h.1.2.1
  obtain ⟨⟨g0, g1, g2, g3⟩, g10, g4⟩ := id g
  have r : Fr (fun f x => f = 300 ∧ x = b + 22 + q) (fun x => False) w (sI w 300 (b + 22 + q) (nI v)) := fr_sI ⟨rfl, rfl⟩
  exact ⟨h.1.st (h.1.1.of rfl rfl) rfl r (fun f x (q : f = 300 ∧ x = b + 22 + q) => Or.inr (by first | exact q.elim | omega)) (fun x (q : False) => by first | exact q.elim | omega), XD_cf h.1.2.1 h.2 g hq hq2 v⟩
theorem XQr_cs {w0 w : Wd} {n : Nat} {bf : Nat → Int32} {b p0 p : Nat} {c s t : Nat → Nat} {nm : Nat → Nat → List Nat} (h : XQr w0 w n bf b p0 p c s t nm) (g : BD c s) {q : Nat} (hq : c 6 = q) (hq2 : q < 12) (v : Nat) : XQr w0 (sI w 301 (b + 22 + q) (nI v)) n bf b p0 p (ups c 6 (q + 1)) (ups s (100 + q) v) (t) (nm) := by
  have ub := SU_rg h.1.2.1
  obtain ⟨⟨g0, g1, g2, g3⟩, g10, g4⟩ := id g
  have r : Fr (fun f x => f = 301 ∧ x = b + 22 + q) (fun x => False) w (sI w 301 (b + 22 + q) (nI v)) := fr_sI ⟨rfl, rfl⟩
  exact ⟨h.1.st (h.1.1.of rfl rfl) rfl r (fun f x (q : f = 301 ∧ x = b + 22 + q) => Or.inr (by first | exact q.elim | omega)) (fun x (q : False) => by first | exact q.elim | omega), XD_cs h.1.2.1 h.2 g hq hq2 v⟩
theorem XQr_cl {w0 w : Wd} {n : Nat} {bf : Nat → Int32} {b p0 p : Nat} {c s t : Nat → Nat} {nm : Nat → Nat → List Nat} (h : XQr w0 w n bf b p0 p c s t nm) (g : BD c s) {q : Nat} (hq : c 7 = q) (hq2 : q < 12) (v : Nat) : XQr w0 (sI w 302 (b + 22 + q) (nI v)) n bf b p0 p (ups c 7 (q + 1)) (ups s (112 + q) v) (t) (nm) := by
  have ub := SU_rg h.1.2.1
  obtain ⟨⟨g0, g1, g2, g3⟩, g10, g4⟩ := id g
  have r : Fr (fun f x => f = 302 ∧ x = b + 22 + q) (fun x => False) w (sI w 302 (b + 22 + q) (nI v)) := fr_sI ⟨rfl, rfl⟩
  exact ⟨h.1.st (h.1.1.of rfl rfl) rfl r (fun f x (q : f = 302 ∧ x = b + 22 + q) => Or.inr (by first | exact q.elim | omega)) (fun x (q : False) => by first | exact q.elim | omega), XD_cl h.1.2.1 h.2 g hq hq2 v⟩
theorem XQr_cc {w0 w : Wd} {n : Nat} {bf : Nat → Int32} {b p0 p : Nat} {c s t : Nat → Nat} {nm : Nat → Nat → List Nat} (h : XQr w0 w n bf b p0 p c s t nm) (g : BD c s) {q : Nat} (hq : q < 12) : XQr w0 (sZ w 303 (b + 22 + q) true) n bf b p0 p (c) (ups s (124 + q) 1) (t) (nm) := by
  have ub := SU_rg h.1.2.1
  obtain ⟨⟨g0, g1, g2, g3⟩, g10, g4⟩ := id g
  have r : Fr (fun f x => f = 303 ∧ x = b + 22 + q) (fun x => False) w (sZ w 303 (b + 22 + q) true) := fr_sZ ⟨rfl, rfl⟩
  exact ⟨h.1.st (h.1.1.of rfl rfl) rfl r (fun f x (q : f = 303 ∧ x = b + 22 + q) => Or.inr (by first | exact q.elim | omega)) (fun x (q : False) => by first | exact q.elim | omega), XD_cc h.1.2.1 h.2 g hq⟩
theorem XQr_cn {w0 w : Wd} {n : Nat} {bf : Nat → Int32} {b p0 p : Nat} {c s t : Nat → Nat} {nm : Nat → Nat → List Nat} (h : XQr w0 w n bf b p0 p c s t nm) (g : BD c s) {q : Nat} (hq : q < 12) (v : Nat) : XQr w0 (sI w 304 (b + 22 + q) (nI v)) n bf b p0 p (c) (ups s (136 + q) v) (t) (nm) := by
  have ub := SU_rg h.1.2.1
  obtain ⟨⟨g0, g1, g2, g3⟩, g10, g4⟩ := id g
  have r : Fr (fun f x => f = 304 ∧ x = b + 22 + q) (fun x => False) w (sI w 304 (b + 22 + q) (nI v)) := fr_sI ⟨rfl, rfl⟩
  exact ⟨h.1.st (h.1.1.of rfl rfl) rfl r (fun f x (q : f = 304 ∧ x = b + 22 + q) => Or.inr (by first | exact q.elim | omega)) (fun x (q : False) => by first | exact q.elim | omega), XD_cn h.1.2.1 h.2 g hq v⟩
theorem XQr_cx {w0 w : Wd} {n : Nat} {bf : Nat → Int32} {b p0 p : Nat} {c s t : Nat → Nat} {nm : Nat → Nat → List Nat} (h : XQr w0 w n bf b p0 p c s t nm) (g : BD c s) {q : Nat} (hq : q < 12) (v : Nat) : XQr w0 (sI w 305 (b + 22 + q) (nI v)) n bf b p0 p (c) (ups s (148 + q) v) (t) (nm) := by
  have ub := SU_rg h.1.2.1
  obtain ⟨⟨g0, g1, g2, g3⟩, g10, g4⟩ := id g
  have r : Fr (fun f x => f = 305 ∧ x = b + 22 + q) (fun x => False) w (sI w 305 (b + 22 + q) (nI v)) := fr_sI ⟨rfl, rfl⟩
  exact ⟨h.1.st (h.1.1.of rfl rfl) rfl r (fun f x (q : f = 305 ∧ x = b + 22 + q) => Or.inr (by first | exact q.elim | omega)) (fun x (q : False) => by first | exact q.elim | omega), XD_cx h.1.2.1 h.2 g hq v⟩
theorem XQr_cb {w0 w : Wd} {n : Nat} {bf : Nat → Int32} {b p0 p : Nat} {c s t : Nat → Nat} {nm : Nat → Nat → List Nat} (h : XQr w0 w n bf b p0 p c s t nm) (g : BD c s) {q : Nat} (hq : q < 12) (ht20 : t 1 ≤ 20) (v : Nat) : XQr w0 (sI w 306 (b + 22 + q) (nI v)) n bf b p0 p (c) (s) (ups t (34 + q) v) (nm) := by
  have ub := SU_rg h.1.2.1
  obtain ⟨⟨g0, g1, g2, g3⟩, g10, g4⟩ := id g
  have r : Fr (fun f x => f = 306 ∧ x = b + 22 + q) (fun x => False) w (sI w 306 (b + 22 + q) (nI v)) := fr_sI ⟨rfl, rfl⟩
  exact ⟨h.1.st (h.1.1.of rfl rfl) rfl r (fun f x (q : f = 306 ∧ x = b + 22 + q) => Or.inr (by first | exact q.elim | omega)) (fun x (q : False) => by first | exact q.elim | omega), XD_cb h.1.2.1 h.2 g hq ht20 v⟩
theorem XQr_rt {w0 w : Wd} {n : Nat} {bf : Nat → Int32} {b p0 p : Nat} {c s t : Nat → Nat} {nm : Nat → Nat → List Nat} (h : XQr w0 w n bf b p0 p c s t nm) (g : BD c s) {q : Nat} (hq : q < 4) {v : Nat} (hv : tld (ups s (166 + q) 1) = v) : XQr w0 (sI w 912 b (nI v)) n bf b p0 p (c) (ups s (166 + q) 1) (t) (nm) := by
  have ub := SU_rg h.1.2.1
  obtain ⟨⟨g0, g1, g2, g3⟩, g10, g4⟩ := id g
  have r : Fr (fun f x => f = 912 ∧ x = b) (fun x => False) w (sI w 912 b (nI v)) := fr_sI ⟨rfl, rfl⟩
  exact ⟨h.1.st (h.1.1.of rfl rfl) rfl r (fun f x (q : f = 912 ∧ x = b) => Or.inr (by first | exact q.elim | omega)) (fun x (q : False) => by first | exact q.elim | omega), XD_rt h.1.2.1 h.2 g hq hv⟩
theorem XQr_rd {w0 w : Wd} {n : Nat} {bf : Nat → Int32} {b p0 p : Nat} {c s t : Nat → Nat} {nm : Nat → Nat → List Nat} (h : XQr w0 w n bf b p0 p c s t nm) (g : BD c s) {q : Nat} (hq : q < 4) (v : Nat) : XQr w0 (tI w (b + 13) q (nI v)) n bf b p0 p (c) (ups s (160 + q) v) (t) (nm) := by
  have ub := SU_rg h.1.2.1
  obtain ⟨⟨g0, g1, g2, g3⟩, g10, g4⟩ := id g
  have r : Fr (fun f x => False) (fun x => x = b + 13) w (tI w (b + 13) q (nI v)) := (ofi_tI (S := fun _ _ => False) (A := fun x => x = b + 13) rfl).fr
  exact ⟨h.1.st (h.1.1.of rfl rfl) rfl r (fun f x (q : False) => Or.inr (by first | exact q.elim | omega)) (fun x (q : x = b + 13) => by first | exact q.elim | omega), XD_rd h.1.2.1 h.2 g hq v⟩
theorem XQr_kt {w0 w : Wd} {n : Nat} {bf : Nat → Int32} {b p0 p : Nat} {c s t : Nat → Nat} {nm : Nat → Nat → List Nat} (h : XQr w0 w n bf b p0 p c s t nm) (g : BD c s)  : XQr w0 (sZ w 914 b true) n bf b p0 p (c) (ups s 165 1) (t) (nm) := by
  have ub := SU_rg h.1.2.1
  obtain ⟨⟨g0, g1, g2, g3⟩, g10, g4⟩ := id g
  have r : Fr (fun f x => f = 914 ∧ x = b) (fun x => False) w (sZ w 914 b true) := fr_sZ ⟨rfl, rfl⟩
  exact ⟨h.1.st (h.1.1.of rfl rfl) rfl r (fun f x (q : f = 914 ∧ x = b) => Or.inr (by first | exact q.elim | omega)) (fun x (q : False) => by first | exact q.elim | omega), XD_kt h.1.2.1 h.2 g ⟩
theorem XQr_kv {w0 w : Wd} {n : Nat} {bf : Nat → Int32} {b p0 p : Nat} {c s t : Nat → Nat} {nm : Nat → Nat → List Nat} (h : XQr w0 w n bf b p0 p c s t nm) (g : BD c s) (v : Nat) : XQr w0 (sI w 913 b (nI v)) n bf b p0 p (c) (ups s 164 v) (t) (nm) := by
  have ub := SU_rg h.1.2.1
  obtain ⟨⟨g0, g1, g2, g3⟩, g10, g4⟩ := id g
  have r : Fr (fun f x => f = 913 ∧ x = b) (fun x => False) w (sI w 913 b (nI v)) := fr_sI ⟨rfl, rfl⟩
  exact ⟨h.1.st (h.1.1.of rfl rfl) rfl r (fun f x (q : f = 913 ∧ x = b) => Or.inr (by first | exact q.elim | omega)) (fun x (q : False) => by first | exact q.elim | omega), XD_kv h.1.2.1 h.2 g v⟩
theorem XQr_ho {w0 w : Wd} {n : Nat} {bf : Nat → Int32} {b p0 p : Nat} {c s t : Nat → Nat} {nm : Nat → Nat → List Nat} (h : XQr w0 w n bf b p0 p c s t nm) (g : BD c s) {d : Nat} (hd : d < 600) (h1 : t 1 < 20) : XQr w0 (sI (tI w (b + 12) (d / 32) (aI w (b + 12) (d / 32) ||| nI (2 ^ (d % 32)))) 201 (b + 11) (nI (t 1 + 1))) n bf b p0 p (c) (s) (hoT t d) (nm) := by
  have ub := SU_rg h.1.2.1
  obtain ⟨⟨g0, g1, g2, g3⟩, g10, g4⟩ := id g
  have r : Fr (fun f x => f = 201 ∧ x = b + 11) (fun x => x = b + 12) w (sI (tI w (b + 12) (d / 32) (aI w (b + 12) (d / 32) ||| nI (2 ^ (d % 32)))) 201 (b + 11) (nI (t 1 + 1))) := Fr.trans (ofi_tI (S := fun f x => f = 201 ∧ x = b + 11) (A := fun x => x = b + 12) rfl).fr (fr_sI ⟨rfl, rfl⟩)
  exact ⟨h.1.st (h.1.1.of rfl rfl) rfl r (fun f x (q : f = 201 ∧ x = b + 11) => Or.inr (by first | exact q.elim | omega)) (fun x (q : x = b + 12) => by first | exact q.elim | omega), XD_ho h.1.2.1 h.2 g hd h1⟩
theorem MQr.t {w0 w w' : Wd} {n : Nat} {bf : Nat → Int32} {p : Nat} {c s t c2 s2 t2 : Nat → Nat} {nm nm2 : Nat → Nat → List Nat} {S : Nat → Nat → Prop} (h : MQr w0 w n bf p c s t nm) (hf : FX w') (k : Fr S MSA w w') (hS : ∀ f x, ¬ S f x) (hd : MD w' c2 s2 t2 nm2) : MQr w0 w' n bf p c2 s2 t2 nm2 := by
  obtain ⟨⟨h1, h3, h4, h5, h7, h8⟩, _⟩ := h
  refine ⟨⟨hf, h3, ⟨by rw [(k.1 _ _ (hS _ _)).1]; exact h4.1, fun i hi => by rw [(k.2 431 (by unfold MSA; omega)).1]; exact h4.2 i hi⟩, ⟨?_, ?_, ?_, ?_, ?_⟩, ⟨?_, ?_⟩, h8.trans (k.mono (fun f x q => absurd q (hS f x)) (fun _ q => q))⟩, hd⟩
  · rw [(k.1 _ _ (hS _ _)).1]; exact h5.1
  · rw [(k.1 _ _ (hS _ _)).1]; exact h5.2.1
  · rw [(k.1 _ _ (hS _ _)).1]; exact h5.2.2.1
  · rw [(k.1 _ _ (hS _ _)).1]; exact h5.2.2.2.1
  · rw [(k.1 _ _ (hS _ _)).1]; exact h5.2.2.2.2
  · rw [(k.1 _ _ (hS _ _)).1]; exact h7.1
  · rw [(k.1 _ _ (hS _ _)).1]; exact h7.2
theorem MQr.dS {w0 w : Wd} {n : Nat} {bf : Nat → Int32} {p : Nat} {c s t : Nat → Nat} {nm : Nat → Nat → List Nat} (h : MQr w0 w n bf p c s t nm) (a v : Nat) : MQr w0 (tI w 417 a (nI v)) n bf p c (ups s a v) t nm := h.t (S := NS) h.1.1.tI (ofi_tI (Or.inl rfl)).fr (fun _ _ q => q) ⟨⟨fun k hk => by
  rw [aI_tI]
  by_cases e : k = a
  · rw [if_pos ⟨rfl, e⟩, e, ups_eq]
  · rw [if_neg (fun q => e q.2), ups_ne e]; exact h.2.1.1 k hk, fun k hk => by
  rw [aI_tI, if_neg (by omega)]
  exact h.2.1.2 k hk⟩, h.2.2⟩
theorem MQr.dT {w0 w : Wd} {n : Nat} {bf : Nat → Int32} {p : Nat} {c s t : Nat → Nat} {nm : Nat → Nat → List Nat} (h : MQr w0 w n bf p c s t nm) (a v : Nat) {z : Int32} (hz : z = if 22 ≤ a ∧ a < 34 then nI v - nI 1 else nI v) : MQr w0 (tI w 419 a z) n bf p c s (ups t a v) nm := h.t (S := NS) h.1.1.tI (ofi_tI (Or.inr (Or.inl rfl))).fr (fun _ _ q => q) ⟨⟨fun k hk => by
  rw [aI_tI, if_neg (by omega)]
  exact h.2.1.1 k hk, fun k hk => by
  rw [aI_tI]
  by_cases e : k = a
  · rw [if_pos ⟨rfl, e⟩, e, ups_eq, hz]
  · rw [if_neg (fun q => e q.2), ups_ne e]; exact h.2.1.2 k hk⟩, h.2.2⟩
theorem MQr.cc {w0 w : Wd} {n : Nat} {bf : Nat → Int32} {p : Nat} {c c2 s t : Nat → Nat} {nm : Nat → Nat → List Nat} (h : MQr w0 w n bf p c s t nm) (hc : ∀ k, k < 4 → c2 k = c k) : MQr w0 w n bf p c2 s t nm := ⟨h.1, h.2.1, fun k i hk hi => h.2.2 k i hk (by rw [hc k hk] at hi; exact hi)⟩
theorem m_lays {w0 w : Wd} {n : Nat} {bf : Nat → Int32} {p : Nat} {c s t : Nat → Nat} {nm : Nat → Nat → List Nat} (h : MQr w0 w n bf p c s t nm) {a v : Nat} (ha : a < 170) : f_X13_laysDraft Kc 415 (nI a) (nI v) w = some (tI w 417 a (nI v)) ∧ MQr w0 (tI w 417 a (nI v)) n bf p c (ups s a v) t nm := by
  refine ⟨?_, h.dS a v⟩
  unfold f_X13_laysDraft
  rw [h.1.fine, Option.bind_some, ib_t, x1302 h.1.1, Option.bind_some]
  try dsimp only
  rw [ixa_n (by omega) (by omega), Option.bind_some, Option.bind_some]
theorem nref {w : Wd} (h : FX w) {q : Nat} (hq : q < 4) : cha Kc 23 (wR w (1333 + q) 415) = some (432 + q, nmL q) := by
  have hcase : q = 0 ∨ q = 1 ∨ q = 2 ∨ q = 3 := by omega
  rcases hcase with rfl | rfl | rfl | rfl
  · exact x1333 h
  · exact x1334 h
  · exact x1335 h
  · exact x1336 h
theorem nmL_12 (q : Nat) : nmL q ≤ 12 := by
  unfold nmL
  split <;> omega
theorem m_needsName {w0 w : Wd} {n : Nat} {bf : Nat → Int32} {p : Nat} (h : MP w0 w n bf p) : (ktT n bf p = 16 → f_X13_needsName Kc 415 w = some w) ∧ (ktT n bf p ≠ 16 → ∃ w', f_X13_needsName Kc 415 w = some w' ∧ MFl w0 w' (1, skT n bf p)) := by
  obtain ⟨t1, t2, t3, t4, t5⟩ := h.2.2.2.1
  have h9 := h.2.1.2.1
  have ty := (tk_o (n := n) (bf := bf) (p := p)).2.2.2.2
  have er := enT_rg (bf := bf) h.2.1.1
  obtain ⟨w', e1, f1⟩ := h.fail (u := 1) (e := 1) rfl (by omega) (by omega)
  unfold f_X13_needsName
  rw [t3, t1, t2, e1, h.need, Option.bind_some, Option.bind_some, sub_nI er.1]
  by_cases c1 : tyT n bf p = 1
  · rw [if_pos (show nI (tyT n bf p) = 1 by rw [c1]; rfl), show wI w 1329 415 = oI (kwN (nmA n bf p)) from t4 c1]
    by_cases c2 : kwN (nmA n bf p) = none
    · rw [if_pos ((oI_no (fun j hj => by have := (kwN_lt hj).1; omega)).mpr c2)]
      by_cases c3 : enT n bf p - skT n bf p ≤ 8
      · rw [show (8 : Int32) = nI 8 from rfl, if_lt_f (by omega) (by omega) (by omega)]
        exact ⟨fun _ => rfl, fun q => absurd (tk_nm.mpr ⟨c1, c2, c3⟩) q⟩
      · rw [show (8 : Int32) = nI 8 from rfl, if_lt_t (by omega) (by omega) (by omega)]
        exact ⟨fun q => absurd (tk_nm.mp q).2.2 c3, fun _ => ⟨w', rfl, f1⟩⟩
    · rw [if_neg (fun q => c2 ((oI_no (fun j hj => by have := (kwN_lt hj).1; omega)).mp q))]
      exact ⟨fun q => absurd (tk_nm.mp q).2.1 c2, fun _ => ⟨w', rfl, f1⟩⟩
  · rw [if_neg (show ¬ nI (tyT n bf p) = 1 from fun q => c1 ((nI_eq (b := 1) (by omega) (by omega)).mp q))]
    exact ⟨fun q => absurd (tk_nm.mp q).1 c1, fun _ => ⟨w', rfl, f1⟩⟩
theorem m_name {w0 w : Wd} {n : Nat} {bf : Nat → Int32} {p : Nat} (h : MP w0 w n bf p) (e : ktT n bf p = 16) : f_X13_nameHere Kc 415 w = some (nJ (pkM (nmA n bf p)), w) := by
  have er := enT_rg (bf := bf) h.2.1.1
  exact m_nameHere h.1 h.2.1.2 h.2.2.1 h.2.2.2.1.1 (d := enT n bf p - skT n bf p) (by rw [h.2.2.2.1.2.1, show skT n bf p + (enT n bf p - skT n bf p) = enT n bf p by omega]) (by omega) (ty_ltr h.2.1.1 (tk_nm.mp e).1)
theorem lk_newName {w0 m0 wx wm : Wd} {n : Nat} {bf : Nat → Int32} {b p0 p : Nat} {c s t s2 t2 : Nat → Nat} {nm : Nat → Nat → List Nat} {q : Nat} (hq : q < 4) (hx : XQr w0 wx n bf b p0 p c s t nm) (hm : MQr m0 wm n bf p c s2 t2 nm) (g : BD c s) (hcq : c q ≤ nmL q) (hN : ∀ i, i < c q → NmOK (nm q i)) {qi capI v : Int32} (hqi : qi = nI q) (hcap : capI = nI (nmL q)) (hv : v = nI (c q)) {fr : Nat} (hfr : fr = 1333 + q) {kx : Bool × Wd → Option (Bool × Wd)} {km : Wd → Option Wd} (fx : ∀ w, kx (false, w) = some (false, w)) (fm : ∀ w e, MFl m0 w e → km w = some w) (ok : ∀ wx' wm' l, NmOK l → c q < nmL q → XQr w0 wx' n bf b p0 (enT n bf (enT n bf p)) (ups c q (c q + 1)) s t (nmU nm q (c q) l) → MQr m0 wm' n bf (enT n bf (enT n bf p)) (ups c q (c q + 1)) s2 t2 (nmU nm q (c q) l) → Lk w0 m0 n bf b p0 (kx (true, wx')) (km wm')) : Lk w0 m0 n bf b p0 ((f_X5_takesNewName Kc 36 qi wx).bind kx) ((f_X13_begins Kc 415 v capI wm).bind fun q3 => if b2i q3.1 = 0 then some q3.2 else (f_X13_newName Kc 415 (wR q3.2 fr 415) v q3.2).bind km) := by
  subst hqi hcap hv hfr
  have hb := hx.1.2.1
  have m12 := nmL_12 q
  unfold f_X5_takesNewName f_X4_isFull f_X13_begins
  rw [ck hx.1.2.2.2.2.2.1 (kSU hb), Option.bind_some, u900 hx.1.1 hb, Option.bind_some]
  try dsimp only
  rw [ixa_n (by omega) (by omega), Option.bind_some, unm hx.1.1 hb hq, Option.bind_some, unp hx.1.1 hb hq, Option.bind_some, hx.2.1 q hq]
  try dsimp only
  by_cases c1 : c q < nmL q
  · obtain ⟨wx1, ex1, hx1, rx1⟩ := hx.adv
    obtain ⟨wm1, em1, hm1⟩ := hm.go
    rw [if_lt_t (by omega) (by omega) c1, Option.bind_some, ib_f, x500 hx.1.1, Option.bind_some, ex1, Option.bind_some, x500 hx1.1.1, Option.bind_some, hx1.1.2.2.2.2.1.2.2.1, tk_B, Option.bind_some, if_le_f (by omega) (by omega) c1, hm.1.need, Option.bind_some, em1, Option.bind_some, hm1.1.fine, Option.bind_some, Option.bind_some]
    try dsimp only
    rw [ib_t]
    unfold f_X13_newName
    by_cases c2 : ktT n bf (enT n bf p) = 16
    · have nk := nm_ok hx1.1.2.2.1.1 c2
      have t3 := tk_nm.mp c2
      have j1 : wJ wx1 805 37 = nJ (pkX (nmA n bf (enT n bf p))) := hx1.1.2.2.2.2.1.2.2.2.1 t3.1 t3.2.2
      have ix := x_indexOf (w := wx1) (o := b + 14 + 2 * q) (n := c q) (nm := nm q) (l := nmA n bf (enT n bf p)) (hx1.2.1 q hq) (unp hx1.1.1 hb hq) hcq m12 (fun i hi => ⟨hx1.2.2.1 q i hq hi, hN i hi⟩) nk
      have ir := m_placeOf (w := wm1) (n := c q) (nm := nm q) (l := nmA n bf (enT n bf p)) (nref hm1.1.1 hq) hcq m12 (fun i hi => ⟨hm1.2.2 q i hq hi, hN i hi⟩) nk
      rw [if_pos (show some (ktT n bf (enT n bf p)) = some 16 by rw [c2]), j1, ix, Option.bind_some, (m_needsName hm1.1).1 c2, Option.bind_some, hm1.1.fine, Option.bind_some, ib_t, m_name hm1.1 c2, Option.bind_some]
      try dsimp only
      rw [ir, Option.bind_some]
      try dsimp only
      have lt : ∀ j, whN (nm q) (nmA n bf (enT n bf p)) (c q) = some j → j < 2 ^ 31 := fun j hj => by have := fstF_p _ _ _ hj; omega
      by_cases c3 : whN (nm q) (nmA n bf (enT n bf p)) (c q) = none
      · have k1 := XQr_name hx1 g hq (nmA n bf (enT n bf p))
        obtain ⟨wx2, ex2, hx2, _⟩ := k1.adv
        have k2 : MQr m0 (tJ wm1 (432 + q) (c q) (nJ (pkM (nmA n bf (enT n bf p))))) n bf (enT n bf p) (ups c q (c q + 1)) s2 t2 (nmU nm q (c q) (nmA n bf (enT n bf p))) := hm1.t (S := NS) (hm1.1.1.of rfl rfl) (fr_tJ (by unfold MSA; omega)) (fun _ _ z => z) ⟨hm1.2.1, fun k i hk hi => by
          rw [aJ_tJ]
          by_cases e : k = q
          · by_cases e2 : i = c q
            · rw [if_pos ⟨by rw [e], e2⟩, e, e2, nmU_eq]
            · rw [if_neg (fun z => e2 z.2), nmU_ne (fun z => e2 z.2)]
              rw [e, ups_eq] at hi
              exact hm1.2.2 k i hk (by rw [e]; omega)
          · rw [if_neg (by omega), nmU_ne (fun z => e z.1)]
            rw [ups_ne e] at hi
            exact hm1.2.2 k i hk hi⟩
        obtain ⟨wm2, em2, hm2⟩ := k2.go
        rw [if_pos ((oI_no lt).mpr c3), x500 hx1.1.1, Option.bind_some, j1]
        unfold f_X4_add
        rw [unp hx1.1.1 hb hq, Option.bind_some, hx1.2.1 q hq]
        try dsimp only
        rw [if_le_f (by omega) (by omega) c1, ixa_n c1 (by omega), Option.bind_some, Option.bind_some, show wI (tJ wx1 (b + 15 + 2 * q) (c q) (nJ (pkX (nmA n bf (enT n bf p))))) 401 (b + 14 + 2 * q) = nI (c q) from hx1.2.1 q hq, show nI (c q) + 1 = nI (c q + 1) from nI_add (c q) 1, Option.bind_some, Option.bind_some, x500 k1.1.1, Option.bind_some, ex2, Option.bind_some, Option.bind_some, if_pos ((oI_no lt).mpr c3), hm1.1.need, Option.bind_some, hm1.1.fine, Option.bind_some, ib_t, m_name hm1.1 c2, Option.bind_some, nref hm1.1.1 hq, Option.bind_some]
        try dsimp only
        rw [ixa_n c1 (by omega), Option.bind_some, Option.bind_some, em2, Option.bind_some, Option.bind_some]
        exact ok wx2 wm2 _ nk c1 hx2 hm2
      · obtain ⟨wx2, ex2, hx2⟩ := x_fail hx1.1 (u := 3) (e := 3) rfl
        obtain ⟨wm2, em2, hm2⟩ := hm1.1.fail (u := 3) (e := 3) rfl (by omega) (by omega)
        rw [if_neg (fun z => c3 ((oI_no lt).mp z)), ex2, Option.bind_some, Option.bind_some, if_neg (fun z => c3 ((oI_no lt).mp z)), em2, Option.bind_some, n_fine hm2.ne, Option.bind_some, ib_f, n_goOn hm2.ne, Option.bind_some, Option.bind_some]
        exact Or.inl ⟨_, wx2, wm2, fx wx2, fm wm2 _ hm2, hx2, hm2⟩
    · obtain ⟨wx2, ex2, hx2⟩ := x_fail hx1.1 (u := 1) (e := 1) rfl
      obtain ⟨wm2, em2, hm2⟩ := (m_needsName hm1.1).2 c2
      rw [if_neg (show ¬ some (ktT n bf (enT n bf p)) = some 16 from fun z => c2 (by injection z)), ex2, Option.bind_some, Option.bind_some, em2, Option.bind_some, n_fine hm2.ne, Option.bind_some, ib_f, Option.bind_some]
      exact Or.inl ⟨_, wx2, wm2, fx wx2, fm wm2 _ hm2, hx2, hm2⟩
  · obtain ⟨wx2, ex2, hx2⟩ := x_fail hx.1 (u := 4) (e := 4) rfl
    obtain ⟨wm2, em2, hm2⟩ := hm.1.fail (u := 4) (e := 4) rfl (by omega) (by omega)
    rw [if_lt_f (by omega) (by omega) (by omega), Option.bind_some, ib_t, ex2, Option.bind_some, Option.bind_some, if_le_t (by omega) (by omega) (by omega), em2, Option.bind_some, n_goOn hm2.ne, Option.bind_some, n_fine hm2.ne, Option.bind_some, Option.bind_some, ib_f]
    exact Or.inl ⟨_, wx2, wm2, fx wx2, rfl, hx2, hm2⟩
theorem lk_known {w0 m0 wx wm : Wd} {n : Nat} {bf : Nat → Int32} {b p0 p : Nat} {c s t s2 t2 : Nat → Nat} {nm : Nat → Nat → List Nat} {q : Nat} (hq : q < 4) (hx : XQr w0 wx n bf b p0 p c s t nm) (hm : MQr m0 wm n bf p c s2 t2 nm) (hcq : c q ≤ nmL q) (hN : ∀ i, i < c q → NmOK (nm q i)) {qi v : Int32} (hqi : qi = nI q) (hv : v = nI (c q)) {fr : Nat} (hfr : fr = 1333 + q) {kx : Bool × Wd → Option (Bool × Wd)} {km : Int32 × Wd → Option Wd} (fx : ∀ w, kx (false, w) = some (false, w)) (fm : ∀ v w e, MFl m0 w e → km (v, w) = some w) (ok : ∀ wx' i, i < c q → ktT n bf p = 16 → XQr w0 wx' n bf b p0 p c s t nm → wI wx' 504 36 = nI i → Lk w0 m0 n bf b p0 (kx (true, wx')) (km (nI i, wm))) : Lk w0 m0 n bf b p0 ((f_X5_seesToldName Kc 36 qi wx).bind kx) ((f_X13_known Kc 415 (wR wm fr 415) v wm).bind km) := by
  subst hqi hv hfr
  have hb := hx.1.2.1
  have m12 := nmL_12 q
  unfold f_X5_seesToldName f_X13_known
  rw [x500 hx.1.1, Option.bind_some, hx.1.2.2.2.2.1.2.2.1, tk_B, Option.bind_some]
  by_cases c2 : ktT n bf p = 16
  · have nk := nm_ok hx.1.2.2.1.1 c2
    have t3 := tk_nm.mp c2
    have j1 : wJ wx 805 37 = nJ (pkX (nmA n bf p)) := hx.1.2.2.2.2.1.2.2.2.1 t3.1 t3.2.2
    have ix := x_indexOf (w := wx) (o := b + 14 + 2 * q) (n := c q) (nm := nm q) (l := nmA n bf p) (hx.2.1 q hq) (unp hx.1.1 hb hq) hcq m12 (fun i hi => ⟨hx.2.2.1 q i hq hi, hN i hi⟩) nk
    have ir := m_placeOf (w := wm) (n := c q) (nm := nm q) (l := nmA n bf p) (nref hm.1.1 hq) hcq m12 (fun i hi => ⟨hm.2.2 q i hq hi, hN i hi⟩) nk
    have lt : ∀ j, whN (nm q) (nmA n bf p) (c q) = some j → j < 2 ^ 31 := fun j hj => by have := fstF_p _ _ _ hj; omega
    have k1 := hx.t36 (f := 504) (v := oI (whN (nm q) (nmA n bf p) (c q))) (by omega) (by omega)
    have w5 : wI (sI wx 504 36 (oI (whN (nm q) (nmA n bf p) (c q)))) 504 36 = oI (whN (nm q) (nmA n bf p) (c q)) := by rw [wI_sI, if_pos ⟨rfl, rfl⟩]
    rw [if_pos (show some (ktT n bf p) = some 16 by rw [c2]), ck hx.1.2.2.2.2.2.1 (kSU hb), Option.bind_some, u900 hx.1.1 hb, Option.bind_some]
    try dsimp only
    rw [ixa_n (by omega) (by omega), Option.bind_some, unm hx.1.1 hb hq, Option.bind_some, j1, ix, Option.bind_some, Option.bind_some, w5, (m_needsName hm.1).1 c2, Option.bind_some, hm.1.fine, Option.bind_some, ib_t, m_name hm.1 c2, Option.bind_some]
    try dsimp only
    rw [ir, Option.bind_some]
    try dsimp only
    cases c3 : whN (nm q) (nmA n bf p) (c q) with
    | none =>
      rw [c3] at k1
      obtain ⟨wx2, ex2, hx2⟩ := x_fail k1.1 (u := 3) (e := 3) rfl
      obtain ⟨wm2, em2, hm2⟩ := hm.1.fail (u := 3) (e := 3) rfl (by omega) (by omega)
      rw [if_pos (show oI none = -1 from rfl), ex2, Option.bind_some, ib_f, Option.bind_some, if_pos (show oI none = -1 from rfl), em2, Option.bind_some, Option.bind_some]
      exact Or.inl ⟨_, wx2, wm2, fx wx2, fm _ wm2 _ hm2, hx2, hm2⟩
    | some j =>
      rw [c3] at k1
      have no : ¬ oI (some j) = -1 := fun z => by
        have := (oI_no (fun i hi => lt i (by rw [c3]; exact hi))).mp z
        cases this
      rw [if_neg no, Option.bind_some, if_neg no, hm.1.need, Option.bind_some, Option.bind_some]
      have := fstF_p _ _ _ c3
      exact ok _ j (by omega) c2 k1 (by rw [wI_sI, if_pos ⟨rfl, rfl⟩]; rfl)
  · obtain ⟨wx2, ex2, hx2⟩ := x_fail hx.1 (u := 1) (e := 1) rfl
    obtain ⟨wm2, em2, hm2⟩ := (m_needsName hm.1).2 c2
    rw [if_neg (show ¬ some (ktT n bf p) = some 16 from fun z => c2 (by injection z)), ex2, Option.bind_some, Option.bind_some, em2, Option.bind_some, n_fine hm2.ne, Option.bind_some, ib_f, Option.bind_some]
    exact Or.inl ⟨_, wx2, wm2, fx wx2, fm _ wm2 _ hm2, hx2, hm2⟩
