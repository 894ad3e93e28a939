variable {X : Kd}
theorem XQr_name {w0 w : Wd} {n : Nat} {bf : Nat → Int32} {b p0 p : Nat} {c s t : Nat → Nat} {nm : Nat → Nat → List Nat} (h : XQr w0 w n bf b p0 p c s t nm) (g : BD c s) {q : Nat} (hq : q < 4) (l : List Nat) : XQr w0 (sI (tJ w (b + 15 + 2 * q) (c q) (nJ (pkX l))) 401 (b + 14 + 2 * q) (nI (c q + 1))) n bf b p0 p (ups c q (c q + 1)) (s) (t) (nmU nm q (c q) l) := by
  have ub := SU_rg h.1.2.1
  obtain ⟨⟨g0, g1, g2, g3⟩, g10, g4⟩ := id g
  have r : Fr (fun f x => f = 401 ∧ x = b + 14 + 2 * q) (fun x => x = b + 15 + 2 * q) w (sI (tJ w (b + 15 + 2 * q) (c q) (nJ (pkX l))) 401 (b + 14 + 2 * q) (nI (c q + 1))) := Fr.trans (fr_tJ rfl) (fr_sI ⟨rfl, rfl⟩)
  exact ⟨h.1.st (h.1.1.of rfl rfl) rfl r (fun f x (q : f = 401 ∧ x = b + 14 + 2 * q) => Or.inr (by first | exact q.elim | omega)) (fun x (q : x = b + 15 + 2 * q) => by first | exact q.elim | omega), XD_name h.1.2.1 h.2 g hq l⟩
theorem XQr_room {w0 w : Wd} {n : Nat} {bf : Nat → Int32} {b p0 p : Nat} {c s t : Nat → Nat} {nm : Nat → Nat → List Nat} (h : XQr w0 w n bf b p0 p c s t nm) (g : BD c s) (h0 : s 0 < 3) (lo hi : Nat) : XQr w0 (tI w (b + 2) (s 0) (nI (msk lo hi))) n bf b p0 p (c) (ups (ups (ups s (4 + s 0) lo) (7 + s 0) hi) 0 (s 0 + 1)) (t) (nm) := by
  have ub := SU_rg h.1.2.1
  obtain ⟨⟨g0, g1, g2, g3⟩, g10, g4⟩ := id g
  have r : Fr (fun f x => False) (fun x => x = b + 2) w (tI w (b + 2) (s 0) (nI (msk lo hi))) := (ofi_tI (S := fun _ _ => False) (A := fun x => x = b + 2) rfl).fr
  exact ⟨h.1.st (h.1.1.of rfl rfl) rfl r (fun f x (q : False) => Or.inr (by first | exact q.elim | omega)) (fun x (q : x = b + 2) => by first | exact q.elim | omega), XD_room h.1.2.1 h.2 g h0 lo hi⟩
theorem XQr_off {w0 w : Wd} {n : Nat} {bf : Nat → Int32} {b p0 p : Nat} {c s t : Nat → Nat} {nm : Nat → Nat → List Nat} (h : XQr w0 w n bf b p0 p c s t nm) (g : BD c s) {q : Nat} (hq : q < 6) (h3 : s (10 + q) < 3) (lo hi : Nat) : XQr w0 (tI (tI (tI w (b + 4) (3 * q + s (10 + q)) (nI lo)) (b + 5) (3 * q + s (10 + q)) (nI hi)) (b + 3) q (nI (s (10 + q) + 1))) n bf b p0 p (c) (ups (ups (ups s (16 + 6 * q + 2 * s (10 + q)) lo) (16 + 6 * q + 2 * s (10 + q) + 1) hi) (10 + q) (s (10 + q) + 1)) (t) (nm) := by
  have ub := SU_rg h.1.2.1
  obtain ⟨⟨g0, g1, g2, g3⟩, g10, g4⟩ := id g
  have r : Fr (fun f x => False) (fun x => x = b + 4 ∨ x = b + 5 ∨ x = b + 3) w (tI (tI (tI w (b + 4) (3 * q + s (10 + q)) (nI lo)) (b + 5) (3 * q + s (10 + q)) (nI hi)) (b + 3) q (nI (s (10 + q) + 1))) := Fr.trans (Fr.trans (ofi_tI (S := fun _ _ => False) (A := fun x => x = b + 4 ∨ x = b + 5 ∨ x = b + 3) (Or.inl rfl)).fr (ofi_tI (S := fun _ _ => False) (A := fun x => x = b + 4 ∨ x = b + 5 ∨ x = b + 3) (Or.inr (Or.inl rfl))).fr) (ofi_tI (S := fun _ _ => False) (A := fun x => x = b + 4 ∨ x = b + 5 ∨ x = b + 3) (Or.inr (Or.inr rfl))).fr
  exact ⟨h.1.st (h.1.1.of rfl rfl) rfl r (fun f x (q : False) => Or.inr (by first | exact q.elim | omega)) (fun x (q : x = b + 4 ∨ x = b + 5 ∨ x = b + 3) => by first | exact q.elim | omega), XD_off h.1.2.1 h.2 g hq h3 lo hi⟩
theorem XQr_wd {w0 w : Wd} {n : Nat} {bf : Nat → Int32} {b p0 p : Nat} {c s t : Nat → Nat} {nm : Nat → Nat → List Nat} (h : XQr w0 w n bf b p0 p c s t nm) (g : BD c s) {q : Nat} (hc4 : c 4 = q) (ht20 : t 1 ≤ 20) (hq : q < 12) (lo hi : Nat) : XQr w0 (tI (tI w (b + 6) q (nI lo)) (b + 7) q (nI hi)) n bf b p0 p (ups c 4 (q + 1)) (ups s (52 + q) lo) (ups t (22 + q) (hi + 1)) (nm) := by
  have ub := SU_rg h.1.2.1
  obtain ⟨⟨g0, g1, g2, g3⟩, g10, g4⟩ := id g
  have r : Fr (fun f x => False) (fun x => x = b + 6 ∨ x = b + 7) w (tI (tI w (b + 6) q (nI lo)) (b + 7) q (nI hi)) := Fr.trans (ofi_tI (S := fun _ _ => False) (A := fun x => x = b + 6 ∨ x = b + 7) (Or.inl rfl)).fr (ofi_tI (S := fun _ _ => False) (A := fun x => x = b + 6 ∨ x = b + 7) (Or.inr rfl)).fr
  exact ⟨h.1.st (h.1.1.of rfl rfl) rfl r (fun f x (q : False) => Or.inr (by first | exact q.elim | omega)) (fun x (q : x = b + 6 ∨ x = b + 7) => by first | exact q.elim | omega), XD_wd h.1.2.1 h.2 g hc4 ht20 hq lo hi⟩
theorem XQr_ws {w0 w : Wd} {n : Nat} {bf : Nat → Int32} {b p0 p : Nat} {c s t : Nat → Nat} {nm : Nat → Nat → List Nat} (h : XQr w0 w n bf b p0 p c s t nm) (g : BD c s) (h2 : s 2 < 12) (lo hi : Nat) : XQr w0 (tI (tI w (b + 8) (s 2) (nI lo)) (b + 9) (s 2) (nI hi)) n bf b p0 p (c) (ups (ups (ups s (64 + s 2) lo) (76 + s 2) hi) 2 (s 2 + 1)) (t) (nm) := by
  have ub := SU_rg h.1.2.1
  obtain ⟨⟨g0, g1, g2, g3⟩, g10, g4⟩ := id g
  have r : Fr (fun f x => False) (fun x => x = b + 8 ∨ x = b + 9) w (tI (tI w (b + 8) (s 2) (nI lo)) (b + 9) (s 2) (nI hi)) := Fr.trans (ofi_tI (S := fun _ _ => False) (A := fun x => x = b + 8 ∨ x = b + 9) (Or.inl rfl)).fr (ofi_tI (S := fun _ _ => False) (A := fun x => x = b + 8 ∨ x = b + 9) (Or.inr rfl)).fr
  exact ⟨h.1.st (h.1.1.of rfl rfl) rfl r (fun f x (q : False) => Or.inr (by first | exact q.elim | omega)) (fun x (q : x = b + 8 ∨ x = b + 9) => by first | exact q.elim | omega), XD_ws h.1.2.1 h.2 g h2 lo hi⟩
theorem XQr_cf {w0 w : Wd} {n : Nat} {bf : Nat → Int32} {b p0 p : Nat} {c s t : Nat → Nat} {nm : Nat → Nat → List Nat} (h : XQr w0 w n bf b p0 p c s t nm) (g : BD c s) {q : Nat} (hq : c 5 = q) (hq2 : q < 12) (v : Nat) : XQr w0 (sI w 300 (b + 22 + q) (nI v)) n bf b p0 p (ups c 5 (q + 1)) (ups s (88 + q) v) (t) (nm) := by
  have ub := SU_rg h.1.2.1
  obtain ⟨⟨g0, g1, g2, g3⟩, g10, g4⟩ := id g
  have r : Fr (fun f x => f = 300 ∧ x = b + 22 + q) (fun x => False) w (sI w 300 (b + 22 + q) (nI v)) := fr_sI ⟨rfl, rfl⟩
  exact ⟨h.1.st (h.1.1.of rfl rfl) rfl r (fun f x (q : f = 300 ∧ x = b + 22 + q) => Or.inr (by first | exact q.elim | omega)) (fun x (q : False) => by first | exact q.elim | omega), XD_cf h.1.2.1 h.2 g hq hq2 v⟩
theorem XQr_cs {w0 w : Wd} {n : Nat} {bf : Nat → Int32} {b p0 p : Nat} {c s t : Nat → Nat} {nm : Nat → Nat → List Nat} (h : XQr w0 w n bf b p0 p c s t nm) (g : BD c s) {q : Nat} (hq : c 6 = q) (hq2 : q < 12) (v : Nat) : XQr w0 (sI w 301 (b + 22 + q) (nI v)) n bf b p0 p (ups c 6 (q + 1)) (ups s (100 + q) v) (t) (nm) := by
  have ub := SU_rg h.1.2.1
  obtain ⟨⟨g0, g1, g2, g3⟩, g10, g4⟩ := id g
  have r : Fr (fun f x => f = 301 ∧ x = b + 22 + q) (fun x => False) w (sI w 301 (b + 22 + q) (nI v)) := fr_sI ⟨rfl, rfl⟩
  exact ⟨h.1.st (h.1.1.of rfl rfl) rfl r (fun f x (q : f = 301 ∧ x = b + 22 + q) => Or.inr (by first | exact q.elim | omega)) (fun x (q : False) => by first | exact q.elim | omega), XD_cs h.1.2.1 h.2 g hq hq2 v⟩
theorem XQr_cl {w0 w : Wd} {n : Nat} {bf : Nat → Int32} {b p0 p : Nat} {c s t : Nat → Nat} {nm : Nat → Nat → List Nat} (h : XQr w0 w n bf b p0 p c s t nm) (g : BD c s) {q : Nat} (hq : c 7 = q) (hq2 : q < 12) (v : Nat) : XQr w0 (sI w 302 (b + 22 + q) (nI v)) n bf b p0 p (ups c 7 (q + 1)) (ups s (112 + q) v) (t) (nm) := by
  have ub := SU_rg h.1.2.1
  obtain ⟨⟨g0, g1, g2, g3⟩, g10, g4⟩ := id g
  have r : Fr (fun f x => f = 302 ∧ x = b + 22 + q) (fun x => False) w (sI w 302 (b + 22 + q) (nI v)) := fr_sI ⟨rfl, rfl⟩
  exact ⟨h.1.st (h.1.1.of rfl rfl) rfl r (fun f x (q : f = 302 ∧ x = b + 22 + q) => Or.inr (by first | exact q.elim | omega)) (fun x (q : False) => by first | exact q.elim | omega), XD_cl h.1.2.1 h.2 g hq hq2 v⟩
theorem XQr_cc {w0 w : Wd} {n : Nat} {bf : Nat → Int32} {b p0 p : Nat} {c s t : Nat → Nat} {nm : Nat → Nat → List Nat} (h : XQr w0 w n bf b p0 p c s t nm) (g : BD c s) {q : Nat} (hq : q < 12) : XQr w0 (sZ w 303 (b + 22 + q) true) n bf b p0 p (c) (ups s (124 + q) 1) (t) (nm) := by
  have ub := SU_rg h.1.2.1
  obtain ⟨⟨g0, g1, g2, g3⟩, g10, g4⟩ := id g
  have r : Fr (fun f x => f = 303 ∧ x = b + 22 + q) (fun x => False) w (sZ w 303 (b + 22 + q) true) := fr_sZ ⟨rfl, rfl⟩
  exact ⟨h.1.st (h.1.1.of rfl rfl) rfl r (fun f x (q : f = 303 ∧ x = b + 22 + q) => Or.inr (by first | exact q.elim | omega)) (fun x (q : False) => by first | exact q.elim | omega), XD_cc h.1.2.1 h.2 g hq⟩
theorem XQr_cn {w0 w : Wd} {n : Nat} {bf : Nat → Int32} {b p0 p : Nat} {c s t : Nat → Nat} {nm : Nat → Nat → List Nat} (h : XQr w0 w n bf b p0 p c s t nm) (g : BD c s) {q : Nat} (hq : q < 12) (v : Nat) : XQr w0 (sI w 304 (b + 22 + q) (nI v)) n bf b p0 p (c) (ups s (136 + q) v) (t) (nm) := by
  have ub := SU_rg h.1.2.1
  obtain ⟨⟨g0, g1, g2, g3⟩, g10, g4⟩ := id g
  have r : Fr (fun f x => f = 304 ∧ x = b + 22 + q) (fun x => False) w (sI w 304 (b + 22 + q) (nI v)) := fr_sI ⟨rfl, rfl⟩
  exact ⟨h.1.st (h.1.1.of rfl rfl) rfl r (fun f x (q : f = 304 ∧ x = b + 22 + q) => Or.inr (by first | exact q.elim | omega)) (fun x (q : False) => by first | exact q.elim | omega), XD_cn h.1.2.1 h.2 g hq v⟩
theorem XQr_cx {w0 w : Wd} {n : Nat} {bf : Nat → Int32} {b p0 p : Nat} {c s t : Nat → Nat} {nm : Nat → Nat → List Nat} (h : XQr w0 w n bf b p0 p c s t nm) (g : BD c s) {q : Nat} (hq : q < 12) (v : Nat) : XQr w0 (sI w 305 (b + 22 + q) (nI v)) n bf b p0 p (c) (ups s (148 + q) v) (t) (nm) := by
  have ub := SU_rg h.1.2.1
  obtain ⟨⟨g0, g1, g2, g3⟩, g10, g4⟩ := id g
  have r : Fr (fun f x => f = 305 ∧ x = b + 22 + q) (fun x => False) w (sI w 305 (b + 22 + q) (nI v)) := fr_sI ⟨rfl, rfl⟩
  exact ⟨h.1.st (h.1.1.of rfl rfl) rfl r (fun f x (q : f = 305 ∧ x = b + 22 + q) => Or.inr (by first | exact q.elim | omega)) (fun x (q : False) => by first | exact q.elim | omega), XD_cx h.1.2.1 h.2 g hq v⟩
theorem XQr_cb {w0 w : Wd} {n : Nat} {bf : Nat → Int32} {b p0 p : Nat} {c s t : Nat → Nat} {nm : Nat → Nat → List Nat} (h : XQr w0 w n bf b p0 p c s t nm) (g : BD c s) {q : Nat} (hq : q < 12) (ht20 : t 1 ≤ 20) (v : Nat) : XQr w0 (sI w 306 (b + 22 + q) (nI v)) n bf b p0 p (c) (s) (ups t (34 + q) v) (nm) := by
  have ub := SU_rg h.1.2.1
  obtain ⟨⟨g0, g1, g2, g3⟩, g10, g4⟩ := id g
  have r : Fr (fun f x => f = 306 ∧ x = b + 22 + q) (fun x => False) w (sI w 306 (b + 22 + q) (nI v)) := fr_sI ⟨rfl, rfl⟩
  exact ⟨h.1.st (h.1.1.of rfl rfl) rfl r (fun f x (q : f = 306 ∧ x = b + 22 + q) => Or.inr (by first | exact q.elim | omega)) (fun x (q : False) => by first | exact q.elim | omega), XD_cb h.1.2.1 h.2 g hq ht20 v⟩
theorem XQr_rt {w0 w : Wd} {n : Nat} {bf : Nat → Int32} {b p0 p : Nat} {c s t : Nat → Nat} {nm : Nat → Nat → List Nat} (h : XQr w0 w n bf b p0 p c s t nm) (g : BD c s) {q : Nat} (hq : q < 4) {v : Nat} (hv : tld (ups s (166 + q) 1) = v) : XQr w0 (sI w 912 b (nI v)) n bf b p0 p (c) (ups s (166 + q) 1) (t) (nm) := by
  have ub := SU_rg h.1.2.1
  obtain ⟨⟨g0, g1, g2, g3⟩, g10, g4⟩ := id g
  have r : Fr (fun f x => f = 912 ∧ x = b) (fun x => False) w (sI w 912 b (nI v)) := fr_sI ⟨rfl, rfl⟩
  exact ⟨h.1.st (h.1.1.of rfl rfl) rfl r (fun f x (q : f = 912 ∧ x = b) => Or.inr (by first | exact q.elim | omega)) (fun x (q : False) => by first | exact q.elim | omega), XD_rt h.1.2.1 h.2 g hq hv⟩
theorem XQr_rd {w0 w : Wd} {n : Nat} {bf : Nat → Int32} {b p0 p : Nat} {c s t : Nat → Nat} {nm : Nat → Nat → List Nat} (h : XQr w0 w n bf b p0 p c s t nm) (g : BD c s) {q : Nat} (hq : q < 4) (v : Nat) : XQr w0 (tI w (b + 13) q (nI v)) n bf b p0 p (c) (ups s (160 + q) v) (t) (nm) := by
  have ub := SU_rg h.1.2.1
  obtain ⟨⟨g0, g1, g2, g3⟩, g10, g4⟩ := id g
  have r : Fr (fun f x => False) (fun x => x = b + 13) w (tI w (b + 13) q (nI v)) := (ofi_tI (S := fun _ _ => False) (A := fun x => x = b + 13) rfl).fr
  exact ⟨h.1.st (h.1.1.of rfl rfl) rfl r (fun f x (q : False) => Or.inr (by first | exact q.elim | omega)) (fun x (q : x = b + 13) => by first | exact q.elim | omega), XD_rd h.1.2.1 h.2 g hq v⟩
theorem XQr_kt {w0 w : Wd} {n : Nat} {bf : Nat → Int32} {b p0 p : Nat} {c s t : Nat → Nat} {nm : Nat → Nat → List Nat} (h : XQr w0 w n bf b p0 p c s t nm) (g : BD c s)  : XQr w0 (sZ w 914 b true) n bf b p0 p (c) (ups s 165 1) (t) (nm) := by
  have ub := SU_rg h.1.2.1
  obtain ⟨⟨g0, g1, g2, g3⟩, g10, g4⟩ := id g
  have r : Fr (fun f x => f = 914 ∧ x = b) (fun x => False) w (sZ w 914 b true) := fr_sZ ⟨rfl, rfl⟩
  exact ⟨h.1.st (h.1.1.of rfl rfl) rfl r (fun f x (q : f = 914 ∧ x = b) => Or.inr (by first | exact q.elim | omega)) (fun x (q : False) => by first | exact q.elim | omega), XD_kt h.1.2.1 h.2 g ⟩
theorem XQr_kv {w0 w : Wd} {n : Nat} {bf : Nat → Int32} {b p0 p : Nat} {c s t : Nat → Nat} {nm : Nat → Nat → List Nat} (h : XQr w0 w n bf b p0 p c s t nm) (g : BD c s) (v : Nat) : XQr w0 (sI w 913 b (nI v)) n bf b p0 p (c) (ups s 164 v) (t) (nm) := by
  have ub := SU_rg h.1.2.1
  obtain ⟨⟨g0, g1, g2, g3⟩, g10, g4⟩ := id g
  have r : Fr (fun f x => f = 913 ∧ x = b) (fun x => False) w (sI w 913 b (nI v)) := fr_sI ⟨rfl, rfl⟩
  exact ⟨h.1.st (h.1.1.of rfl rfl) rfl r (fun f x (q : f = 913 ∧ x = b) => Or.inr (by first | exact q.elim | omega)) (fun x (q : False) => by first | exact q.elim | omega), XD_kv h.1.2.1 h.2 g v⟩
theorem XQr_ho {w0 w : Wd} {n : Nat} {bf : Nat → Int32} {b p0 p : Nat} {c s t : Nat → Nat} {nm : Nat → Nat → List Nat} (h : XQr w0 w n bf b p0 p c s t nm) (g : BD c s) {d : Nat} (hd : d < 600) (h1 : t 1 < 20) : XQr w0 (sI (tI w (b + 12) (d / 32) (aI w (b + 12) (d / 32) ||| nI (2 ^ (d % 32)))) 201 (b + 11) (nI (t 1 + 1))) n bf b p0 p (c) (s) (hoT t d) (nm) := by
  have ub := SU_rg h.1.2.1
  obtain ⟨⟨g0, g1, g2, g3⟩, g10, g4⟩ := id g
  have r : Fr (fun f x => f = 201 ∧ x = b + 11) (fun x => x = b + 12) w (sI (tI w (b + 12) (d / 32) (aI w (b + 12) (d / 32) ||| nI (2 ^ (d % 32)))) 201 (b + 11) (nI (t 1 + 1))) := Fr.trans (ofi_tI (S := fun f x => f = 201 ∧ x = b + 11) (A := fun x => x = b + 12) rfl).fr (fr_sI ⟨rfl, rfl⟩)
  exact ⟨h.1.st (h.1.1.of rfl rfl) rfl r (fun f x (q : f = 201 ∧ x = b + 11) => Or.inr (by first | exact q.elim | omega)) (fun x (q : x = b + 12) => by first | exact q.elim | omega), XD_ho h.1.2.1 h.2 g hd h1⟩
theorem nmL_12 (q : Nat) : nmL q ≤ 12 := by
  unfold nmL
  split <;> omega
