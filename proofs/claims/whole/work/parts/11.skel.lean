/-! THE SKELETONS: where the cells of the class and of the reference lie -/
theorem gs_rz (S : Sg) (n : Nat) : tg (rz S n) = tg S ∧ ln (rz S n) = ln S ∧ fI (rz S n) = fI S ∧ fL (rz S n) = fL S ∧ fR (rz S n) = fR S ∧ aI (rz S n) = aI S ∧ aL (rz S n) = aL S ∧ aR (rz S n) = aR S ∧ sz (rz S n) = n := ⟨rfl, rfl, rfl, rfl, rfl, rfl, rfl, rfl, rfl⟩
theorem gs_ze (n : Nat) : sz (ze n) = n ∧ (∀ q, tg (ze n) q = 0) ∧ (∀ q, ln (ze n) q = 0) ∧ (∀ k q, fI (ze n) k q = 0) ∧ (∀ k q, fL (ze n) k q = 0) ∧ (∀ k q, fR (ze n) k q = none) ∧ (∀ q i, aI (ze n) q i = 0) ∧ (∀ q i, aL (ze n) q i = 0) ∧ ∀ q i, aR (ze n) q i = none := ⟨rfl, fun _ => rfl, fun _ => rfl, fun _ _ => rfl, fun _ _ => rfl, fun _ _ => rfl, fun _ _ => rfl, fun _ _ => rfl, fun _ _ => rfl⟩
def SX (x : Nat) (S : Sg) : Prop := tg S x = 11 ∧ tg S (x + 1) = 7 ∧ tg S (x + 2) = 17 ∧ tg S (x + 3) = 13 ∧ tg S (x + 4) = 4 ∧ tg S (x + 5) = 14 ∧ tg S (x + 6) = 18 ∧ tg S (x + 7) = 16 ∧ tg S (x + 8) = 3 ∧ tg S (x + 9) = 13 ∧ tg S (x + 10) = 5 ∧ tg S (x + 11) = 14 ∧ tg S (x + 12) = 13 ∧ tg S (x + 13) = 10 ∧ tg S (x + 14) = 8 ∧ ln S (x + 2) = 2000 ∧ ln S (x + 3) = 2000 ∧ ln S (x + 5) = 8 ∧ ln S (x + 6) = 8 ∧ ln S (x + 7) = 64 ∧ ln S (x + 9) = 49 ∧ ln S (x + 11) = 500 ∧ ln S (x + 12) = 1000 ∧ fR S 640 x = some (x + 1) ∧ fR S 641 x = some (x + 4) ∧ fR S 642 x = some (x + 10) ∧ fR S 643 x = some (x + 13) ∧ fR S 384 (x + 1) = some (x + 2) ∧ fR S 385 (x + 1) = some (x + 3) ∧ fR S 192 (x + 4) = some (x + 5) ∧ fR S 193 (x + 4) = some (x + 6) ∧ fR S 194 (x + 4) = some (x + 7) ∧ fR S 195 (x + 4) = some (x + 8) ∧ fR S 128 (x + 8) = some (x + 9) ∧ fR S 256 (x + 10) = some (x + 11) ∧ fR S 257 (x + 10) = some (x + 12) ∧ fR S 576 (x + 13) = some (x + 1) ∧ fR S 577 (x + 13) = some (x + 4) ∧ fR S 578 (x + 13) = some (x + 10) ∧ fR S 579 (x + 13) = some (x + 14)
theorem SX_t0 {x : Nat} {S : Sg} (h : SX x S) : tg S x = 11 := h.1
theorem SX_t1 {x : Nat} {S : Sg} (h : SX x S) : tg S (x + 1) = 7 := h.2.1
theorem SX_t2 {x : Nat} {S : Sg} (h : SX x S) : tg S (x + 2) = 17 := h.2.2.1
theorem SX_t3 {x : Nat} {S : Sg} (h : SX x S) : tg S (x + 3) = 13 := h.2.2.2.1
theorem SX_t4 {x : Nat} {S : Sg} (h : SX x S) : tg S (x + 4) = 4 := h.2.2.2.2.1
theorem SX_t5 {x : Nat} {S : Sg} (h : SX x S) : tg S (x + 5) = 14 := h.2.2.2.2.2.1
theorem SX_t6 {x : Nat} {S : Sg} (h : SX x S) : tg S (x + 6) = 18 := h.2.2.2.2.2.2.1
theorem SX_t7 {x : Nat} {S : Sg} (h : SX x S) : tg S (x + 7) = 16 := h.2.2.2.2.2.2.2.1
theorem SX_t8 {x : Nat} {S : Sg} (h : SX x S) : tg S (x + 8) = 3 := h.2.2.2.2.2.2.2.2.1
theorem SX_t9 {x : Nat} {S : Sg} (h : SX x S) : tg S (x + 9) = 13 := h.2.2.2.2.2.2.2.2.2.1
theorem SX_t10 {x : Nat} {S : Sg} (h : SX x S) : tg S (x + 10) = 5 := h.2.2.2.2.2.2.2.2.2.2.1
theorem SX_t11 {x : Nat} {S : Sg} (h : SX x S) : tg S (x + 11) = 14 := h.2.2.2.2.2.2.2.2.2.2.2.1
theorem SX_t12 {x : Nat} {S : Sg} (h : SX x S) : tg S (x + 12) = 13 := h.2.2.2.2.2.2.2.2.2.2.2.2.1
theorem SX_t13 {x : Nat} {S : Sg} (h : SX x S) : tg S (x + 13) = 10 := h.2.2.2.2.2.2.2.2.2.2.2.2.2.1
theorem SX_t14 {x : Nat} {S : Sg} (h : SX x S) : tg S (x + 14) = 8 := h.2.2.2.2.2.2.2.2.2.2.2.2.2.2.1
theorem SX_l2 {x : Nat} {S : Sg} (h : SX x S) : ln S (x + 2) = 2000 := h.2.2.2.2.2.2.2.2.2.2.2.2.2.2.2.1
theorem SX_l3 {x : Nat} {S : Sg} (h : SX x S) : ln S (x + 3) = 2000 := h.2.2.2.2.2.2.2.2.2.2.2.2.2.2.2.2.1
theorem SX_l5 {x : Nat} {S : Sg} (h : SX x S) : ln S (x + 5) = 8 := h.2.2.2.2.2.2.2.2.2.2.2.2.2.2.2.2.2.1
theorem SX_l6 {x : Nat} {S : Sg} (h : SX x S) : ln S (x + 6) = 8 := h.2.2.2.2.2.2.2.2.2.2.2.2.2.2.2.2.2.2.1
theorem SX_l7 {x : Nat} {S : Sg} (h : SX x S) : ln S (x + 7) = 64 := h.2.2.2.2.2.2.2.2.2.2.2.2.2.2.2.2.2.2.2.1
theorem SX_l9 {x : Nat} {S : Sg} (h : SX x S) : ln S (x + 9) = 49 := h.2.2.2.2.2.2.2.2.2.2.2.2.2.2.2.2.2.2.2.2.1
theorem SX_l11 {x : Nat} {S : Sg} (h : SX x S) : ln S (x + 11) = 500 := h.2.2.2.2.2.2.2.2.2.2.2.2.2.2.2.2.2.2.2.2.2.1
theorem SX_l12 {x : Nat} {S : Sg} (h : SX x S) : ln S (x + 12) = 1000 := h.2.2.2.2.2.2.2.2.2.2.2.2.2.2.2.2.2.2.2.2.2.2.1
theorem SX_r640 {x : Nat} {S : Sg} (h : SX x S) : fR S 640 x = some (x + 1) := h.2.2.2.2.2.2.2.2.2.2.2.2.2.2.2.2.2.2.2.2.2.2.2.1
theorem SX_r641 {x : Nat} {S : Sg} (h : SX x S) : fR S 641 x = some (x + 4) := h.2.2.2.2.2.2.2.2.2.2.2.2.2.2.2.2.2.2.2.2.2.2.2.2.1
theorem SX_r642 {x : Nat} {S : Sg} (h : SX x S) : fR S 642 x = some (x + 10) := h.2.2.2.2.2.2.2.2.2.2.2.2.2.2.2.2.2.2.2.2.2.2.2.2.2.1
theorem SX_r643 {x : Nat} {S : Sg} (h : SX x S) : fR S 643 x = some (x + 13) := h.2.2.2.2.2.2.2.2.2.2.2.2.2.2.2.2.2.2.2.2.2.2.2.2.2.2.1
theorem SX_r384 {x : Nat} {S : Sg} (h : SX x S) : fR S 384 (x + 1) = some (x + 2) := h.2.2.2.2.2.2.2.2.2.2.2.2.2.2.2.2.2.2.2.2.2.2.2.2.2.2.2.1
theorem SX_r385 {x : Nat} {S : Sg} (h : SX x S) : fR S 385 (x + 1) = some (x + 3) := h.2.2.2.2.2.2.2.2.2.2.2.2.2.2.2.2.2.2.2.2.2.2.2.2.2.2.2.2.1
theorem SX_r192 {x : Nat} {S : Sg} (h : SX x S) : fR S 192 (x + 4) = some (x + 5) := h.2.2.2.2.2.2.2.2.2.2.2.2.2.2.2.2.2.2.2.2.2.2.2.2.2.2.2.2.2.1
theorem SX_r193 {x : Nat} {S : Sg} (h : SX x S) : fR S 193 (x + 4) = some (x + 6) := h.2.2.2.2.2.2.2.2.2.2.2.2.2.2.2.2.2.2.2.2.2.2.2.2.2.2.2.2.2.2.1
theorem SX_r194 {x : Nat} {S : Sg} (h : SX x S) : fR S 194 (x + 4) = some (x + 7) := h.2.2.2.2.2.2.2.2.2.2.2.2.2.2.2.2.2.2.2.2.2.2.2.2.2.2.2.2.2.2.2.1
theorem SX_r195 {x : Nat} {S : Sg} (h : SX x S) : fR S 195 (x + 4) = some (x + 8) := h.2.2.2.2.2.2.2.2.2.2.2.2.2.2.2.2.2.2.2.2.2.2.2.2.2.2.2.2.2.2.2.2.1
theorem SX_r128 {x : Nat} {S : Sg} (h : SX x S) : fR S 128 (x + 8) = some (x + 9) := h.2.2.2.2.2.2.2.2.2.2.2.2.2.2.2.2.2.2.2.2.2.2.2.2.2.2.2.2.2.2.2.2.2.1
theorem SX_r256 {x : Nat} {S : Sg} (h : SX x S) : fR S 256 (x + 10) = some (x + 11) := h.2.2.2.2.2.2.2.2.2.2.2.2.2.2.2.2.2.2.2.2.2.2.2.2.2.2.2.2.2.2.2.2.2.2.1
theorem SX_r257 {x : Nat} {S : Sg} (h : SX x S) : fR S 257 (x + 10) = some (x + 12) := h.2.2.2.2.2.2.2.2.2.2.2.2.2.2.2.2.2.2.2.2.2.2.2.2.2.2.2.2.2.2.2.2.2.2.2.1
theorem SX_r576 {x : Nat} {S : Sg} (h : SX x S) : fR S 576 (x + 13) = some (x + 1) := h.2.2.2.2.2.2.2.2.2.2.2.2.2.2.2.2.2.2.2.2.2.2.2.2.2.2.2.2.2.2.2.2.2.2.2.2.1
theorem SX_r577 {x : Nat} {S : Sg} (h : SX x S) : fR S 577 (x + 13) = some (x + 4) := h.2.2.2.2.2.2.2.2.2.2.2.2.2.2.2.2.2.2.2.2.2.2.2.2.2.2.2.2.2.2.2.2.2.2.2.2.2.1
theorem SX_r578 {x : Nat} {S : Sg} (h : SX x S) : fR S 578 (x + 13) = some (x + 10) := h.2.2.2.2.2.2.2.2.2.2.2.2.2.2.2.2.2.2.2.2.2.2.2.2.2.2.2.2.2.2.2.2.2.2.2.2.2.2.1
theorem SX_r579 {x : Nat} {S : Sg} (h : SX x S) : fR S 579 (x + 13) = some (x + 14) := h.2.2.2.2.2.2.2.2.2.2.2.2.2.2.2.2.2.2.2.2.2.2.2.2.2.2.2.2.2.2.2.2.2.2.2.2.2.2.2
theorem SX_sFI {x : Nat} {S : Sg} (k a : Nat) (v : Int32) : SX x (sFI S k a v) ↔ SX x S := Iff.rfl
theorem SX_sFL {x : Nat} {S : Sg} (k a : Nat) (v : Int64) : SX x (sFL S k a v) ↔ SX x S := Iff.rfl
theorem SX_sAI {x : Nat} {S : Sg} (k a : Nat) (v : Int32) : SX x (sAI S k a v) ↔ SX x S := Iff.rfl
theorem SX_sAL {x : Nat} {S : Sg} (k a : Nat) (v : Int64) : SX x (sAL S k a v) ↔ SX x S := Iff.rfl
theorem SX_sAR {x : Nat} {S : Sg} (k a : Nat) (v : Option Nat) : SX x (sAR S k a v) ↔ SX x S := Iff.rfl
theorem SX_rz {x : Nat} {S : Sg} (n : Nat) : SX x (rz S n) ↔ SX x S := Iff.rfl
theorem SX_sFR {x : Nat} {S : Sg} {k a : Nat} {v : Option Nat} (hk : k ∉ [640, 641, 642, 643, 384, 385, 192, 193, 194, 195, 128, 256, 257, 576, 577, 578, 579]) : SX x (sFR S k a v) ↔ SX x S := by
  simp only [List.mem_cons, List.not_mem_nil, or_false, not_or] at hk
  obtain ⟨h0, h1, h2, h3, h4, h5, h6, h7, h8, h9, h10, h11, h12, h13, h14, h15, h16⟩ := hk
  unfold SX
  simp only [gs_FR, show (640 : Nat) = k ↔ False from ⟨fun e => h0 e.symm, False.elim⟩, show (641 : Nat) = k ↔ False from ⟨fun e => h1 e.symm, False.elim⟩, show (642 : Nat) = k ↔ False from ⟨fun e => h2 e.symm, False.elim⟩, show (643 : Nat) = k ↔ False from ⟨fun e => h3 e.symm, False.elim⟩, show (384 : Nat) = k ↔ False from ⟨fun e => h4 e.symm, False.elim⟩, show (385 : Nat) = k ↔ False from ⟨fun e => h5 e.symm, False.elim⟩, show (192 : Nat) = k ↔ False from ⟨fun e => h6 e.symm, False.elim⟩, show (193 : Nat) = k ↔ False from ⟨fun e => h7 e.symm, False.elim⟩, show (194 : Nat) = k ↔ False from ⟨fun e => h8 e.symm, False.elim⟩, show (195 : Nat) = k ↔ False from ⟨fun e => h9 e.symm, False.elim⟩, show (128 : Nat) = k ↔ False from ⟨fun e => h10 e.symm, False.elim⟩, show (256 : Nat) = k ↔ False from ⟨fun e => h11 e.symm, False.elim⟩, show (257 : Nat) = k ↔ False from ⟨fun e => h12 e.symm, False.elim⟩, show (576 : Nat) = k ↔ False from ⟨fun e => h13 e.symm, False.elim⟩, show (577 : Nat) = k ↔ False from ⟨fun e => h14 e.symm, False.elim⟩, show (578 : Nat) = k ↔ False from ⟨fun e => h15 e.symm, False.elim⟩, show (579 : Nat) = k ↔ False from ⟨fun e => h16 e.symm, False.elim⟩, false_and, if_false]
theorem SX_nw {x : Nat} {S : Sg} {t n : Nat} (hf : ∀ q, tg S q ≠ 0 → q < sz S) (h : SX x S) : SX x (nw S t n) := by
  have e0 : x ≠ sz S := Nat.ne_of_lt (hf _ (by rw [SX_t0 h]; decide))
  have e1 : (x + 1) ≠ sz S := Nat.ne_of_lt (hf _ (by rw [SX_t1 h]; decide))
  have e2 : (x + 2) ≠ sz S := Nat.ne_of_lt (hf _ (by rw [SX_t2 h]; decide))
  have e3 : (x + 3) ≠ sz S := Nat.ne_of_lt (hf _ (by rw [SX_t3 h]; decide))
  have e4 : (x + 4) ≠ sz S := Nat.ne_of_lt (hf _ (by rw [SX_t4 h]; decide))
  have e5 : (x + 5) ≠ sz S := Nat.ne_of_lt (hf _ (by rw [SX_t5 h]; decide))
  have e6 : (x + 6) ≠ sz S := Nat.ne_of_lt (hf _ (by rw [SX_t6 h]; decide))
  have e7 : (x + 7) ≠ sz S := Nat.ne_of_lt (hf _ (by rw [SX_t7 h]; decide))
  have e8 : (x + 8) ≠ sz S := Nat.ne_of_lt (hf _ (by rw [SX_t8 h]; decide))
  have e9 : (x + 9) ≠ sz S := Nat.ne_of_lt (hf _ (by rw [SX_t9 h]; decide))
  have e10 : (x + 10) ≠ sz S := Nat.ne_of_lt (hf _ (by rw [SX_t10 h]; decide))
  have e11 : (x + 11) ≠ sz S := Nat.ne_of_lt (hf _ (by rw [SX_t11 h]; decide))
  have e12 : (x + 12) ≠ sz S := Nat.ne_of_lt (hf _ (by rw [SX_t12 h]; decide))
  have e13 : (x + 13) ≠ sz S := Nat.ne_of_lt (hf _ (by rw [SX_t13 h]; decide))
  have e14 : (x + 14) ≠ sz S := Nat.ne_of_lt (hf _ (by rw [SX_t14 h]; decide))
  unfold SX
  simp only [gs_nw, e0, e1, e2, e3, e4, e5, e6, e7, e8, e9, e10, e11, e12, e13, e14, if_false]
  exact h
def MX (m : Nat) (S : Sg) : Prop := tg S m = 12 ∧ tg S (m + 1) = 13 ∧ tg S (m + 2) = 13 ∧ tg S (m + 3) = 13 ∧ tg S (m + 4) = 13 ∧ tg S (m + 5) = 13 ∧ tg S (m + 6) = 13 ∧ tg S (m + 7) = 13 ∧ tg S (m + 8) = 13 ∧ tg S (m + 9) = 13 ∧ tg S (m + 10) = 13 ∧ tg S (m + 11) = 13 ∧ tg S (m + 12) = 14 ∧ tg S (m + 13) = 13 ∧ tg S (m + 14) = 13 ∧ tg S (m + 15) = 14 ∧ tg S (m + 16) = 13 ∧ tg S (m + 17) = 15 ∧ tg S (m + 18) = 14 ∧ tg S (m + 19) = 13 ∧ tg S (m + 20) = 13 ∧ tg S (m + 21) = 13 ∧ tg S (m + 22) = 13 ∧ tg S (m + 23) = 13 ∧ tg S (m + 24) = 13 ∧ tg S (m + 25) = 13 ∧ tg S (m + 26) = 14 ∧ tg S (m + 27) = 13 ∧ tg S (m + 28) = 13 ∧ tg S (m + 29) = 13 ∧ tg S (m + 30) = 14 ∧ tg S (m + 31) = 13 ∧ ln S (m + 1) = 2000 ∧ ln S (m + 2) = 2000 ∧ ln S (m + 3) = 2000 ∧ ln S (m + 4) = 2000 ∧ ln S (m + 5) = 2000 ∧ ln S (m + 6) = 2000 ∧ ln S (m + 7) = 2000 ∧ ln S (m + 8) = 2000 ∧ ln S (m + 9) = 2000 ∧ ln S (m + 10) = 2000 ∧ ln S (m + 11) = 2000 ∧ ln S (m + 12) = 8 ∧ ln S (m + 13) = 8 ∧ ln S (m + 14) = 8001 ∧ ln S (m + 15) = 8001 ∧ ln S (m + 16) = 64 ∧ ln S (m + 17) = 64 ∧ ln S (m + 18) = 4096 ∧ ln S (m + 19) = 64 ∧ ln S (m + 20) = 201 ∧ ln S (m + 21) = 201 ∧ ln S (m + 22) = 201 ∧ ln S (m + 23) = 201 ∧ ln S (m + 24) = 201 ∧ ln S (m + 25) = 201 ∧ ln S (m + 26) = 201 ∧ ln S (m + 27) = 201 ∧ ln S (m + 28) = 1002 ∧ ln S (m + 29) = 1002 ∧ ln S (m + 30) = 500 ∧ ln S (m + 31) = 1002 ∧ fR S 704 m = some (m + 1) ∧ fR S 705 m = some (m + 2) ∧ fR S 706 m = some (m + 3) ∧ fR S 707 m = some (m + 4) ∧ fR S 709 m = some (m + 5) ∧ fR S 710 m = some (m + 6) ∧ fR S 711 m = some (m + 7) ∧ fR S 712 m = some (m + 8) ∧ fR S 713 m = some (m + 9) ∧ fR S 714 m = some (m + 10) ∧ fR S 715 m = some (m + 11) ∧ fR S 717 m = some (m + 12) ∧ fR S 718 m = some (m + 13) ∧ fR S 719 m = some (m + 14) ∧ fR S 720 m = some (m + 15) ∧ fR S 722 m = some (m + 16) ∧ fR S 723 m = some (m + 17) ∧ fR S 724 m = some (m + 18) ∧ fR S 728 m = some (m + 19) ∧ fR S 729 m = some (m + 20) ∧ fR S 730 m = some (m + 21) ∧ fR S 731 m = some (m + 22) ∧ fR S 732 m = some (m + 23) ∧ fR S 733 m = some (m + 24) ∧ fR S 734 m = some (m + 25) ∧ fR S 735 m = some (m + 26) ∧ fR S 736 m = some (m + 27) ∧ fR S 743 m = some (m + 28) ∧ fR S 744 m = some (m + 29) ∧ fR S 753 m = some (m + 30) ∧ fR S 755 m = some (m + 31)
theorem MX_t0 {m : Nat} {S : Sg} (h : MX m S) : tg S m = 12 := h.1
theorem MX_t1 {m : Nat} {S : Sg} (h : MX m S) : tg S (m + 1) = 13 := h.2.1
theorem MX_t2 {m : Nat} {S : Sg} (h : MX m S) : tg S (m + 2) = 13 := h.2.2.1
theorem MX_t3 {m : Nat} {S : Sg} (h : MX m S) : tg S (m + 3) = 13 := h.2.2.2.1
theorem MX_t4 {m : Nat} {S : Sg} (h : MX m S) : tg S (m + 4) = 13 := h.2.2.2.2.1
theorem MX_t5 {m : Nat} {S : Sg} (h : MX m S) : tg S (m + 5) = 13 := h.2.2.2.2.2.1
theorem MX_t6 {m : Nat} {S : Sg} (h : MX m S) : tg S (m + 6) = 13 := h.2.2.2.2.2.2.1
theorem MX_t7 {m : Nat} {S : Sg} (h : MX m S) : tg S (m + 7) = 13 := h.2.2.2.2.2.2.2.1
theorem MX_t8 {m : Nat} {S : Sg} (h : MX m S) : tg S (m + 8) = 13 := h.2.2.2.2.2.2.2.2.1
theorem MX_t9 {m : Nat} {S : Sg} (h : MX m S) : tg S (m + 9) = 13 := h.2.2.2.2.2.2.2.2.2.1
theorem MX_t10 {m : Nat} {S : Sg} (h : MX m S) : tg S (m + 10) = 13 := h.2.2.2.2.2.2.2.2.2.2.1
theorem MX_t11 {m : Nat} {S : Sg} (h : MX m S) : tg S (m + 11) = 13 := h.2.2.2.2.2.2.2.2.2.2.2.1
theorem MX_t12 {m : Nat} {S : Sg} (h : MX m S) : tg S (m + 12) = 14 := h.2.2.2.2.2.2.2.2.2.2.2.2.1
theorem MX_t13 {m : Nat} {S : Sg} (h : MX m S) : tg S (m + 13) = 13 := h.2.2.2.2.2.2.2.2.2.2.2.2.2.1
theorem MX_t14 {m : Nat} {S : Sg} (h : MX m S) : tg S (m + 14) = 13 := h.2.2.2.2.2.2.2.2.2.2.2.2.2.2.1
theorem MX_t15 {m : Nat} {S : Sg} (h : MX m S) : tg S (m + 15) = 14 := h.2.2.2.2.2.2.2.2.2.2.2.2.2.2.2.1
theorem MX_t16 {m : Nat} {S : Sg} (h : MX m S) : tg S (m + 16) = 13 := h.2.2.2.2.2.2.2.2.2.2.2.2.2.2.2.2.1
theorem MX_t17 {m : Nat} {S : Sg} (h : MX m S) : tg S (m + 17) = 15 := h.2.2.2.2.2.2.2.2.2.2.2.2.2.2.2.2.2.1
theorem MX_t18 {m : Nat} {S : Sg} (h : MX m S) : tg S (m + 18) = 14 := h.2.2.2.2.2.2.2.2.2.2.2.2.2.2.2.2.2.2.1
theorem MX_t19 {m : Nat} {S : Sg} (h : MX m S) : tg S (m + 19) = 13 := h.2.2.2.2.2.2.2.2.2.2.2.2.2.2.2.2.2.2.2.1
theorem MX_t20 {m : Nat} {S : Sg} (h : MX m S) : tg S (m + 20) = 13 := h.2.2.2.2.2.2.2.2.2.2.2.2.2.2.2.2.2.2.2.2.1
theorem MX_t21 {m : Nat} {S : Sg} (h : MX m S) : tg S (m + 21) = 13 := h.2.2.2.2.2.2.2.2.2.2.2.2.2.2.2.2.2.2.2.2.2.1
theorem MX_t22 {m : Nat} {S : Sg} (h : MX m S) : tg S (m + 22) = 13 := h.2.2.2.2.2.2.2.2.2.2.2.2.2.2.2.2.2.2.2.2.2.2.1
theorem MX_t23 {m : Nat} {S : Sg} (h : MX m S) : tg S (m + 23) = 13 := h.2.2.2.2.2.2.2.2.2.2.2.2.2.2.2.2.2.2.2.2.2.2.2.1
theorem MX_t24 {m : Nat} {S : Sg} (h : MX m S) : tg S (m + 24) = 13 := h.2.2.2.2.2.2.2.2.2.2.2.2.2.2.2.2.2.2.2.2.2.2.2.2.1
theorem MX_t25 {m : Nat} {S : Sg} (h : MX m S) : tg S (m + 25) = 13 := h.2.2.2.2.2.2.2.2.2.2.2.2.2.2.2.2.2.2.2.2.2.2.2.2.2.1
theorem MX_t26 {m : Nat} {S : Sg} (h : MX m S) : tg S (m + 26) = 14 := h.2.2.2.2.2.2.2.2.2.2.2.2.2.2.2.2.2.2.2.2.2.2.2.2.2.2.1
theorem MX_t27 {m : Nat} {S : Sg} (h : MX m S) : tg S (m + 27) = 13 := h.2.2.2.2.2.2.2.2.2.2.2.2.2.2.2.2.2.2.2.2.2.2.2.2.2.2.2.1
theorem MX_t28 {m : Nat} {S : Sg} (h : MX m S) : tg S (m + 28) = 13 := h.2.2.2.2.2.2.2.2.2.2.2.2.2.2.2.2.2.2.2.2.2.2.2.2.2.2.2.2.1
theorem MX_t29 {m : Nat} {S : Sg} (h : MX m S) : tg S (m + 29) = 13 := h.2.2.2.2.2.2.2.2.2.2.2.2.2.2.2.2.2.2.2.2.2.2.2.2.2.2.2.2.2.1
theorem MX_t30 {m : Nat} {S : Sg} (h : MX m S) : tg S (m + 30) = 14 := h.2.2.2.2.2.2.2.2.2.2.2.2.2.2.2.2.2.2.2.2.2.2.2.2.2.2.2.2.2.2.1
theorem MX_t31 {m : Nat} {S : Sg} (h : MX m S) : tg S (m + 31) = 13 := h.2.2.2.2.2.2.2.2.2.2.2.2.2.2.2.2.2.2.2.2.2.2.2.2.2.2.2.2.2.2.2.1
theorem MX_l1 {m : Nat} {S : Sg} (h : MX m S) : ln S (m + 1) = 2000 := h.2.2.2.2.2.2.2.2.2.2.2.2.2.2.2.2.2.2.2.2.2.2.2.2.2.2.2.2.2.2.2.2.1
theorem MX_l2 {m : Nat} {S : Sg} (h : MX m S) : ln S (m + 2) = 2000 := h.2.2.2.2.2.2.2.2.2.2.2.2.2.2.2.2.2.2.2.2.2.2.2.2.2.2.2.2.2.2.2.2.2.1
theorem MX_l3 {m : Nat} {S : Sg} (h : MX m S) : ln S (m + 3) = 2000 := h.2.2.2.2.2.2.2.2.2.2.2.2.2.2.2.2.2.2.2.2.2.2.2.2.2.2.2.2.2.2.2.2.2.2.1
theorem MX_l4 {m : Nat} {S : Sg} (h : MX m S) : ln S (m + 4) = 2000 := h.2.2.2.2.2.2.2.2.2.2.2.2.2.2.2.2.2.2.2.2.2.2.2.2.2.2.2.2.2.2.2.2.2.2.2.1
theorem MX_l5 {m : Nat} {S : Sg} (h : MX m S) : ln S (m + 5) = 2000 := h.2.2.2.2.2.2.2.2.2.2.2.2.2.2.2.2.2.2.2.2.2.2.2.2.2.2.2.2.2.2.2.2.2.2.2.2.1
theorem MX_l6 {m : Nat} {S : Sg} (h : MX m S) : ln S (m + 6) = 2000 := h.2.2.2.2.2.2.2.2.2.2.2.2.2.2.2.2.2.2.2.2.2.2.2.2.2.2.2.2.2.2.2.2.2.2.2.2.2.1
theorem MX_l7 {m : Nat} {S : Sg} (h : MX m S) : ln S (m + 7) = 2000 := h.2.2.2.2.2.2.2.2.2.2.2.2.2.2.2.2.2.2.2.2.2.2.2.2.2.2.2.2.2.2.2.2.2.2.2.2.2.2.1
theorem MX_l8 {m : Nat} {S : Sg} (h : MX m S) : ln S (m + 8) = 2000 := h.2.2.2.2.2.2.2.2.2.2.2.2.2.2.2.2.2.2.2.2.2.2.2.2.2.2.2.2.2.2.2.2.2.2.2.2.2.2.2.1
theorem MX_l9 {m : Nat} {S : Sg} (h : MX m S) : ln S (m + 9) = 2000 := h.2.2.2.2.2.2.2.2.2.2.2.2.2.2.2.2.2.2.2.2.2.2.2.2.2.2.2.2.2.2.2.2.2.2.2.2.2.2.2.2.1
theorem MX_l10 {m : Nat} {S : Sg} (h : MX m S) : ln S (m + 10) = 2000 := h.2.2.2.2.2.2.2.2.2.2.2.2.2.2.2.2.2.2.2.2.2.2.2.2.2.2.2.2.2.2.2.2.2.2.2.2.2.2.2.2.2.1
theorem MX_l11 {m : Nat} {S : Sg} (h : MX m S) : ln S (m + 11) = 2000 := h.2.2.2.2.2.2.2.2.2.2.2.2.2.2.2.2.2.2.2.2.2.2.2.2.2.2.2.2.2.2.2.2.2.2.2.2.2.2.2.2.2.2.1
theorem MX_l12 {m : Nat} {S : Sg} (h : MX m S) : ln S (m + 12) = 8 := h.2.2.2.2.2.2.2.2.2.2.2.2.2.2.2.2.2.2.2.2.2.2.2.2.2.2.2.2.2.2.2.2.2.2.2.2.2.2.2.2.2.2.2.1
theorem MX_l13 {m : Nat} {S : Sg} (h : MX m S) : ln S (m + 13) = 8 := h.2.2.2.2.2.2.2.2.2.2.2.2.2.2.2.2.2.2.2.2.2.2.2.2.2.2.2.2.2.2.2.2.2.2.2.2.2.2.2.2.2.2.2.2.1
theorem MX_l14 {m : Nat} {S : Sg} (h : MX m S) : ln S (m + 14) = 8001 := h.2.2.2.2.2.2.2.2.2.2.2.2.2.2.2.2.2.2.2.2.2.2.2.2.2.2.2.2.2.2.2.2.2.2.2.2.2.2.2.2.2.2.2.2.2.1
theorem MX_l15 {m : Nat} {S : Sg} (h : MX m S) : ln S (m + 15) = 8001 := h.2.2.2.2.2.2.2.2.2.2.2.2.2.2.2.2.2.2.2.2.2.2.2.2.2.2.2.2.2.2.2.2.2.2.2.2.2.2.2.2.2.2.2.2.2.2.1
theorem MX_l16 {m : Nat} {S : Sg} (h : MX m S) : ln S (m + 16) = 64 := h.2.2.2.2.2.2.2.2.2.2.2.2.2.2.2.2.2.2.2.2.2.2.2.2.2.2.2.2.2.2.2.2.2.2.2.2.2.2.2.2.2.2.2.2.2.2.2.1
theorem MX_l17 {m : Nat} {S : Sg} (h : MX m S) : ln S (m + 17) = 64 := h.2.2.2.2.2.2.2.2.2.2.2.2.2.2.2.2.2.2.2.2.2.2.2.2.2.2.2.2.2.2.2.2.2.2.2.2.2.2.2.2.2.2.2.2.2.2.2.2.1
theorem MX_l18 {m : Nat} {S : Sg} (h : MX m S) : ln S (m + 18) = 4096 := h.2.2.2.2.2.2.2.2.2.2.2.2.2.2.2.2.2.2.2.2.2.2.2.2.2.2.2.2.2.2.2.2.2.2.2.2.2.2.2.2.2.2.2.2.2.2.2.2.2.1
theorem MX_l19 {m : Nat} {S : Sg} (h : MX m S) : ln S (m + 19) = 64 := h.2.2.2.2.2.2.2.2.2.2.2.2.2.2.2.2.2.2.2.2.2.2.2.2.2.2.2.2.2.2.2.2.2.2.2.2.2.2.2.2.2.2.2.2.2.2.2.2.2.2.1
theorem MX_l20 {m : Nat} {S : Sg} (h : MX m S) : ln S (m + 20) = 201 := h.2.2.2.2.2.2.2.2.2.2.2.2.2.2.2.2.2.2.2.2.2.2.2.2.2.2.2.2.2.2.2.2.2.2.2.2.2.2.2.2.2.2.2.2.2.2.2.2.2.2.2.1
theorem MX_l21 {m : Nat} {S : Sg} (h : MX m S) : ln S (m + 21) = 201 := h.2.2.2.2.2.2.2.2.2.2.2.2.2.2.2.2.2.2.2.2.2.2.2.2.2.2.2.2.2.2.2.2.2.2.2.2.2.2.2.2.2.2.2.2.2.2.2.2.2.2.2.2.1
theorem MX_l22 {m : Nat} {S : Sg} (h : MX m S) : ln S (m + 22) = 201 := h.2.2.2.2.2.2.2.2.2.2.2.2.2.2.2.2.2.2.2.2.2.2.2.2.2.2.2.2.2.2.2.2.2.2.2.2.2.2.2.2.2.2.2.2.2.2.2.2.2.2.2.2.2.1
theorem MX_l23 {m : Nat} {S : Sg} (h : MX m S) : ln S (m + 23) = 201 := h.2.2.2.2.2.2.2.2.2.2.2.2.2.2.2.2.2.2.2.2.2.2.2.2.2.2.2.2.2.2.2.2.2.2.2.2.2.2.2.2.2.2.2.2.2.2.2.2.2.2.2.2.2.2.1
theorem MX_l24 {m : Nat} {S : Sg} (h : MX m S) : ln S (m + 24) = 201 := h.2.2.2.2.2.2.2.2.2.2.2.2.2.2.2.2.2.2.2.2.2.2.2.2.2.2.2.2.2.2.2.2.2.2.2.2.2.2.2.2.2.2.2.2.2.2.2.2.2.2.2.2.2.2.2.1
theorem MX_l25 {m : Nat} {S : Sg} (h : MX m S) : ln S (m + 25) = 201 := h.2.2.2.2.2.2.2.2.2.2.2.2.2.2.2.2.2.2.2.2.2.2.2.2.2.2.2.2.2.2.2.2.2.2.2.2.2.2.2.2.2.2.2.2.2.2.2.2.2.2.2.2.2.2.2.2.1
theorem MX_l26 {m : Nat} {S : Sg} (h : MX m S) : ln S (m + 26) = 201 := h.2.2.2.2.2.2.2.2.2.2.2.2.2.2.2.2.2.2.2.2.2.2.2.2.2.2.2.2.2.2.2.2.2.2.2.2.2.2.2.2.2.2.2.2.2.2.2.2.2.2.2.2.2.2.2.2.2.1
theorem MX_l27 {m : Nat} {S : Sg} (h : MX m S) : ln S (m + 27) = 201 := h.2.2.2.2.2.2.2.2.2.2.2.2.2.2.2.2.2.2.2.2.2.2.2.2.2.2.2.2.2.2.2.2.2.2.2.2.2.2.2.2.2.2.2.2.2.2.2.2.2.2.2.2.2.2.2.2.2.2.1
theorem MX_l28 {m : Nat} {S : Sg} (h : MX m S) : ln S (m + 28) = 1002 := h.2.2.2.2.2.2.2.2.2.2.2.2.2.2.2.2.2.2.2.2.2.2.2.2.2.2.2.2.2.2.2.2.2.2.2.2.2.2.2.2.2.2.2.2.2.2.2.2.2.2.2.2.2.2.2.2.2.2.2.1
theorem MX_l29 {m : Nat} {S : Sg} (h : MX m S) : ln S (m + 29) = 1002 := h.2.2.2.2.2.2.2.2.2.2.2.2.2.2.2.2.2.2.2.2.2.2.2.2.2.2.2.2.2.2.2.2.2.2.2.2.2.2.2.2.2.2.2.2.2.2.2.2.2.2.2.2.2.2.2.2.2.2.2.2.1
theorem MX_l30 {m : Nat} {S : Sg} (h : MX m S) : ln S (m + 30) = 500 := h.2.2.2.2.2.2.2.2.2.2.2.2.2.2.2.2.2.2.2.2.2.2.2.2.2.2.2.2.2.2.2.2.2.2.2.2.2.2.2.2.2.2.2.2.2.2.2.2.2.2.2.2.2.2.2.2.2.2.2.2.2.1
theorem MX_l31 {m : Nat} {S : Sg} (h : MX m S) : ln S (m + 31) = 1002 := h.2.2.2.2.2.2.2.2.2.2.2.2.2.2.2.2.2.2.2.2.2.2.2.2.2.2.2.2.2.2.2.2.2.2.2.2.2.2.2.2.2.2.2.2.2.2.2.2.2.2.2.2.2.2.2.2.2.2.2.2.2.2.1
theorem MX_r704 {m : Nat} {S : Sg} (h : MX m S) : fR S 704 m = some (m + 1) := h.2.2.2.2.2.2.2.2.2.2.2.2.2.2.2.2.2.2.2.2.2.2.2.2.2.2.2.2.2.2.2.2.2.2.2.2.2.2.2.2.2.2.2.2.2.2.2.2.2.2.2.2.2.2.2.2.2.2.2.2.2.2.2.1
theorem MX_r705 {m : Nat} {S : Sg} (h : MX m S) : fR S 705 m = some (m + 2) := h.2.2.2.2.2.2.2.2.2.2.2.2.2.2.2.2.2.2.2.2.2.2.2.2.2.2.2.2.2.2.2.2.2.2.2.2.2.2.2.2.2.2.2.2.2.2.2.2.2.2.2.2.2.2.2.2.2.2.2.2.2.2.2.2.1
theorem MX_r706 {m : Nat} {S : Sg} (h : MX m S) : fR S 706 m = some (m + 3) := h.2.2.2.2.2.2.2.2.2.2.2.2.2.2.2.2.2.2.2.2.2.2.2.2.2.2.2.2.2.2.2.2.2.2.2.2.2.2.2.2.2.2.2.2.2.2.2.2.2.2.2.2.2.2.2.2.2.2.2.2.2.2.2.2.2.1
theorem MX_r707 {m : Nat} {S : Sg} (h : MX m S) : fR S 707 m = some (m + 4) := h.2.2.2.2.2.2.2.2.2.2.2.2.2.2.2.2.2.2.2.2.2.2.2.2.2.2.2.2.2.2.2.2.2.2.2.2.2.2.2.2.2.2.2.2.2.2.2.2.2.2.2.2.2.2.2.2.2.2.2.2.2.2.2.2.2.2.1
theorem MX_r709 {m : Nat} {S : Sg} (h : MX m S) : fR S 709 m = some (m + 5) := h.2.2.2.2.2.2.2.2.2.2.2.2.2.2.2.2.2.2.2.2.2.2.2.2.2.2.2.2.2.2.2.2.2.2.2.2.2.2.2.2.2.2.2.2.2.2.2.2.2.2.2.2.2.2.2.2.2.2.2.2.2.2.2.2.2.2.2.1
theorem MX_r710 {m : Nat} {S : Sg} (h : MX m S) : fR S 710 m = some (m + 6) := h.2.2.2.2.2.2.2.2.2.2.2.2.2.2.2.2.2.2.2.2.2.2.2.2.2.2.2.2.2.2.2.2.2.2.2.2.2.2.2.2.2.2.2.2.2.2.2.2.2.2.2.2.2.2.2.2.2.2.2.2.2.2.2.2.2.2.2.2.1
theorem MX_r711 {m : Nat} {S : Sg} (h : MX m S) : fR S 711 m = some (m + 7) := h.2.2.2.2.2.2.2.2.2.2.2.2.2.2.2.2.2.2.2.2.2.2.2.2.2.2.2.2.2.2.2.2.2.2.2.2.2.2.2.2.2.2.2.2.2.2.2.2.2.2.2.2.2.2.2.2.2.2.2.2.2.2.2.2.2.2.2.2.2.1
theorem MX_r712 {m : Nat} {S : Sg} (h : MX m S) : fR S 712 m = some (m + 8) := h.2.2.2.2.2.2.2.2.2.2.2.2.2.2.2.2.2.2.2.2.2.2.2.2.2.2.2.2.2.2.2.2.2.2.2.2.2.2.2.2.2.2.2.2.2.2.2.2.2.2.2.2.2.2.2.2.2.2.2.2.2.2.2.2.2.2.2.2.2.2.1
theorem MX_r713 {m : Nat} {S : Sg} (h : MX m S) : fR S 713 m = some (m + 9) := h.2.2.2.2.2.2.2.2.2.2.2.2.2.2.2.2.2.2.2.2.2.2.2.2.2.2.2.2.2.2.2.2.2.2.2.2.2.2.2.2.2.2.2.2.2.2.2.2.2.2.2.2.2.2.2.2.2.2.2.2.2.2.2.2.2.2.2.2.2.2.2.1
theorem MX_r714 {m : Nat} {S : Sg} (h : MX m S) : fR S 714 m = some (m + 10) := h.2.2.2.2.2.2.2.2.2.2.2.2.2.2.2.2.2.2.2.2.2.2.2.2.2.2.2.2.2.2.2.2.2.2.2.2.2.2.2.2.2.2.2.2.2.2.2.2.2.2.2.2.2.2.2.2.2.2.2.2.2.2.2.2.2.2.2.2.2.2.2.2.1
theorem MX_r715 {m : Nat} {S : Sg} (h : MX m S) : fR S 715 m = some (m + 11) := h.2.2.2.2.2.2.2.2.2.2.2.2.2.2.2.2.2.2.2.2.2.2.2.2.2.2.2.2.2.2.2.2.2.2.2.2.2.2.2.2.2.2.2.2.2.2.2.2.2.2.2.2.2.2.2.2.2.2.2.2.2.2.2.2.2.2.2.2.2.2.2.2.2.1
theorem MX_r717 {m : Nat} {S : Sg} (h : MX m S) : fR S 717 m = some (m + 12) := h.2.2.2.2.2.2.2.2.2.2.2.2.2.2.2.2.2.2.2.2.2.2.2.2.2.2.2.2.2.2.2.2.2.2.2.2.2.2.2.2.2.2.2.2.2.2.2.2.2.2.2.2.2.2.2.2.2.2.2.2.2.2.2.2.2.2.2.2.2.2.2.2.2.2.1
theorem MX_r718 {m : Nat} {S : Sg} (h : MX m S) : fR S 718 m = some (m + 13) := h.2.2.2.2.2.2.2.2.2.2.2.2.2.2.2.2.2.2.2.2.2.2.2.2.2.2.2.2.2.2.2.2.2.2.2.2.2.2.2.2.2.2.2.2.2.2.2.2.2.2.2.2.2.2.2.2.2.2.2.2.2.2.2.2.2.2.2.2.2.2.2.2.2.2.2.1
theorem MX_r719 {m : Nat} {S : Sg} (h : MX m S) : fR S 719 m = some (m + 14) := h.2.2.2.2.2.2.2.2.2.2.2.2.2.2.2.2.2.2.2.2.2.2.2.2.2.2.2.2.2.2.2.2.2.2.2.2.2.2.2.2.2.2.2.2.2.2.2.2.2.2.2.2.2.2.2.2.2.2.2.2.2.2.2.2.2.2.2.2.2.2.2.2.2.2.2.2.1
theorem MX_r720 {m : Nat} {S : Sg} (h : MX m S) : fR S 720 m = some (m + 15) := h.2.2.2.2.2.2.2.2.2.2.2.2.2.2.2.2.2.2.2.2.2.2.2.2.2.2.2.2.2.2.2.2.2.2.2.2.2.2.2.2.2.2.2.2.2.2.2.2.2.2.2.2.2.2.2.2.2.2.2.2.2.2.2.2.2.2.2.2.2.2.2.2.2.2.2.2.2.1
theorem MX_r722 {m : Nat} {S : Sg} (h : MX m S) : fR S 722 m = some (m + 16) := h.2.2.2.2.2.2.2.2.2.2.2.2.2.2.2.2.2.2.2.2.2.2.2.2.2.2.2.2.2.2.2.2.2.2.2.2.2.2.2.2.2.2.2.2.2.2.2.2.2.2.2.2.2.2.2.2.2.2.2.2.2.2.2.2.2.2.2.2.2.2.2.2.2.2.2.2.2.2.1
theorem MX_r723 {m : Nat} {S : Sg} (h : MX m S) : fR S 723 m = some (m + 17) := h.2.2.2.2.2.2.2.2.2.2.2.2.2.2.2.2.2.2.2.2.2.2.2.2.2.2.2.2.2.2.2.2.2.2.2.2.2.2.2.2.2.2.2.2.2.2.2.2.2.2.2.2.2.2.2.2.2.2.2.2.2.2.2.2.2.2.2.2.2.2.2.2.2.2.2.2.2.2.2.1
theorem MX_r724 {m : Nat} {S : Sg} (h : MX m S) : fR S 724 m = some (m + 18) := h.2.2.2.2.2.2.2.2.2.2.2.2.2.2.2.2.2.2.2.2.2.2.2.2.2.2.2.2.2.2.2.2.2.2.2.2.2.2.2.2.2.2.2.2.2.2.2.2.2.2.2.2.2.2.2.2.2.2.2.2.2.2.2.2.2.2.2.2.2.2.2.2.2.2.2.2.2.2.2.2.1
theorem MX_r728 {m : Nat} {S : Sg} (h : MX m S) : fR S 728 m = some (m + 19) := h.2.2.2.2.2.2.2.2.2.2.2.2.2.2.2.2.2.2.2.2.2.2.2.2.2.2.2.2.2.2.2.2.2.2.2.2.2.2.2.2.2.2.2.2.2.2.2.2.2.2.2.2.2.2.2.2.2.2.2.2.2.2.2.2.2.2.2.2.2.2.2.2.2.2.2.2.2.2.2.2.2.1
theorem MX_r729 {m : Nat} {S : Sg} (h : MX m S) : fR S 729 m = some (m + 20) := h.2.2.2.2.2.2.2.2.2.2.2.2.2.2.2.2.2.2.2.2.2.2.2.2.2.2.2.2.2.2.2.2.2.2.2.2.2.2.2.2.2.2.2.2.2.2.2.2.2.2.2.2.2.2.2.2.2.2.2.2.2.2.2.2.2.2.2.2.2.2.2.2.2.2.2.2.2.2.2.2.2.2.1
theorem MX_r730 {m : Nat} {S : Sg} (h : MX m S) : fR S 730 m = some (m + 21) := h.2.2.2.2.2.2.2.2.2.2.2.2.2.2.2.2.2.2.2.2.2.2.2.2.2.2.2.2.2.2.2.2.2.2.2.2.2.2.2.2.2.2.2.2.2.2.2.2.2.2.2.2.2.2.2.2.2.2.2.2.2.2.2.2.2.2.2.2.2.2.2.2.2.2.2.2.2.2.2.2.2.2.2.1
theorem MX_r731 {m : Nat} {S : Sg} (h : MX m S) : fR S 731 m = some (m + 22) := h.2.2.2.2.2.2.2.2.2.2.2.2.2.2.2.2.2.2.2.2.2.2.2.2.2.2.2.2.2.2.2.2.2.2.2.2.2.2.2.2.2.2.2.2.2.2.2.2.2.2.2.2.2.2.2.2.2.2.2.2.2.2.2.2.2.2.2.2.2.2.2.2.2.2.2.2.2.2.2.2.2.2.2.2.1
theorem MX_r732 {m : Nat} {S : Sg} (h : MX m S) : fR S 732 m = some (m + 23) := h.2.2.2.2.2.2.2.2.2.2.2.2.2.2.2.2.2.2.2.2.2.2.2.2.2.2.2.2.2.2.2.2.2.2.2.2.2.2.2.2.2.2.2.2.2.2.2.2.2.2.2.2.2.2.2.2.2.2.2.2.2.2.2.2.2.2.2.2.2.2.2.2.2.2.2.2.2.2.2.2.2.2.2.2.2.1
theorem MX_r733 {m : Nat} {S : Sg} (h : MX m S) : fR S 733 m = some (m + 24) := h.2.2.2.2.2.2.2.2.2.2.2.2.2.2.2.2.2.2.2.2.2.2.2.2.2.2.2.2.2.2.2.2.2.2.2.2.2.2.2.2.2.2.2.2.2.2.2.2.2.2.2.2.2.2.2.2.2.2.2.2.2.2.2.2.2.2.2.2.2.2.2.2.2.2.2.2.2.2.2.2.2.2.2.2.2.2.1
theorem MX_r734 {m : Nat} {S : Sg} (h : MX m S) : fR S 734 m = some (m + 25) := h.2.2.2.2.2.2.2.2.2.2.2.2.2.2.2.2.2.2.2.2.2.2.2.2.2.2.2.2.2.2.2.2.2.2.2.2.2.2.2.2.2.2.2.2.2.2.2.2.2.2.2.2.2.2.2.2.2.2.2.2.2.2.2.2.2.2.2.2.2.2.2.2.2.2.2.2.2.2.2.2.2.2.2.2.2.2.2.1
theorem MX_r735 {m : Nat} {S : Sg} (h : MX m S) : fR S 735 m = some (m + 26) := h.2.2.2.2.2.2.2.2.2.2.2.2.2.2.2.2.2.2.2.2.2.2.2.2.2.2.2.2.2.2.2.2.2.2.2.2.2.2.2.2.2.2.2.2.2.2.2.2.2.2.2.2.2.2.2.2.2.2.2.2.2.2.2.2.2.2.2.2.2.2.2.2.2.2.2.2.2.2.2.2.2.2.2.2.2.2.2.2.1
theorem MX_r736 {m : Nat} {S : Sg} (h : MX m S) : fR S 736 m = some (m + 27) := h.2.2.2.2.2.2.2.2.2.2.2.2.2.2.2.2.2.2.2.2.2.2.2.2.2.2.2.2.2.2.2.2.2.2.2.2.2.2.2.2.2.2.2.2.2.2.2.2.2.2.2.2.2.2.2.2.2.2.2.2.2.2.2.2.2.2.2.2.2.2.2.2.2.2.2.2.2.2.2.2.2.2.2.2.2.2.2.2.2.1
theorem MX_r743 {m : Nat} {S : Sg} (h : MX m S) : fR S 743 m = some (m + 28) := h.2.2.2.2.2.2.2.2.2.2.2.2.2.2.2.2.2.2.2.2.2.2.2.2.2.2.2.2.2.2.2.2.2.2.2.2.2.2.2.2.2.2.2.2.2.2.2.2.2.2.2.2.2.2.2.2.2.2.2.2.2.2.2.2.2.2.2.2.2.2.2.2.2.2.2.2.2.2.2.2.2.2.2.2.2.2.2.2.2.2.1
theorem MX_r744 {m : Nat} {S : Sg} (h : MX m S) : fR S 744 m = some (m + 29) := h.2.2.2.2.2.2.2.2.2.2.2.2.2.2.2.2.2.2.2.2.2.2.2.2.2.2.2.2.2.2.2.2.2.2.2.2.2.2.2.2.2.2.2.2.2.2.2.2.2.2.2.2.2.2.2.2.2.2.2.2.2.2.2.2.2.2.2.2.2.2.2.2.2.2.2.2.2.2.2.2.2.2.2.2.2.2.2.2.2.2.2.1
theorem MX_r753 {m : Nat} {S : Sg} (h : MX m S) : fR S 753 m = some (m + 30) := h.2.2.2.2.2.2.2.2.2.2.2.2.2.2.2.2.2.2.2.2.2.2.2.2.2.2.2.2.2.2.2.2.2.2.2.2.2.2.2.2.2.2.2.2.2.2.2.2.2.2.2.2.2.2.2.2.2.2.2.2.2.2.2.2.2.2.2.2.2.2.2.2.2.2.2.2.2.2.2.2.2.2.2.2.2.2.2.2.2.2.2.2.1
theorem MX_r755 {m : Nat} {S : Sg} (h : MX m S) : fR S 755 m = some (m + 31) := h.2.2.2.2.2.2.2.2.2.2.2.2.2.2.2.2.2.2.2.2.2.2.2.2.2.2.2.2.2.2.2.2.2.2.2.2.2.2.2.2.2.2.2.2.2.2.2.2.2.2.2.2.2.2.2.2.2.2.2.2.2.2.2.2.2.2.2.2.2.2.2.2.2.2.2.2.2.2.2.2.2.2.2.2.2.2.2.2.2.2.2.2.2
theorem MX_sFI {m : Nat} {S : Sg} (k a : Nat) (v : Int32) : MX m (sFI S k a v) ↔ MX m S := Iff.rfl
theorem MX_sFL {m : Nat} {S : Sg} (k a : Nat) (v : Int64) : MX m (sFL S k a v) ↔ MX m S := Iff.rfl
theorem MX_sAI {m : Nat} {S : Sg} (k a : Nat) (v : Int32) : MX m (sAI S k a v) ↔ MX m S := Iff.rfl
theorem MX_sAL {m : Nat} {S : Sg} (k a : Nat) (v : Int64) : MX m (sAL S k a v) ↔ MX m S := Iff.rfl
theorem MX_sAR {m : Nat} {S : Sg} (k a : Nat) (v : Option Nat) : MX m (sAR S k a v) ↔ MX m S := Iff.rfl
theorem MX_rz {m : Nat} {S : Sg} (n : Nat) : MX m (rz S n) ↔ MX m S := Iff.rfl
theorem MX_sFR {m : Nat} {S : Sg} {k a : Nat} {v : Option Nat} (hk : k ∉ [704, 705, 706, 707, 709, 710, 711, 712, 713, 714, 715, 717, 718, 719, 720, 722, 723, 724, 728, 729, 730, 731, 732, 733, 734, 735, 736, 743, 744, 753, 755]) : MX m (sFR S k a v) ↔ MX m S := by
  simp only [List.mem_cons, List.not_mem_nil, or_false, not_or] at hk
  obtain ⟨h0, h1, h2, h3, h4, h5, h6, h7, h8, h9, h10, h11, h12, h13, h14, h15, h16, h17, h18, h19, h20, h21, h22, h23, h24, h25, h26, h27, h28, h29, h30⟩ := hk
  unfold MX
  simp only [gs_FR, show (704 : Nat) = k ↔ False from ⟨fun e => h0 e.symm, False.elim⟩, show (705 : Nat) = k ↔ False from ⟨fun e => h1 e.symm, False.elim⟩, show (706 : Nat) = k ↔ False from ⟨fun e => h2 e.symm, False.elim⟩, show (707 : Nat) = k ↔ False from ⟨fun e => h3 e.symm, False.elim⟩, show (709 : Nat) = k ↔ False from ⟨fun e => h4 e.symm, False.elim⟩, show (710 : Nat) = k ↔ False from ⟨fun e => h5 e.symm, False.elim⟩, show (711 : Nat) = k ↔ False from ⟨fun e => h6 e.symm, False.elim⟩, show (712 : Nat) = k ↔ False from ⟨fun e => h7 e.symm, False.elim⟩, show (713 : Nat) = k ↔ False from ⟨fun e => h8 e.symm, False.elim⟩, show (714 : Nat) = k ↔ False from ⟨fun e => h9 e.symm, False.elim⟩, show (715 : Nat) = k ↔ False from ⟨fun e => h10 e.symm, False.elim⟩, show (717 : Nat) = k ↔ False from ⟨fun e => h11 e.symm, False.elim⟩, show (718 : Nat) = k ↔ False from ⟨fun e => h12 e.symm, False.elim⟩, show (719 : Nat) = k ↔ False from ⟨fun e => h13 e.symm, False.elim⟩, show (720 : Nat) = k ↔ False from ⟨fun e => h14 e.symm, False.elim⟩, show (722 : Nat) = k ↔ False from ⟨fun e => h15 e.symm, False.elim⟩, show (723 : Nat) = k ↔ False from ⟨fun e => h16 e.symm, False.elim⟩, show (724 : Nat) = k ↔ False from ⟨fun e => h17 e.symm, False.elim⟩, show (728 : Nat) = k ↔ False from ⟨fun e => h18 e.symm, False.elim⟩, show (729 : Nat) = k ↔ False from ⟨fun e => h19 e.symm, False.elim⟩, show (730 : Nat) = k ↔ False from ⟨fun e => h20 e.symm, False.elim⟩, show (731 : Nat) = k ↔ False from ⟨fun e => h21 e.symm, False.elim⟩, show (732 : Nat) = k ↔ False from ⟨fun e => h22 e.symm, False.elim⟩, show (733 : Nat) = k ↔ False from ⟨fun e => h23 e.symm, False.elim⟩, show (734 : Nat) = k ↔ False from ⟨fun e => h24 e.symm, False.elim⟩, show (735 : Nat) = k ↔ False from ⟨fun e => h25 e.symm, False.elim⟩, show (736 : Nat) = k ↔ False from ⟨fun e => h26 e.symm, False.elim⟩, show (743 : Nat) = k ↔ False from ⟨fun e => h27 e.symm, False.elim⟩, show (744 : Nat) = k ↔ False from ⟨fun e => h28 e.symm, False.elim⟩, show (753 : Nat) = k ↔ False from ⟨fun e => h29 e.symm, False.elim⟩, show (755 : Nat) = k ↔ False from ⟨fun e => h30 e.symm, False.elim⟩, false_and, if_false]
theorem MX_nw {m : Nat} {S : Sg} {t n : Nat} (hf : ∀ q, tg S q ≠ 0 → q < sz S) (h : MX m S) : MX m (nw S t n) := by
  have e0 : m ≠ sz S := Nat.ne_of_lt (hf _ (by rw [MX_t0 h]; decide))
  have e1 : (m + 1) ≠ sz S := Nat.ne_of_lt (hf _ (by rw [MX_t1 h]; decide))
  have e2 : (m + 2) ≠ sz S := Nat.ne_of_lt (hf _ (by rw [MX_t2 h]; decide))
  have e3 : (m + 3) ≠ sz S := Nat.ne_of_lt (hf _ (by rw [MX_t3 h]; decide))
  have e4 : (m + 4) ≠ sz S := Nat.ne_of_lt (hf _ (by rw [MX_t4 h]; decide))
  have e5 : (m + 5) ≠ sz S := Nat.ne_of_lt (hf _ (by rw [MX_t5 h]; decide))
  have e6 : (m + 6) ≠ sz S := Nat.ne_of_lt (hf _ (by rw [MX_t6 h]; decide))
  have e7 : (m + 7) ≠ sz S := Nat.ne_of_lt (hf _ (by rw [MX_t7 h]; decide))
  have e8 : (m + 8) ≠ sz S := Nat.ne_of_lt (hf _ (by rw [MX_t8 h]; decide))
  have e9 : (m + 9) ≠ sz S := Nat.ne_of_lt (hf _ (by rw [MX_t9 h]; decide))
  have e10 : (m + 10) ≠ sz S := Nat.ne_of_lt (hf _ (by rw [MX_t10 h]; decide))
  have e11 : (m + 11) ≠ sz S := Nat.ne_of_lt (hf _ (by rw [MX_t11 h]; decide))
  have e12 : (m + 12) ≠ sz S := Nat.ne_of_lt (hf _ (by rw [MX_t12 h]; decide))
  have e13 : (m + 13) ≠ sz S := Nat.ne_of_lt (hf _ (by rw [MX_t13 h]; decide))
  have e14 : (m + 14) ≠ sz S := Nat.ne_of_lt (hf _ (by rw [MX_t14 h]; decide))
  have e15 : (m + 15) ≠ sz S := Nat.ne_of_lt (hf _ (by rw [MX_t15 h]; decide))
  have e16 : (m + 16) ≠ sz S := Nat.ne_of_lt (hf _ (by rw [MX_t16 h]; decide))
  have e17 : (m + 17) ≠ sz S := Nat.ne_of_lt (hf _ (by rw [MX_t17 h]; decide))
  have e18 : (m + 18) ≠ sz S := Nat.ne_of_lt (hf _ (by rw [MX_t18 h]; decide))
  have e19 : (m + 19) ≠ sz S := Nat.ne_of_lt (hf _ (by rw [MX_t19 h]; decide))
  have e20 : (m + 20) ≠ sz S := Nat.ne_of_lt (hf _ (by rw [MX_t20 h]; decide))
  have e21 : (m + 21) ≠ sz S := Nat.ne_of_lt (hf _ (by rw [MX_t21 h]; decide))
  have e22 : (m + 22) ≠ sz S := Nat.ne_of_lt (hf _ (by rw [MX_t22 h]; decide))
  have e23 : (m + 23) ≠ sz S := Nat.ne_of_lt (hf _ (by rw [MX_t23 h]; decide))
  have e24 : (m + 24) ≠ sz S := Nat.ne_of_lt (hf _ (by rw [MX_t24 h]; decide))
  have e25 : (m + 25) ≠ sz S := Nat.ne_of_lt (hf _ (by rw [MX_t25 h]; decide))
  have e26 : (m + 26) ≠ sz S := Nat.ne_of_lt (hf _ (by rw [MX_t26 h]; decide))
  have e27 : (m + 27) ≠ sz S := Nat.ne_of_lt (hf _ (by rw [MX_t27 h]; decide))
  have e28 : (m + 28) ≠ sz S := Nat.ne_of_lt (hf _ (by rw [MX_t28 h]; decide))
  have e29 : (m + 29) ≠ sz S := Nat.ne_of_lt (hf _ (by rw [MX_t29 h]; decide))
  have e30 : (m + 30) ≠ sz S := Nat.ne_of_lt (hf _ (by rw [MX_t30 h]; decide))
  have e31 : (m + 31) ≠ sz S := Nat.ne_of_lt (hf _ (by rw [MX_t31 h]; decide))
  unfold MX
  simp only [gs_nw, e0, e1, e2, e3, e4, e5, e6, e7, e8, e9, e10, e11, e12, e13, e14, e15, e16, e17, e18, e19, e20, e21, e22, e23, e24, e25, e26, e27, e28, e29, e30, e31, if_false]
  exact h
