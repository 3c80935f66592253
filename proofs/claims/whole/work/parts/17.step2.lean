/-- the script with one step more, ahead of what that step does to the blocks -/
def iS (q : Nat) (p o a b c : Int32) (S : Sg) : Sg := sFI (sFI (sFI (sFI (sFI (sFI (sFI (sFI S 454 q (-1)) 455 q (-1)) 456 q (-1)) 448 q p) 449 q o) 450 q a) 451 q b) 452 q c
theorem r_stepInit {q : Nat} {p o a b c : Int32} {S : Sg} {Q : Sg → Prop} (h : Q (iS q p o a b c S)) : wX7_init q p o a b c S Q := nm_e (nm_e (nm_e (nm_e (nm_e (nm_e (nm_e (nm_e h)))))))
theorem SX_iS {x q : Nat} {p o a b c : Int32} {S : Sg} : SX x (iS q p o a b c S) ↔ SX x S := by unfold iS; simp only [SX_sFI]
theorem iS_off {q r : Nat} {p o a b c : Int32} {S : Sg} (h : r ≠ q) (k : Nat) : fI (iS q p o a b c S) k r = fI S k r := by unfold iS; simp only [gs_FI, h, and_false, if_false]
def sA (x n : Nat) (op a b c : Int32) (S : Sg) : Sg := sFI (sAR (iS (sz S) (nI n) op a b c (nw S 8 0)) (x + 2) n (some (sz S))) 387 (x + 1) (nI (n + 1))
theorem Ag_sA {x n : Nat} {op a b c : Int32} {S : Sg} (hf : ∀ q, tg S q ≠ 0 → q < sz S) : Ag x S (sA x n op a b c S) := by
  unfold sA iS
  refine Ag_tr (Ag_nw (t := 8) (n := 0) hf) ?_
  refine Ag_tr (Ag_FI (k := 454) (a := sz S) (v := -1) (by decide) (by decide)) ?_
  refine Ag_tr (Ag_FI (k := 455) (a := sz S) (v := -1) (by decide) (by decide)) ?_
  refine Ag_tr (Ag_FI (k := 456) (a := sz S) (v := -1) (by decide) (by decide)) ?_
  refine Ag_tr (Ag_FI (k := 448) (a := sz S) (v := nI n) (by decide) (by decide)) ?_
  refine Ag_tr (Ag_FI (k := 449) (a := sz S) (v := op) (by decide) (by decide)) ?_
  refine Ag_tr (Ag_FI (k := 450) (a := sz S) (v := a) (by decide) (by decide)) ?_
  refine Ag_tr (Ag_FI (k := 451) (a := sz S) (v := b) (by decide) (by decide)) ?_
  refine Ag_tr (Ag_FI (k := 452) (a := sz S) (v := c) (by decide) (by decide)) ?_
  exact Ag_tr Ag_AR (Ag_FI (by decide) (by decide))
theorem SX_sA {x n : Nat} {op a b c : Int32} {S : Sg} (hf : ∀ q, tg S q ≠ 0 → q < sz S) (h : SX x S) : SX x (sA x n op a b c S) := SX_sFI _ _ _ |>.mpr (SX_sAR _ _ _ |>.mpr (SX_iS.mpr (SX_nw hf h)))
/-- what the new state holds at steps that were there -/
theorem sA_old {x n : Nat} {op a b c : Int32} {S : Sg} {q : Nat} (hq : q ≠ sz S) (hx : q ≠ x + 1) : tg (sA x n op a b c S) q = tg S q ∧ (∀ k, fI (sA x n op a b c S) k q = fI S k q) ∧ ∀ k, fR (sA x n op a b c S) k q = fR S k q := by
  refine ⟨if_neg hq, fun k => ?_, fun k => if_neg hq⟩
  unfold sA iS
  simp only [gs_FI, gs_AR, gs_nw, hq, hx, and_false, if_false]
theorem sA_x1 {x n : Nat} {op a b c : Int32} {S : Sg} (hx : x + 1 ≠ sz S) : fI (sA x n op a b c S) 387 (x + 1) = nI (n + 1) ∧ fI (sA x n op a b c S) 388 (x + 1) = fI S 388 (x + 1) ∧ ∀ k, fR (sA x n op a b c S) k (x + 1) = fR S k (x + 1) := by
  refine ⟨?_, ?_, fun k => if_neg hx⟩
  · unfold sA iS; simp only [gs_FI]; simp
  · unfold sA iS; simp only [gs_FI, gs_AR, gs_nw, hx, if_false]; simp
theorem sA_new {x n : Nat} {op a b c : Int32} {S : Sg} (hx : sz S ≠ x + 1) : tg (sA x n op a b c S) (sz S) = 8 ∧ fI (sA x n op a b c S) 448 (sz S) = nI n ∧ fI (sA x n op a b c S) 449 (sz S) = op ∧ fI (sA x n op a b c S) 450 (sz S) = a ∧ fI (sA x n op a b c S) 451 (sz S) = b ∧ fI (sA x n op a b c S) 452 (sz S) = c ∧ fI (sA x n op a b c S) 454 (sz S) = -1 ∧ fI (sA x n op a b c S) 455 (sz S) = -1 ∧ fI (sA x n op a b c S) 456 (sz S) = -1 := by
  refine ⟨if_pos rfl, ?_⟩
  unfold sA iS
  simp only [gs_FI, gs_AR, gs_nw, hx, and_false, if_false]
  simp
theorem sA_row {x n : Nat} {op a b c : Int32} {S : Sg} (hx : x + 2 ≠ sz S) (i : Nat) : aR (sA x n op a b c S) (x + 2) i = if i = n then some (sz S) else aR S (x + 2) i := by
  unfold sA iS
  simp only [gs_FI, gs_AR, gs_nw, hx, if_false]
  simp
theorem sA_mk {x n : Nat} {op a b c : Int32} {S : Sg} (hx : x + 3 ≠ sz S) (i : Nat) : aI (sA x n op a b c S) (x + 3) i = aI S (x + 3) i := by
  unfold sA iS
  simp only [gs_FI, gs_AR, gs_nw, hx, if_false]
/-- the class's add, down to the block's part -/
theorem r_add {x m n : Nat} {st : Nat → Nat} {S T : Sg} {op a b c : Int32} {Q : Sg → Prop} (hf : ∀ q, tg S q ≠ 0 → q < sz S) (hS : SX x S) (hSc : RSc x m n st S T) (hn : n < 2000)
    (h1 : (op = 25 ∨ op = 29 ∨ op = 30) → Q (sFR (sFR (sA x n op a b c S) 453 (sz S) (fR S 386 (x + 1))) 386 (x + 1) (some (sz S))))
    (h2 : ¬ (op = 25 ∨ op = 29 ∨ op = 30) → ¬ op < 26 → ¬ 31 < op → wX6_fit (x + 1) (some (sz S)) (sA x n op a b c S) Q)
    (h3 : ¬ (op = 25 ∨ op = 29 ∨ op = 30) → (op < 26 ∨ 31 < op) → op = 35 → c &&& 1 = 0 → wX6_beginRoutine (x + 1) (nI n) (sA x n op a b c S) Q)
    (h4 : ¬ (op = 25 ∨ op = 29 ∨ op = 30) → (op < 26 ∨ 31 < op) → ¬ (op = 35 ∧ c &&& 1 = 0) → Q (sA x n op a b c S)) : wX6_add (x + 1) op a b c S Q := by
  have e1 : x + 1 ≠ sz S := Nat.ne_of_lt (hf _ (by rw [SX_t1 hS]; decide))
  have e2 : x + 2 ≠ sz S := Nat.ne_of_lt (hf _ (by rw [SX_t2 hS]; decide))
  have e387 : fI S 387 (x + 1) = nI n := hSc.2.1
  unfold wX6_add
  rw [e387, if_neg (n_neg (by omega)), if_pos (by rw [show (2000 : Int32) = nI 2000 from rfl, n_lt (by omega) (by omega)]; exact hn)]
  refine nm_e ?_
  have e4 : fI (nw S 8 0) 387 (x + 1) = nI n := by rw [← e387]; exact if_neg e1
  rw [e4]
  refine r_stepInit (nm_e ?_)
  have hSX : SX x (iS (sz S) (nI n) op a b c (nw S 8 0)) := SX_iS.mpr (SX_nw hf hS)
  have hB : fI (iS (sz S) (nI n) op a b c (nw S 8 0)) 387 (x + 1) = nI n := (iS_off e1 387).trans e4
  have hsA : sA x n op a b c S = sFI (sAR (iS (sz S) (nI n) op a b c (nw S 8 0)) (x + 2) n (some (sz S))) 387 (x + 1) (nI (n + 1)) := rfl
  generalize iS (sz S) (nI n) op a b c (nw S 8 0) = SB at hSX hB hsA ⊢
  refine ⟨x + 2, SX_r384 hSX, SX_t2 hSX, by rw [hB, SX_l2 hSX]; exact vp_n (by omega) (by omega), ?_⟩
  rw [hB, n_cl (by omega)]
  refine nm_e (nm_e ?_)
  have e5 : fI (sAR SB (x + 2) n (some (sz S))) 387 (x + 1) + 1 = nI (n + 1) := by
    have e6 : fI (sAR SB (x + 2) n (some (sz S))) 387 (x + 1) = nI n := by simp only [gs_AR]; exact hB
    rw [e6, nI_1]
  rw [e5, ← hsA]
  have tq : tg (sA x n op a b c S) (sz S) = 8 := (sA_new (fun z => e1 z.symm)).1
  have k386 : fR (sA x n op a b c S) 386 (x + 1) = fR S 386 (x + 1) := (sA_x1 e1).2.2 386
  have g1 : (op = 25 ∨ op = 29 ∨ op = 30) → wX6_add_b75 (x + 1) (some (sz S)) (sA x n op a b c S) Q := by
    intro ho
    refine ⟨sz S, rfl, tq, nm_e (nm_e ?_)⟩
    rw [k386]
    exact h1 ho
  have g2 : ¬ (op = 25 ∨ op = 29 ∨ op = 30) → (op < 26 ∨ 31 < op) → wX6_add_b114 (x + 1) op c (some (sz S)) (sA x n op a b c S) Q := by
    intro ho hr
    unfold wX6_add_b114
    by_cases c1 : op = 35
    · rw [if_pos c1]
      by_cases c2 : c &&& 1 = 0
      · rw [if_pos c2]
        refine ⟨sz S, rfl, tq, ?_⟩
        rw [(sA_new (fun z => e1 z.symm)).2.1]
        exact h3 ho hr c1 c2
      · rw [if_neg c2]; exact h4 ho hr (fun z => c2 z.2)
    · rw [if_neg c1]; exact h4 ho hr (fun z => c1 z.1)
  by_cases c1 : op = 25
  · rw [if_pos c1]; exact g1 (Or.inl c1)
  · rw [if_neg c1]
    by_cases c2 : op = 29
    · rw [if_pos c2]; exact g1 (Or.inr (Or.inl c2))
    · rw [if_neg c2]
      by_cases c3 : op = 30
      · rw [if_pos c3]; exact g1 (Or.inr (Or.inr c3))
      · rw [if_neg c3]
        have ho : ¬ (op = 25 ∨ op = 29 ∨ op = 30) := by
          rintro (z | z | z)
          · exact c1 z
          · exact c2 z
          · exact c3 z
        by_cases c4 : op < 26
        · rw [if_pos c4]; exact g2 ho (Or.inl c4)
        · rw [if_neg c4]
          by_cases c5 : 31 < op
          · rw [if_pos c5]; exact g2 ho (Or.inr c5)
          · rw [if_neg c5]; exact h2 ho c4 c5
/-- the reference's step -/
def mS (m n : Nat) (op a b c : Int32) (T : Sg) : Sg := sFI (sAI (sAI (sAI (sAI T (m + 1) n op) (m + 2) n a) (m + 3) n b) (m + 4) n c) 708 m (nI (n + 1))
theorem r_mstep {m n : Nat} {T : Sg} {op a b c : Int32} {Q : Int32 → Sg → Prop} (hM : MX m T) (h708 : fI T 708 m = nI n) (hn : n < 2000) (h0 : ¬ op < 0) (h1 : op ≤ 35) (hq : Q (nI (n + 1)) (mS m n op a b c T)) : wX11_step m op a b c T Q := by
  unfold wX11_step
  rw [if_neg h0, if_pos h1, if_neg (by rw [h708, show (2000 : Int32) = nI 2000 from rfl, n_eq (by omega) (by omega)]; omega)]
  refine ⟨m + 1, MX_r704 hM, MX_t1 hM, by rw [h708, MX_l1 hM]; exact vp_n (by omega) (by omega), ?_⟩
  rintro S6 rfl
  refine ⟨m + 2, MX_r705 hM, MX_t2 hM, by show vp_in (fI T 708 m) (ln T (m + 2)); rw [h708, MX_l2 hM]; exact vp_n (by omega) (by omega), ?_⟩
  rintro S9 rfl
  refine ⟨m + 3, MX_r706 hM, MX_t3 hM, by show vp_in (fI T 708 m) (ln T (m + 3)); rw [h708, MX_l3 hM]; exact vp_n (by omega) (by omega), ?_⟩
  rintro S12 rfl
  refine ⟨m + 4, MX_r707 hM, MX_t4 hM, by show vp_in (fI T 708 m) (ln T (m + 4)); rw [h708, MX_l4 hM]; exact vp_n (by omega) (by omega), ?_⟩
  rintro S15 rfl S16 hS16
  have e : S16 = mS m n op a b c T := by
    rw [hS16]
    show sFI (sAI (sAI (sAI (sAI T (m + 1) (fI T 708 m).toNatClampNeg op) (m + 2) (fI T 708 m).toNatClampNeg a) (m + 3) (fI T 708 m).toNatClampNeg b) (m + 4) (fI T 708 m).toNatClampNeg c) 708 m (fI T 708 m + 1) = _
    rw [h708, n_cl (by omega), nI_1]
    rfl
  subst e
  have e2 : fI (mS m n op a b c T) 708 m = nI (n + 1) := by unfold mS; simp only [gs_FI]; simp
  rw [e2]
  exact hq
theorem mS_row {m n : Nat} {op a b c : Int32} {T : Sg} (i : Nat) : aI (mS m n op a b c T) (m + 1) i = (if i = n then op else aI T (m + 1) i) ∧ aI (mS m n op a b c T) (m + 2) i = (if i = n then a else aI T (m + 2) i) ∧ aI (mS m n op a b c T) (m + 3) i = (if i = n then b else aI T (m + 3) i) ∧ aI (mS m n op a b c T) (m + 4) i = (if i = n then c else aI T (m + 4) i) := by
  unfold mS
  simp only [gs_FI, gs_AI]
  simp
theorem mS_off {m n : Nat} {op a b c : Int32} {T : Sg} {k : Nat} (hk : 5 ≤ k) (i : Nat) : aI (mS m n op a b c T) (m + k) i = aI T (m + k) i := by
  unfold mS
  simp only [gs_FI, gs_AI]
  rw [if_neg (by omega), if_neg (by omega), if_neg (by omega), if_neg (by omega)]
/-- the house's part does not look at the script -/
theorem RH_mS {x m N n : Nat} {th : Nat → Nat} {F : Nat} {fa ra rb rc : Nat → Nat} {S T : Sg} {op a b c : Int32} (h : RH x m N th F fa ra rb rc S T) : RH x m N th F fa ra rb rc S (mS m n op a b c T) := by
  have o : ∀ k i, 5 ≤ k → aI (mS m n op a b c T) (m + k) i = aI T (m + k) i := fun k i hk => mS_off hk i
  obtain ⟨hTh, hNu, hHa, hRo, hGr, hFa, hRe, hTo⟩ := h
  refine ⟨⟨hTh.1, hTh.2.1, fun j h1 h2 => ?_, hTh.2.2.2⟩, hNu, fun i hi => ?_, ⟨fun i hi => ?_, hRo.2⟩, ?_, ⟨hFa.1, ?_, fun j h1 h2 => ?_⟩, ?_, hTo⟩
  · rw [o 14 j (by decide)]; exact hTh.2.2.1 j h1 h2
  · rw [o 13 i (by decide)]; exact hHa i hi
  · unfold RRo1
    rw [o 16 i (by decide), o 17 i (by decide)]
    exact hRo.1 i hi
  · refine ⟨hGr.1, hGr.2.1, hGr.2.2.1, fun r p hr hp => ?_⟩
    rw [o 19 _ (by decide)]; exact hGr.2.2.2 r p hr hp
  · rw [o 29 0 (by decide)]; exact hFa.2.1
  · rw [o 28 j (by decide), o 29 j (by decide)]; exact hFa.2.2 j h1 h2
  · refine ⟨hRe.1, hRe.2.1, hRe.2.2.1, hRe.2.2.2.1, ?_, hRe.2.2.2.2.2⟩
    obtain ⟨q, q1, q2, q3, q4⟩ := hRe.2.2.2.2.1
    exact ⟨q, q1, q2, q3, fun i hi => by rw [o 31 i (by decide)]; exact q4 i hi⟩
