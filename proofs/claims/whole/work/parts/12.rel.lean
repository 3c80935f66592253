/-! THE RELATION between the class's state and the reference's -/
def opI : Option Nat → Int32 := fun o => match o with
  | none => -1
  | some k => nI k
/-- the blocks of a script, step by step: the stack of what is begun, TAKER, FINISH, end of each -/
abbrev bS : Type := List Nat × (Nat → Option Nat) × (Nat → Option Nat) × (Nat → Option Nat)
def b_st (op c : Nat → Int32) (k : Nat) (s : bS) : bS :=
  if op k = 25 ∨ op k = 29 ∨ op k = 30 then (k :: s.1, s.2)
  else if op k = 26 then (match s.1 with
    | b :: _ => if op b = 25 ∧ s.2.1 b = none ∧ s.2.2.1 b = none then (s.1, va_up s.2.1 b (some k), s.2.2) else s
    | [] => s)
  else if op k = 27 then (match s.1 with
    | b :: _ => if op b = 25 ∧ s.2.2.1 b = none then (s.1, s.2.1, va_up s.2.2.1 b (some k), s.2.2.2) else s
    | [] => s)
  else if op k = 28 then (match s.1 with
    | b :: r => if op b = 25 then (r, s.2.1, s.2.2.1, va_up s.2.2.2 b (some k)) else s
    | [] => s)
  else if op k = 31 then (match s.1 with
    | b :: r => if op b = 25 then s else (r, s.2.1, s.2.2.1, va_up s.2.2.2 b (some k))
    | [] => s)
  else if op k = 35 ∧ c k &&& 1 = 0 then ([], s.2)
  else s
def b_at (op c : Nat → Int32) : Nat → bS
  | 0 => ([], fun _ => none, fun _ => none, fun _ => none)
  | k + 1 => b_st op c k (b_at op c k)
/-- the places of the marks -/
def mk_l (op c : Nat → Int32) : Nat → List Nat
  | 0 => []
  | k + 1 => mk_l op c k ++ (if op k = 35 ∧ c k &&& 1 = 0 then [k] else [])
def chn (st : Nat → Nat) (ar : Nat → Option Nat) : List Nat → Option Nat → Prop
  | [], o => o = none
  | b :: r, o => o = some (st b) ∧ chn st ar r (ar (st b))
def RSc (x m n : Nat) (st : Nat → Nat) (S T : Sg) : Prop := n ≤ 2000 ∧ fI S 387 (x + 1) = nI n ∧ fI T 708 m = nI n ∧ (∀ i, i < n → aR S (x + 2) i = some (st i) ∧ tg S (st i) = 8 ∧ st i ≠ x + 14 ∧ fI S 448 (st i) = nI i ∧ fI S 449 (st i) = aI T (m + 1) i ∧ fI S 450 (st i) = aI T (m + 2) i ∧ fI S 451 (st i) = aI T (m + 3) i ∧ fI S 452 (st i) = aI T (m + 4) i ∧ 0 ≤ aI T (m + 1) i ∧ aI T (m + 1) i ≤ 35) ∧ ∀ i j, i < n → j < n → st i = st j → i = j
def RBl (x m n : Nat) (st : Nat → Nat) (S T : Sg) : Prop := fI S 449 (x + 14) = 35 ∧ chn st (fR S 453) (b_at (aI T (m + 1)) (aI T (m + 4)) n).1 (fR S 386 (x + 1)) ∧ (∀ i, i < n → fI S 454 (st i) = opI ((b_at (aI T (m + 1)) (aI T (m + 4)) n).2.1 i) ∧ fI S 455 (st i) = opI ((b_at (aI T (m + 1)) (aI T (m + 4)) n).2.2.1 i) ∧ fI S 456 (st i) = opI ((b_at (aI T (m + 1)) (aI T (m + 4)) n).2.2.2 i)) ∧
  fI S 388 (x + 1) = nI (mk_l (aI T (m + 1)) (aI T (m + 4)) n).length ∧ ∀ r, r < (mk_l (aI T (m + 1)) (aI T (m + 4)) n).length → aI S (x + 3) r = nI ((mk_l (aI T (m + 1)) (aI T (m + 4)) n).getD r 0)
/-- a THING, a failure: its address in the class, its number in the reference -/
def hrel (N : Nat) (th : Nat → Nat) (o : Option Nat) (v : Int32) : Prop := (o = none ∧ v = 0) ∨ ∃ j, 1 ≤ j ∧ j ≤ N ∧ o = some (th j) ∧ v = nI j
def RTh (m N : Nat) (th : Nat → Nat) (S T : Sg) : Prop := N ≤ 8000 ∧ fI T 721 m = nI N ∧ (∀ j, 1 ≤ j → j ≤ N → tg S (th j) = 9 ∧ fI S 512 (th j) = aI T (m + 14) j ∧ fL S 513 (th j) = aL T (m + 15) j ∧ (aI T (m + 14) j = 0 ∨ aI T (m + 14) j = 1 ∨ aI T (m + 14) j = 2)) ∧ ∀ i j, 1 ≤ i → i ≤ N → 1 ≤ j → j ≤ N → th i = th j → i = j
def RNu (x m : Nat) (S T : Sg) : Prop := ∀ i, i < 8 → aL S (x + 5) i = aL T (m + 12) i
def RHa (x m N : Nat) (th : Nat → Nat) (S T : Sg) : Prop := ∀ i, i < 8 → hrel N th (aR S (x + 6) i) (aI T (m + 13) i)
def RRo1 (m N : Nat) (th : Nat → Nat) (i a b c : Nat) (S T : Sg) : Prop := tg S a = 6 ∧ fI S 320 a = nI (i / 8) ∧ fR S 321 a = some b ∧ tg S b = 14 ∧ fR S 322 a = some c ∧ tg S c = 18 ∧ (∃ p, p ≤ 63 ∧ fI S 323 a = nI p ∧ aI T (m + 16) i = nI p) ∧ fI S 324 a = aI T (m + 17) i ∧ (aI T (m + 17) i = 0 ∨ aI T (m + 17) i = 1) ∧
  (i < 56 → ln S b = 63 ∧ ln S c = 0 ∧ ∀ j, j < 63 → aL S b j = aL T (m + 18) (64 * i + j)) ∧ (56 ≤ i → ln S b = 0 ∧ ln S c = 63 ∧ ∀ j, j < 63 → ∃ v : Int32, aL T (m + 18) (64 * i + j) = v.toInt64 ∧ hrel N th (aR S c j) v)
def RRo (x m N : Nat) (th ra rb rc : Nat → Nat) (S T : Sg) : Prop := (∀ i, i < 64 → (aR S (x + 7) i = none ∧ aI T (m + 16) i = -1) ∨ (aR S (x + 7) i = some (ra i) ∧ rb i ≠ x + 5 ∧ rb i ≠ x + 11 ∧ rc i ≠ x + 6 ∧ RRo1 m N th i (ra i) (rb i) (rc i) S T)) ∧
  ∀ i j, i < 64 → j < 64 → i ≠ j → aR S (x + 7) i ≠ none → aR S (x + 7) j ≠ none → ra i ≠ ra j ∧ rb i ≠ rb j ∧ rc i ≠ rc j
def RGr (x m : Nat) (S T : Sg) : Prop := fI S 129 (x + 8) = fI T 725 m ∧ (fI T 725 m = 0 ∨ fI T 725 m = 1) ∧ (∃ g p, g ≤ 7 ∧ p ≤ 7 ∧ fI S 130 (x + 8) = nI g ∧ fI T 726 m = nI g ∧ fI S 131 (x + 8) = nI p ∧ fI T 727 m = nI p ∧ (fI T 725 m = 0 → g = 0)) ∧ ∀ r p, r < 7 → p < 7 → aI S (x + 9) (r * 7 + p) = aI T (m + 19) (8 * r + p)
def RFa (m F : Nat) (fa : Nat → Nat) (S T : Sg) : Prop := F ≤ 1000 ∧ aI T (m + 29) 0 = 0 ∧ ∀ j, 1 ≤ j → j ≤ F → tg S (fa j) = 1 ∧ fI S 0 (fa j) = aI T (m + 28) j ∧ hrel (j - 1) fa (fR S 1 (fa j)) (aI T (m + 29) j) ∧ ∃ k, k ≤ 9 ∧ aI T (m + 28) j = nI k
def RRe (x m F : Nat) (fa : Nat → Nat) (S T : Sg) : Prop := fI S 258 (x + 10) = fI T 750 m ∧ fL S 259 (x + 10) = fL T 751 m ∧ hrel F fa (fR S 260 (x + 10)) (fI T 752 m) ∧ (∃ o, o ≤ 500 ∧ fI S 261 (x + 10) = nI o ∧ fI T 754 m = nI o ∧ ∀ i, i < o → aL S (x + 11) i = aL T (m + 30) i) ∧ (∃ q, q ≤ 1000 ∧ fI S 262 (x + 10) = nI q ∧ fI T 756 m = nI q ∧ ∀ i, i < q → aI S (x + 12) i = aI T (m + 31) i) ∧ fI S 263 (x + 10) = fI T 758 m ∧ fI S 264 (x + 10) = fI T 757 m
def RTo (x m N : Nat) (S T : Sg) : Prop := (∃ a, a ≤ 8000 ∧ N ≤ a ∧ fI S 644 x = nI a ∧ fI T 749 m = nI a) ∧ fI S 645 x = fI T 748 m
def RA (x m n : Nat) (st : Nat → Nat) (N : Nat) (th : Nat → Nat) (F : Nat) (fa ra rb rc : Nat → Nat) (S T : Sg) : Prop := SX x S ∧ MX m T ∧ RSc x m n st S T ∧ RBl x m n st S T ∧ RTh m N th S T ∧ RNu x m S T ∧ RHa x m N th S T ∧ RRo x m N th ra rb rc S T ∧ RGr x m S T ∧ RFa m F fa S T ∧ RRe x m F fa S T ∧ RTo x m N S T
def RR (x m : Nat) (S T : Sg) : Prop := ∃ (n : Nat) (st : Nat → Nat) (N : Nat) (th : Nat → Nat) (F : Nat) (fa ra rb rc : Nat → Nat), RA x m n st N th F fa ra rb rc S T
theorem RR_rz {x m : Nat} (S S2 : Sg) (n : Nat) (h : RR x m S S2) : RR x m (rz S n) S2 := h
theorem RR_rz2 {x m : Nat} {S S2 : Sg} {n : Nat} (h : RR x m S S2) : RR x m S (rz S2 n) := h
theorem RR_tg {x m : Nat} {S S2 : Sg} (h : RR x m S S2) : tg S x = 11 ∧ tg S2 m = 12 := by
  obtain ⟨_, _, _, _, _, _, _, _, _, h⟩ := h
  exact ⟨SX_t0 h.1, MX_t0 h.2.1⟩
/-! small facts on ints -/
theorem n_lt {a b : Nat} (ha : a < 2147483648) (hb : b < 2147483648) : nI a < nI b ↔ a < b := nI_ltI (by omega) (by omega)
theorem n_le {a b : Nat} (ha : a < 2147483648) (hb : b < 2147483648) : nI a ≤ nI b ↔ a ≤ b := nI_leI (by omega) (by omega)
theorem n_eq {a b : Nat} (ha : a < 2147483648) (hb : b < 2147483648) : nI a = nI b ↔ a = b := nI_eq (by omega) (by omega)
theorem n_cl {n : Nat} (h : n < 2147483648) : (nI n).toNatClampNeg = n := nI_clamp (by omega)
theorem n_neg {n : Nat} (h : n < 2147483648) : ¬ nI n < 0 := nI_pos (by omega)
theorem n_ne1 {n : Nat} (h : n < 2147483648) : ¬ nI n = -1 := by
  intro e
  have := congrArg Int32.toInt e
  rw [nI_toInt (by omega)] at this
  have h2 : (-1 : Int32).toInt = -1 := by decide
  omega
/-- an int is below 0, or a number -/
theorem i_cs (i : Int32) : i < 0 ∨ ∃ j : Nat, j < 2147483648 ∧ i = nI j := by
  by_cases h : i < 0
  · exact Or.inl h
  · obtain ⟨j, h1, h2⟩ := nI_of h
    exact Or.inr ⟨j, by omega, h2⟩
theorem i_lt {i : Int32} {b : Nat} (hb : b < 2147483648) (h0 : ¬ i < 0) (h : ¬ nI b ≤ i) : ∃ j, j < b ∧ i = nI j := by
  rcases i_cs i with q | ⟨j, h1, rfl⟩
  · exact absurd q h0
  · refine ⟨j, ?_, rfl⟩
    rw [n_le hb h1] at h
    omega
theorem p_end : PL_end RR := by
  intro x m S T hR hf
  obtain ⟨n, st, N, th, F, fa, ra, rb, rc, h⟩ := id hR
  refine ⟨x + 10, SX_r642 h.1, SX_t10 h.1, fun n2 hn => ?_⟩
  exact ⟨h.2.2.2.2.2.2.2.2.2.2.1.1, RR_rz2 hR⟩
theorem p_result : PL_result RR := by
  intro x m S T hR hf
  obtain ⟨n, st, N, th, F, fa, ra, rb, rc, h⟩ := id hR
  refine ⟨x + 10, SX_r642 h.1, SX_t10 h.1, fun n2 hn => ?_⟩
  exact ⟨h.2.2.2.2.2.2.2.2.2.2.1.2.1, RR_rz2 hR⟩
theorem p_depth : PL_depth RR := by
  intro x m S T hR hf
  obtain ⟨n, st, N, th, F, fa, ra, rb, rc, h⟩ := id hR
  refine ⟨x + 10, SX_r642 h.1, SX_t10 h.1, fun n2 hn => ?_⟩
  exact ⟨h.2.2.2.2.2.2.2.2.2.2.1.2.2.2.2.2.1, RR_rz2 hR⟩
