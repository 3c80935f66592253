theorem r_stepFin {x m n N : Nat} {st th : Nat → Nat} {F : Nat} {fa ra rb rc : Nat → Nat} {S S' T : Sg} {op a b c : Int32} (h : RA x m n st N th F fa ra rb rc S T) (hn : n < 2000) (h0 : 0 ≤ op) (h35 : op ≤ 35) (hf : ∀ q, tg S q ≠ 0 → q < sz S)
    (hSX : SX x S') (hAg : Ag x S S') (hrow : ∀ i, aR S' (x + 2) i = if i = n then some (sz S) else aR S (x + 2) i) (hold : ∀ i, i < n → ∀ k, 448 ≤ k → k ≤ 452 → fI S' k (st i) = fI S k (st i))
    (hnew : tg S' (sz S) = 8 ∧ fI S' 448 (sz S) = nI n ∧ fI S' 449 (sz S) = op ∧ fI S' 450 (sz S) = a ∧ fI S' 451 (sz S) = b ∧ fI S' 452 (sz S) = c) (hlen : fI S' 387 (x + 1) = nI (n + 1)) (hBl : RBl x m (n + 1) (va_up st n (sz S)) S' (mS m n op a b c T)) : RR x m S' (mS m n op a b c T) := by
  obtain ⟨hS, hM, hSc, -, hH⟩ := h
  obtain ⟨s1, s2, s3, s4, s5⟩ := hSc
  have hq : ∀ i, i < n → st i ≠ sz S := fun i hi => Nat.ne_of_lt (hf _ (by rw [(s4 i hi).2.1]; decide))
  have hst : ∀ i, i < n → va_up st n (sz S) i = st i := fun i hi => if_neg (by omega)
  have hstn : va_up st n (sz S) n = sz S := if_pos rfl
  refine ⟨n + 1, va_up st n (sz S), N, th, F, fa, ra, rb, rc, hSX, ?_, ⟨by omega, hlen, ?_, fun i hi => ?_, fun i j hi hj he => ?_⟩, hBl, RH_mS (RH_ag hS hAg hH)⟩
  · unfold mS; simp only [MX_sFI, MX_sAI]; exact hM
  · unfold mS; simp only [gs_FI]; simp
  · obtain ⟨w1, w2, w3, w4⟩ := mS_row (m := m) (n := n) (op := op) (a := a) (b := b) (c := c) (T := T) i
    rw [w1, w2, w3, w4, hrow]
    by_cases e : i = n
    · subst e
      rw [hstn, if_pos rfl, if_pos rfl, if_pos rfl, if_pos rfl, if_pos rfl]
      exact ⟨rfl, hnew.1, (Nat.ne_of_lt (hf _ (by rw [SX_t14 hS]; decide))).symm, hnew.2.1, hnew.2.2.1, hnew.2.2.2.1, hnew.2.2.2.2.1, hnew.2.2.2.2.2, h0, h35⟩
    · have hi' : i < n := by omega
      rw [hst i hi', if_neg e, if_neg e, if_neg e, if_neg e, if_neg e]
      obtain ⟨a1, a2, a3, a4, a5, a6, a7, a8, a9, a10⟩ := s4 i hi'
      refine ⟨a1, ?_, a3, ?_, ?_, ?_, ?_, ?_, a9, a10⟩
      · rw [(hAg.1 _ (by rw [a2]; decide)).1]; exact a2
      · rw [hold i hi' 448 (by decide) (by decide)]; exact a4
      · rw [hold i hi' 449 (by decide) (by decide)]; exact a5
      · rw [hold i hi' 450 (by decide) (by decide)]; exact a6
      · rw [hold i hi' 451 (by decide) (by decide)]; exact a7
      · rw [hold i hi' 452 (by decide) (by decide)]; exact a8
  · by_cases e1 : i = n
    · by_cases e2 : j = n
      · omega
      · subst e1
        rw [hstn, hst j (by omega)] at he
        exact absurd he.symm (hq j (by omega))
    · by_cases e2 : j = n
      · subst e2
        rw [hstn, hst i (by omega)] at he
        exact absurd he (hq i (by omega))
      · rw [hst i (by omega), hst j (by omega)] at he
        exact s5 i j (by omega) (by omega) he
theorem ops4 {op : Int32} (h1 : ¬ (op = 25 ∨ op = 29 ∨ op = 30)) (h2 : ¬ op < 26) (h3 : ¬ 31 < op) : op = 26 ∨ op = 27 ∨ op = 28 ∨ op = 31 := by
  have z : ∀ k : Nat, k < 100 → (op = nI k ↔ op.toInt = k) := by
    intro k hk
    constructor
    · intro e; rw [e, nI_toInt (by omega)]
    · intro e
      refine Int32.toInt_inj.mp ?_
      rw [nI_toInt (by omega)]; exact e
  have z25 := z 25 (by omega); have z26 := z 26 (by omega); have z27 := z 27 (by omega); have z28 := z 28 (by omega); have z29 := z 29 (by omega); have z30 := z 30 (by omega); have z31 := z 31 (by omega)
  rw [Int32.lt_iff_toInt_lt] at h2 h3
  have t26 : (26 : Int32).toInt = 26 := by decide
  have t31 : (31 : Int32).toInt = 31 := by decide
  rw [t26] at h2
  rw [t31] at h3
  have hh : op.toInt = 26 ∨ op.toInt = 27 ∨ op.toInt = 28 ∨ op.toInt = 29 ∨ op.toInt = 30 ∨ op.toInt = 31 := by omega
  rcases hh with q | q | q | q | q | q
  · exact Or.inl (z26.mpr q)
  · exact Or.inr (Or.inl (z27.mpr q))
  · exact Or.inr (Or.inr (Or.inl (z28.mpr q)))
  · exact absurd (Or.inr (Or.inl (z29.mpr q))) h1
  · exact absurd (Or.inr (Or.inr (z30.mpr q))) h1
  · exact Or.inr (Or.inr (Or.inr (z31.mpr q)))
theorem r_addAll {x m n N : Nat} {st th : Nat → Nat} {F : Nat} {fa ra rb rc : Nat → Nat} {S T : Sg} {op a b c : Int32} {Q : Sg → Prop} (h : RA x m n st N th F fa ra rb rc S T) (c2 : n < 2000) (hf : ∀ q, tg S q ≠ 0 → q < sz S) (done : ∀ S' : Sg, SX x S' → Ag x S S' → (∀ i, aR S' (x + 2) i = if i = n then some (sz S) else aR S (x + 2) i) → (∀ i, i < n → ∀ k, 448 ≤ k → k ≤ 452 → fI S' k (st i) = fI S k (st i)) → (tg S' (sz S) = 8 ∧ fI S' 448 (sz S) = nI n ∧ fI S' 449 (sz S) = op ∧ fI S' 450 (sz S) = a ∧ fI S' 451 (sz S) = b ∧ fI S' 452 (sz S) = c) → fI S' 387 (x + 1) = nI (n + 1) → RBl x m (n + 1) (va_up st n (sz S)) S' (mS m n op a b c T) → Q S') : wX6_add (x + 1) op a b c S Q := by
  obtain ⟨hS, hM, hSc, hBl, hH⟩ := id h
  obtain ⟨s1, s2, s3, s4, s5⟩ := id hSc
  have e1 : x + 1 ≠ sz S := Nat.ne_of_lt (hf _ (by rw [SX_t1 hS]; decide))
  have e2 : x + 2 ≠ sz S := Nat.ne_of_lt (hf _ (by rw [SX_t2 hS]; decide))
  have e3 : x + 3 ≠ sz S := Nat.ne_of_lt (hf _ (by rw [SX_t3 hS]; decide))
  have hq : ∀ i, i < n → st i ≠ sz S := fun i hi => Nat.ne_of_lt (hf _ (by rw [(s4 i hi).2.1]; decide))
  have hx1 : ∀ i, i < n → st i ≠ x + 1 := fun i hi z => by have := (s4 i hi).2.1; rw [z, SX_t1 hS] at this; exact absurd this (by decide)
  have hst : ∀ i, i < n → va_up st n (sz S) i = st i := fun i hi => if_neg (by omega)
  have hstn : va_up st n (sz S) n = sz S := if_pos rfl
  have hA := Ag_sA (x := x) (n := n) (op := op) (a := a) (b := b) (c := c) hf
  have hAX := SX_sA (x := x) (n := n) (op := op) (a := a) (b := b) (c := c) hf hS
  have hnew := sA_new (x := x) (n := n) (op := op) (a := a) (b := b) (c := c) (S := S) (fun z => e1 z.symm)
  have hx1v := sA_x1 (x := x) (n := n) (op := op) (a := a) (b := b) (c := c) (S := S) e1
  have hrow := sA_row (x := x) (n := n) (op := op) (a := a) (b := b) (c := c) (S := S) e2
  have hmk := sA_mk (x := x) (n := n) (op := op) (a := a) (b := b) (c := c) (S := S) e3
  have hold := fun i (hi : i < n) => sA_old (x := x) (n := n) (op := op) (a := a) (b := b) (c := c) (S := S) (hq i hi) (hx1 i hi)
  -- the blocks' words of the longer script
  obtain ⟨opf, hopf⟩ : ∃ f, f = aI T (m + 1) := ⟨_, rfl⟩
  obtain ⟨cf, hcf⟩ : ∃ f, f = aI T (m + 4) := ⟨_, rfl⟩
  obtain ⟨op', hop'⟩ : ∃ f, f = aI (mS m n op a b c T) (m + 1) := ⟨_, rfl⟩
  obtain ⟨c', hc'⟩ : ∃ f, f = aI (mS m n op a b c T) (m + 4) := ⟨_, rfl⟩
  have hopn : op' n = op := by rw [hop', (mS_row n).1, if_pos rfl]
  have hcn : c' n = c := by rw [hc', (mS_row n).2.2.2, if_pos rfl]
  have hcong : ∀ i, i < n → op' i = opf i ∧ c' i = cf i := fun i hi => ⟨by rw [hop', (mS_row i).1, if_neg (by omega), hopf], by rw [hc', (mS_row i).2.2.2, if_neg (by omega), hcf]⟩
  unfold RBl at hBl
  rw [← hopf, ← hcf] at hBl
  obtain ⟨b0, b1, b2, b3, b4⟩ := hBl
  have hlt := b_lt opf cf n
  have hval := b_val opf cf n
  have hbat : b_at op' c' (n + 1) = b_st op' c' n (b_at opf cf n) := by
    show b_st op' c' n (b_at op' c' n) = _
    rw [b_at_cong n hcong]
  have hmkl : mk_l op' c' (n + 1) = mk_l opf cf n ++ (if op = 35 ∧ c &&& 1 = 0 then [n] else []) := by
    show mk_l op' c' n ++ _ = _
    rw [mk_cong n hcong, hopn, hcn]
  have hml := mk_len opf cf n
  have hopb : ∀ i, i < n → op' i = fI S 449 (st i) := fun i hi => by rw [(hcong i hi).1, (s4 i hi).2.2.2.2.1, hopf]
  generalize b_at opf cf n = bs at b1 b2 hlt hval hbat
  generalize hml0 : mk_l opf cf n = ml at b3 b4 hmkl hml
  -- RBl out of its pieces
  have n14 : x + 14 ≠ sz S := Nat.ne_of_lt (hf _ (by rw [SX_t14 hS]; decide))
  have hb0 : fI (sA x n op a b c S) 449 (x + 14) = 35 := by rw [(sA_old n14 (by omega)).2.1]; exact b0
  have rbl : ∀ S' : Sg, fI S' 449 (x + 14) = 35 → chn (va_up st n (sz S)) (fR S' 453) (b_st op' c' n bs).1 (fR S' 386 (x + 1)) → (∀ i, i < n + 1 → fI S' 454 (va_up st n (sz S) i) = opI ((b_st op' c' n bs).2.1 i) ∧ fI S' 455 (va_up st n (sz S) i) = opI ((b_st op' c' n bs).2.2.1 i) ∧ fI S' 456 (va_up st n (sz S) i) = opI ((b_st op' c' n bs).2.2.2 i)) → fI S' 388 (x + 1) = nI (mk_l op' c' (n + 1)).length → (∀ r, r < (mk_l op' c' (n + 1)).length → aI S' (x + 3) r = nI ((mk_l op' c' (n + 1)).getD r 0)) → RBl x m (n + 1) (va_up st n (sz S)) S' (mS m n op a b c T) := by
    intro S' q0 q1 q2 q3 q4
    unfold RBl
    rw [← hop', ← hc', hbat]
    exact ⟨q0, q1, q2, q3, q4⟩
  obtain ⟨l, t1, t2, t3⟩ := bs
  dsimp only at b1 b2 hlt hval
  -- the chain, where nothing of it changes
  have chain : ∀ (S' : Sg) (o : Option Nat) (l' : List Nat), (∀ i, i < n → fR S' 453 (st i) = fR S 453 (st i)) → (∀ z ∈ l', z < n) → chn st (fR S 453) l' o → chn (va_up st n (sz S)) (fR S' 453) l' o := by
    intro S' o l' hr hl' hc
    exact chn_cong l' o (fun z hz => ⟨hst z (hl' z hz), hr z (hl' z hz)⟩) hc
  -- TAKER, FINISH, end where nothing changes
  have fields : ∀ i, i < n + 1 → fI (sA x n op a b c S) 454 (va_up st n (sz S) i) = opI (t1 i) ∧ fI (sA x n op a b c S) 455 (va_up st n (sz S) i) = opI (t2 i) ∧ fI (sA x n op a b c S) 456 (va_up st n (sz S) i) = opI (t3 i) := by
    intro i hi
    by_cases e : i = n
    · subst e
      obtain ⟨z1, z2, z3⟩ := hlt.2 i (Nat.le_refl _)
      rw [hstn, z1, z2, z3]
      exact ⟨hnew.2.2.2.2.2.2.1, hnew.2.2.2.2.2.2.2.1, hnew.2.2.2.2.2.2.2.2⟩
    · rw [hst i (by omega), (hold i (by omega)).2.1, (hold i (by omega)).2.1, (hold i (by omega)).2.1]
      exact b2 i (by omega)
  have n35 : ¬ (op = 35 ∧ c &&& 1 = 0) → mk_l op' c' (n + 1) = ml := by
    intro z
    rw [hmkl, if_neg z, List.append_nil]
  have marks : ¬ (op = 35 ∧ c &&& 1 = 0) → fI (sA x n op a b c S) 388 (x + 1) = nI (mk_l op' c' (n + 1)).length ∧ ∀ r, r < (mk_l op' c' (n + 1)).length → aI (sA x n op a b c S) (x + 3) r = nI ((mk_l op' c' (n + 1)).getD r 0) := by
    intro z
    rw [n35 z, hx1v.2.1]
    exact ⟨b3, fun r hr => by rw [hmk]; exact b4 r hr⟩
  -- nothing changes at all
  have plain : ¬ (op = 35 ∧ c &&& 1 = 0) → b_st op' c' n (l, t1, t2, t3) = (l, t1, t2, t3) → RBl x m (n + 1) (va_up st n (sz S)) (sA x n op a b c S) (mS m n op a b c T) := by
    intro z hb
    refine rbl _ hb0 ?_ ?_ (marks z).1 (marks z).2
    · rw [hb, hx1v.2.2]
      exact chain _ _ l (fun i hi => (hold i hi).2.2 453) hlt.1 b1
    · rw [hb]; exact fields
  refine r_add hf hS hSc c2 (fun ho => ?_) (fun ho k1 k2 => ?_) (fun ho hr k1 k2 => ?_) (fun ho hr hk => ?_)
  · -- a block begins
    have z35 : ¬ (op = 35 ∧ c &&& 1 = 0) := by
      rintro ⟨z, -⟩
      rcases ho with q | q | q <;> rw [q] at z <;> exact absurd z (by decide)
    have hb : b_st op' c' n (l, t1, t2, t3) = (n :: l, t1, t2, t3) := by
      unfold b_st
      rw [hopn, if_pos ho]
    refine done _ ((SX_sFR (by decide)).mpr ((SX_sFR (by decide)).mpr hAX)) (Ag_tr hA (Ag_tr (Ag_FR (by decide) (by decide)) (Ag_FR (by decide) (by decide)))) ?_ ?_ ?_ ?_ (rbl _ (by simp only [gs_FR]; exact hb0) ?_ ?_ ?_ ?_)
    · simp only [gs_FR]; exact hrow
    · intro i hi k _ _
      simp only [gs_FR]; exact (hold i hi).2.1 k
    · simp only [gs_FR]; exact ⟨hnew.1, hnew.2.1, hnew.2.2.1, hnew.2.2.2.1, hnew.2.2.2.2.1, hnew.2.2.2.2.2.1⟩
    · simp only [gs_FR]; exact hx1v.1
    · rw [hb]
      refine ⟨?_, ?_⟩
      · rw [hstn]; simp only [gs_FR]; simp
      · rw [hstn]
        have ef : fR (sFR (sFR (sA x n op a b c S) 453 (sz S) (fR S 386 (x + 1))) 386 (x + 1) (some (sz S))) 453 (sz S) = fR S 386 (x + 1) := by simp only [gs_FR]; simp
        rw [ef]
        refine chain _ _ l (fun i hi => ?_) hlt.1 b1
        simp only [gs_FR]
        rw [if_neg (by omega), if_neg (fun z => hq i hi z.2)]
        exact (hold i hi).2.2 453
    · rw [hb]
      intro i hi
      simp only [gs_FR]; exact fields i hi
    · simp only [gs_FR]; exact (marks z35).1
    · simp only [gs_FR]; exact (marks z35).2
  · -- TAKER, FINISH, CLOSE, END
    have hops := ops4 ho k1 k2
    have z35 : ¬ (op = 35 ∧ c &&& 1 = 0) := by
      rintro ⟨z, -⟩
      rcases hops with q | q | q | q <;> rw [q] at z <;> exact absurd z (by decide)
    have same : b_st op' c' n (l, t1, t2, t3) = (l, t1, t2, t3) → Q (sA x n op a b c S) := by
      intro hb
      exact done _ hAX hA hrow (fun i hi k _ _ => (hold i hi).2.1 k) ⟨hnew.1, hnew.2.1, hnew.2.2.1, hnew.2.2.2.1, hnew.2.2.2.2.1, hnew.2.2.2.2.2.1⟩ hx1v.1 (plain z35 hb)
    -- one field of the innermost block changes
    have field : ∀ (z k : Nat) (t1' t2' t3' : Nat → Option Nat) (l' : List Nat), z < n → (k = 454 ∧ t1' = va_up t1 z (some n) ∧ t2' = t2 ∧ t3' = t3 ∨ k = 455 ∧ t1' = t1 ∧ t2' = va_up t2 z (some n) ∧ t3' = t3 ∨ k = 456 ∧ t1' = t1 ∧ t2' = t2 ∧ t3' = va_up t3 z (some n)) → ∀ i, i < n + 1 → fI (sFI (sA x n op a b c S) k (st z) (nI n)) 454 (va_up st n (sz S) i) = opI (t1' i) ∧ fI (sFI (sA x n op a b c S) k (st z) (nI n)) 455 (va_up st n (sz S) i) = opI (t2' i) ∧ fI (sFI (sA x n op a b c S) k (st z) (nI n)) 456 (va_up st n (sz S) i) = opI (t3' i) := by
      intro z k t1' t2' t3' l' hz hk i hi
      have hiz : va_up st n (sz S) i = st z ↔ i = z := by
        by_cases e : i = n
        · subst e
          rw [hstn]
          exact ⟨fun q => absurd q.symm (hq z hz), fun q => by omega⟩
        · rw [hst i (by omega)]
          exact ⟨fun q => s5 i z (by omega) hz q, fun q => by rw [q]⟩
      obtain ⟨f1, f2, f3⟩ := fields i hi
      have up : ∀ t : Nat → Option Nat, (if i = z then nI n else opI (t i)) = opI (va_up t z (some n) i) := by
        intro t
        unfold va_up
        by_cases e : i = z
        · rw [if_pos e, if_pos e]; rfl
        · rw [if_neg e, if_neg e]
      rcases hk with ⟨rfl, rfl, rfl, rfl⟩ | ⟨rfl, rfl, rfl, rfl⟩ | ⟨rfl, rfl, rfl, rfl⟩
      · simp only [gs_FI, f1, f2, f3, hiz, ← up]; simp
      · simp only [gs_FI, f1, f2, f3, hiz, ← up]; simp
      · simp only [gs_FI, f1, f2, f3, hiz, ← up]; simp
    unfold wX6_fit
    refine nm_e ?_
    rw [hx1v.2.2]
    cases l with
    | nil =>
      have b1 : fR S 386 (x + 1) = none := b1
      have hb : b_st op' c' n ([], t1, t2, t3) = ([], t1, t2, t3) := by
        unfold b_st
        rw [hopn, hcn, if_neg ho]
        rcases hops with q | q | q | q <;> subst q <;> rfl
      rw [if_pos b1]
      exact same hb
    | cons z r =>
      obtain ⟨d1, d2⟩ := b1
      have hz := hlt.1 z List.mem_cons_self
      have hz449 : fI (sA x n op a b c S) 449 (st z) = op' z := by rw [(hold z hz).2.1, hopb z hz]
      have htz : tg (sA x n op a b c S) (st z) = 8 := by rw [(hold z hz).1]; exact (s4 z hz).2.1
      have hn448 := hnew.2.1
      obtain ⟨f1, f2, f3⟩ := fields z (by omega)
      rw [hst z hz] at f1 f2 f3
      have p1 : 0 ≤ fI (sA x n op a b c S) 454 (st z) ↔ t1 z ≠ none := by rw [f1]; exact opI_pos (fun k hk => by have := hval z k (Or.inl hk); omega)
      have p2 : 0 ≤ fI (sA x n op a b c S) 455 (st z) ↔ t2 z ≠ none := by rw [f2]; exact opI_pos (fun k hk => by have := hval z k (Or.inr (Or.inl hk)); omega)
      rw [if_neg (by rw [d1]; exact fun z => by cases z)]
      refine ⟨st z, d1, htz, ?_⟩
      -- one field is written, the chain stays
      have write : ∀ (k : Nat) (t1' t2' t3' : Nat → Option Nat), (k = 454 ∧ t1' = va_up t1 z (some n) ∧ t2' = t2 ∧ t3' = t3 ∨ k = 455 ∧ t1' = t1 ∧ t2' = va_up t2 z (some n) ∧ t3' = t3) → b_st op' c' n (z :: r, t1, t2, t3) = (z :: r, t1', t2', t3') → Q (sFI (sA x n op a b c S) k (st z) (nI n)) := by
        intro k t1' t2' t3' hk hb
        have hk2 : 453 < k ∧ k < 457 := by rcases hk with ⟨q, -⟩ | ⟨q, -⟩ <;> omega
        have hkk : ∀ j v, j ≠ k → fI (sFI (sA x n op a b c S) k (st z) (nI n)) j v = fI (sA x n op a b c S) j v := by
          intro j v hj
          simp only [gs_FI]
          rw [if_neg (fun q => hj q.1)]
        refine done _ ((SX_sFI _ _ _).mpr hAX) (Ag_tr hA (Ag_FI (by omega) (by omega))) ?_ ?_ ?_ ?_ (rbl _ (by rw [hkk 449 _ (by omega)]; exact hb0) ?_ ?_ ?_ ?_)
        · simp only [gs_FI]; exact hrow
        · intro i hi j j1 j2
          rw [hkk j _ (by omega)]; exact (hold i hi).2.1 j
        · rw [hkk 448 _ (by omega), hkk 449 _ (by omega), hkk 450 _ (by omega), hkk 451 _ (by omega), hkk 452 _ (by omega)]
          simp only [gs_FI]; exact ⟨hnew.1, hnew.2.1, hnew.2.2.1, hnew.2.2.2.1, hnew.2.2.2.2.1, hnew.2.2.2.2.2.1⟩
        · rw [hkk 387 _ (by omega)]; exact hx1v.1
        · rw [hb]
          simp only [gs_FI]
          rw [hx1v.2.2]
          exact chain _ _ _ (fun i hi => (hold i hi).2.2 453) hlt.1 ⟨d1, d2⟩
        · rw [hb]
          refine field z k t1' t2' t3' r hz ?_
          rcases hk with q | q
          · exact Or.inl q
          · exact Or.inr (Or.inl q)
        · rw [hkk 388 _ (by omega)]; exact (marks z35).1
        · simp only [gs_FI]; exact (marks z35).2
      -- the block ends
      have close : ∀ t3' : Nat → Option Nat, t3' = va_up t3 z (some n) → b_st op' c' n (z :: r, t1, t2, t3) = (r, t1, t2, t3') → Q (sFR (sFI (sA x n op a b c S) 456 (st z) (nI n)) 386 (x + 1) (fR (sFI (sA x n op a b c S) 456 (st z) (nI n)) 453 (st z))) := by
        intro t3' ht hb
        have hkk : ∀ j v, j ≠ 456 → fI (sFI (sA x n op a b c S) 456 (st z) (nI n)) j v = fI (sA x n op a b c S) j v := by
          intro j v hj
          simp only [gs_FI]
          rw [if_neg (fun q => hj q.1)]
        refine done _ ((SX_sFR (by decide)).mpr ((SX_sFI _ _ _).mpr hAX)) (Ag_tr hA (Ag_tr (Ag_FI (by omega) (by omega)) (Ag_FR (by omega) (by omega)))) ?_ ?_ ?_ ?_ (rbl _ (by simp only [gs_FR]; rw [hkk 449 _ (by omega)]; exact hb0) ?_ ?_ ?_ ?_)
        · simp only [gs_FI, gs_FR]; exact hrow
        · intro i hi j j1 j2
          simp only [gs_FR]
          rw [hkk j _ (by omega)]; exact (hold i hi).2.1 j
        · simp only [gs_FR]
          rw [hkk 448 _ (by omega), hkk 449 _ (by omega), hkk 450 _ (by omega), hkk 451 _ (by omega), hkk 452 _ (by omega)]
          simp only [gs_FI]; exact ⟨hnew.1, hnew.2.1, hnew.2.2.1, hnew.2.2.2.1, hnew.2.2.2.2.1, hnew.2.2.2.2.2.1⟩
        · simp only [gs_FR]; rw [hkk 387 _ (by omega)]; exact hx1v.1
        · rw [hb]
          have ef : fR (sFR (sFI (sA x n op a b c S) 456 (st z) (nI n)) 386 (x + 1) (fR (sFI (sA x n op a b c S) 456 (st z) (nI n)) 453 (st z))) 386 (x + 1) = fR S 453 (st z) := by
            simp only [gs_FR, gs_FI]
            simp
            exact (hold z hz).2.2 453
          rw [ef]
          refine chain _ _ _ (fun i hi => ?_) (fun w hw => hlt.1 w (List.mem_cons_of_mem _ hw)) d2
          simp only [gs_FR, gs_FI]
          rw [if_neg (by omega)]
          exact (hold i hi).2.2 453
        · rw [hb]
          have := field z 456 t1 t2 t3' r hz (Or.inr (Or.inr ⟨rfl, rfl, rfl, ht⟩))
          intro i hi
          simp only [gs_FR]
          exact this i hi
        · simp only [gs_FR]; rw [hkk 388 _ (by omega)]; exact (marks z35).1
        · simp only [gs_FI, gs_FR]; exact (marks z35).2
      have tq : tg (sA x n op a b c S) (sz S) = 8 := hnew.1
      have q449 := hnew.2.2.1
      by_cases hz25 : op' z = 25
      · rw [if_pos (by rw [hz449]; exact hz25)]
        refine ⟨sz S, rfl, tq, ?_⟩
        rw [q449]
        rcases hops with q | q | q | q
        · -- TAKER
          subst q
          rw [if_neg (by decide)]
          unfold wX6_fit_b37
          rw [if_neg (by decide)]
          refine ⟨sz S, rfl, tq, ?_⟩
          rw [q449, if_pos rfl]
          refine ⟨st z, d1, htz, ?_⟩
          by_cases g1 : t1 z = none
          · rw [if_neg (by rw [p1]; exact fun w => w g1)]
            by_cases g2 : t2 z = none
            · rw [if_neg (by rw [p2]; exact fun w => w g2)]
              refine nm_e ?_
              rw [hn448]
              refine write 454 _ _ _ (Or.inl ⟨rfl, rfl, rfl, rfl⟩) ?_
              unfold b_st
              rw [hopn]
              simp only [hz25, g1, g2]
              rfl
            · rw [if_pos (by rw [p2]; exact g2)]
              refine same ?_
              unfold b_st
              rw [hopn]
              simp only [hz25, g1, g2]
              rfl
          · rw [if_pos (by rw [p1]; exact g1)]
            refine same ?_
            unfold b_st
            rw [hopn]
            simp only [hz25, g1]
            rfl
        · -- FINISH
          subst q
          rw [if_neg (by decide)]
          unfold wX6_fit_b37
          rw [if_neg (by decide)]
          refine ⟨sz S, rfl, tq, ?_⟩
          rw [q449, if_neg (by decide), if_pos rfl]
          refine ⟨st z, d1, htz, ?_⟩
          by_cases g2 : t2 z = none
          · rw [if_neg (by rw [p2]; exact fun w => w g2)]
            refine nm_e ?_
            rw [hn448]
            refine write 455 _ _ _ (Or.inr ⟨rfl, rfl, rfl, rfl⟩) ?_
            unfold b_st
            rw [hopn]
            simp only [hz25, g2]
            rfl
          · rw [if_pos (by rw [p2]; exact g2)]
            refine same ?_
            unfold b_st
            rw [hopn]
            simp only [hz25, g2]
            rfl
        · -- CLOSE
          subst q
          rw [if_neg (by decide)]
          unfold wX6_fit_b37
          rw [if_neg (by decide)]
          refine ⟨sz S, rfl, tq, ?_⟩
          rw [q449, if_neg (by decide), if_neg (by decide)]
          refine ⟨st z, d1, htz, nm_e (nm_e ?_)⟩
          rw [hn448]
          refine close _ rfl ?_
          unfold b_st
          rw [hopn]
          simp only [hz25]
          rfl
        · -- END of a trial does nothing
          subst q
          rw [if_pos rfl]
          unfold wX6_fit_b37
          rw [if_pos rfl]
          refine same ?_
          unfold b_st
          rw [hopn]
          simp only [hz25]
          rfl
      · rw [if_neg (by rw [hz449]; exact hz25)]
        refine ⟨sz S, rfl, tq, ?_⟩
        rw [q449]
        rcases hops with q | q | q | q
        · subst q
          rw [if_neg (by decide)]
          unfold wX6_fit_b37
          rw [if_pos rfl]
          refine same ?_
          unfold b_st
          rw [hopn]
          simp only [hz25]
          rfl
        · subst q
          rw [if_neg (by decide)]
          unfold wX6_fit_b37
          rw [if_pos rfl]
          refine same ?_
          unfold b_st
          rw [hopn]
          simp only [hz25]
          rfl
        · subst q
          rw [if_neg (by decide)]
          unfold wX6_fit_b37
          rw [if_pos rfl]
          refine same ?_
          unfold b_st
          rw [hopn]
          simp only [hz25]
          rfl
        · subst q
          rw [if_pos rfl]
          unfold wX6_fit_b37
          rw [if_neg (by decide)]
          refine ⟨sz S, rfl, tq, ?_⟩
          rw [q449, if_neg (by decide), if_neg (by decide)]
          refine ⟨st z, d1, htz, nm_e (nm_e ?_)⟩
          rw [hn448]
          refine close _ rfl ?_
          unfold b_st
          rw [hopn]
          simp only [hz25]
          rfl
  · -- a mark
    have hb : b_st op' c' n (l, t1, t2, t3) = ([], t1, t2, t3) := by
      unfold b_st
      rw [hopn, hcn, k1]
      rw [if_neg (by decide), if_neg (by decide), if_neg (by decide), if_neg (by decide), if_neg (by decide)]
      simp only [k2]
      rfl
    have hml2 : mk_l op' c' (n + 1) = ml ++ [n] := by rw [hmkl, if_pos ⟨k1, k2⟩]
    have e388 : fI (sA x n op a b c S) 388 (x + 1) = nI ml.length := by rw [hx1v.2.1]; exact b3
    unfold wX6_beginRoutine
    rw [e388, if_neg (n_neg (by omega)), if_pos (by rw [show (2000 : Int32) = nI 2000 from rfl, n_lt (by omega) (by omega)]; omega)]
    refine ⟨x + 3, SX_r385 hAX, SX_t3 hAX, by rw [SX_l3 hAX]; exact vp_n (by omega) (by omega), nm_e (nm_e (nm_e ?_))⟩
    have e5 : fI (sAI (sA x n op a b c S) (x + 3) (nI ml.length).toNatClampNeg (nI n)) 388 (x + 1) = nI ml.length := by simp only [gs_AI]; exact e388
    rw [e5, nI_1, n_cl (by omega)]
    have hkk : ∀ j v, j ≠ 388 → fI (sFI (sAI (sA x n op a b c S) (x + 3) ml.length (nI n)) 388 (x + 1) (nI (ml.length + 1))) j v = fI (sA x n op a b c S) j v := by
      intro j v hj
      simp only [gs_FI, gs_AI]
      rw [if_neg (fun q => hj q.1)]
    refine done _ ((SX_sFR (by decide)).mpr ((SX_sFI _ _ _).mpr ((SX_sAI _ _ _).mpr hAX))) (Ag_tr hA (Ag_tr Ag_AI (Ag_tr (Ag_FI (by omega) (by omega)) (Ag_FR (by omega) (by omega))))) ?_ ?_ ?_ ?_ (rbl _ (by simp only [gs_FR]; rw [hkk 449 _ (by omega)]; exact hb0) ?_ ?_ ?_ ?_)
    · simp only [gs_FI, gs_FR, gs_AI]; exact hrow
    · intro i hi j j1 j2
      simp only [gs_FR]
      rw [hkk j _ (by omega)]; exact (hold i hi).2.1 j
    · simp only [gs_FR]
      rw [hkk 448 _ (by omega), hkk 449 _ (by omega), hkk 450 _ (by omega), hkk 451 _ (by omega), hkk 452 _ (by omega)]
      simp only [gs_FI, gs_AI]; exact ⟨hnew.1, hnew.2.1, hnew.2.2.1, hnew.2.2.2.1, hnew.2.2.2.2.1, hnew.2.2.2.2.2.1⟩
    · simp only [gs_FR]; rw [hkk 387 _ (by omega)]; exact hx1v.1
    · rw [hb]
      show fR (sFR _ 386 (x + 1) none) 386 (x + 1) = none
      simp only [gs_FR]; simp
    · rw [hb]
      intro i hi
      simp only [gs_FR]
      rw [hkk 454 _ (by omega), hkk 455 _ (by omega), hkk 456 _ (by omega)]
      exact fields i hi
    · rw [hml2, List.length_append]
      simp only [gs_FR, gs_FI]; simp
    · rw [hml2]
      intro r hr
      simp only [gs_FR, gs_FI, gs_AI]
      rw [List.length_append] at hr
      simp only [List.length_cons, List.length_nil] at hr
      by_cases e : r = ml.length
      · subst e
        rw [if_pos (by simp), List.getD_eq_getElem?_getD, List.getElem?_append_right (Nat.le_refl _)]
        simp
      · rw [if_neg (fun q => e q.2), hmk, List.getD_eq_getElem?_getD, List.getElem?_append_left (by omega), ← List.getD_eq_getElem?_getD]
        exact b4 r (by omega)
  · -- nothing
    refine done _ hAX hA hrow (fun i hi k _ _ => (hold i hi).2.1 k) ⟨hnew.1, hnew.2.1, hnew.2.2.1, hnew.2.2.2.1, hnew.2.2.2.2.1, hnew.2.2.2.2.2.1⟩ hx1v.1 (plain hk ?_)
    unfold b_st
    rw [hopn, hcn, if_neg ho]
    have ne : ∀ k : Int32, (26 ≤ k ∧ k ≤ 31) → ¬ op = k := by
      rintro k ⟨q1, q2⟩ rfl
      rcases hr with q | q
      · exact absurd q1 (Int32.not_le.mpr q)
      · exact absurd q2 (Int32.not_le.mpr q)
    rw [if_neg (ne 26 (by decide)), if_neg (ne 27 (by decide)), if_neg (ne 28 (by decide)), if_neg (ne 31 (by decide)), if_neg hk]
theorem sFI_rz (T : Sg) (n k a : Nat) (v : Int32) : sFI (rz T n) k a v = rz (sFI T k a v) n := rfl
theorem sFL_rz (T : Sg) (n k a : Nat) (v : Int64) : sFL (rz T n) k a v = rz (sFL T k a v) n := rfl
theorem sFR_rz (T : Sg) (n k a : Nat) (v : Option Nat) : sFR (rz T n) k a v = rz (sFR T k a v) n := rfl
theorem sAI_rz (T : Sg) (n k a : Nat) (v : Int32) : sAI (rz T n) k a v = rz (sAI T k a v) n := rfl
theorem sAL_rz (T : Sg) (n k a : Nat) (v : Int64) : sAL (rz T n) k a v = rz (sAL T k a v) n := rfl
theorem sAR_rz (T : Sg) (n k a : Nat) (v : Option Nat) : sAR (rz T n) k a v = rz (sAR T k a v) n := rfl
theorem mS_rz (m n : Nat) (op a b c : Int32) (T : Sg) (k : Nat) : mS m n op a b c (rz T k) = rz (mS m n op a b c T) k := by
  unfold mS
  rw [sAI_rz, sAI_rz, sAI_rz, sAI_rz, sFI_rz]
theorem p_step : PL_step RR := by
  intro x m op a b c S T hR hf
  obtain ⟨n, st, N, th, F, fa, ra, rb, rc, h⟩ := id hR
  have hS := h.1
  have hM := h.2.1
  have s2 := h.2.2.1.2.1
  have s3 := h.2.2.1.2.2.1
  have hle := h.2.2.1.1
  unfold wX10_step
  by_cases c0 : op < 0
  · rw [if_pos c0]
    intro n2 hn
    unfold wX11_step
    rw [if_pos c0]
    exact ⟨rfl, RR_rz2 hR⟩
  rw [if_neg c0]
  by_cases c1 : ¬ op ≤ 35
  · rw [if_neg c1]
    intro n2 hn
    unfold wX11_step
    rw [if_neg c0, if_neg c1]
    exact ⟨rfl, RR_rz2 hR⟩
  replace c1 := Decidable.not_not.mp c1
  rw [if_pos c1]
  refine ⟨x + 1, SX_r640 hS, SX_t1 hS, ?_⟩
  by_cases c2 : ¬ n < 2000
  · rw [if_neg (by rw [s2, show (2000 : Int32) = nI 2000 from rfl, n_lt (by omega) (by omega)]; exact c2)]
    intro n2 hn
    unfold wX11_step
    rw [if_neg c0, if_pos c1, if_pos (by show fI T 708 m = 2000; rw [s3, show n = 2000 by omega]; rfl)]
    exact ⟨rfl, RR_rz2 hR⟩
  replace c2 := Decidable.not_not.mp c2
  rw [if_pos (by rw [s2, show (2000 : Int32) = nI 2000 from rfl, n_lt (by omega) (by omega)]; exact c2)]
  have h0 : 0 ≤ op := Int32.not_lt.mp c0
  refine r_addAll h c2 hf (fun S' q1 q2 q3 q4 q5 q6 q7 => ?_)
  refine ⟨x + 1, SX_r640 q1, SX_t1 q1, fun n2 hn => ?_⟩
  refine r_mstep (m := m) (n := n) (T := rz T n2) hM s3 c2 c0 c1 ⟨q6, ?_⟩
  rw [mS_rz]
  exact RR_rz2 (n := n2) (r_stepFin h c2 h0 c1 hf q1 q2 q3 q4 q5 q6 q7)
