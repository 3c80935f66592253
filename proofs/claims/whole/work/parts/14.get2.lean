theorem and7_lit (j : Nat) (h : j < 8) : nI j &&& 7 = nI j := and7 h
theorem row_ix : ∀ a, a < 8 → ∀ b, b < 8 → (((nI a &&& 7) <<< ((3 : Int32) &&& 31)) ||| (nI b &&& 7)) = nI (8 * a + b) := by decide +kernel
theorem r_rowOf {x : Nat} {S : Sg} {i j : Int32} {k : Nat} {Q : Option Nat → Sg → Prop} (hS : SX x S) (h : (((i &&& 7) <<< ((3 : Int32) &&& 31)) ||| (j &&& 7)) = nI k) (hk : k < 64) (hq : Q (aR S (x + 7) k) S) : wX3_rowOf (x + 4) i j S Q := by
  refine ⟨x + 7, SX_r194 hS, SX_t7 hS, by rw [h, SX_l7 hS]; exact vp_n hk (by omega), ?_⟩
  rw [h, n_cl (by omega)]
  exact hq
theorem m8 {a b : Nat} (ha : a < 8) (hb : b < 8) : (8 : Int32) * nI a + nI b = nI (8 * a + b) := by
  rw [show (8 : Int32) = nI 8 from rfl, pk_mul, nI_add]
theorem lt7 {a : Nat} (h : a < 8) : ¬ (7 : Int32) < nI a := by
  rw [show (7 : Int32) = nI 7 from rfl, n_lt (by omega) (by omega)]; omega
theorem le7 {a : Nat} (h : a < 8) : nI a ≤ (7 : Int32) := by
  rw [show (7 : Int32) = nI 7 from rfl, n_le (by omega) (by omega)]; omega
theorem gt7 {i : Int32} (h : (8 : Int32) ≤ i) : (7 : Int32) < i := by
  rw [Int32.le_iff_toInt_le] at h
  rw [Int32.lt_iff_toInt_lt]
  have h1 : (7 : Int32).toInt = 7 := by decide
  have h2 : (8 : Int32).toInt = 8 := by decide
  omega
/-- the reference's size, of what is there or not -/
theorem r_size {m : Nat} {T : Sg} {i j : Int32} {Q : Int32 → Sg → Prop} (hM : MX m T) (h0 : (¬ ∃ a b : Nat, a < 8 ∧ b < 8 ∧ i = nI a ∧ j = nI b) → Q (-2) T) (h1 : ∀ a b : Nat, a < 8 → b < 8 → i = nI a → j = nI b → Q (aI T (m + 16) (8 * a + b)) T) : wX11_size m i j T Q := by
  unfold wX11_size
  by_cases c0 : i < 0
  · rw [if_pos c0]
    refine h0 (fun ⟨a, b, ha, hb, e1, e2⟩ => ?_)
    rw [e1] at c0
    exact n_neg (by omega) c0
  · rw [if_neg c0]
    by_cases c1 : (7 : Int32) < i
    · rw [if_pos c1]
      refine h0 (fun ⟨a, b, ha, hb, e1, e2⟩ => ?_)
      rw [e1] at c1
      exact lt7 ha c1
    · rw [if_neg c1]
      by_cases c2 : j < 0
      · rw [if_pos c2]
        refine h0 (fun ⟨a, b, ha, hb, e1, e2⟩ => ?_)
        rw [e2] at c2
        exact n_neg (by omega) c2
      · rw [if_neg c2]
        by_cases c3 : j ≤ 7
        · rw [if_pos c3]
          obtain ⟨a, ha, rfl⟩ := i_8 c0 (fun z => c1 (gt7 z))
          obtain ⟨b, hb, rfl⟩ := i_8 c2 (fun z => i_78.mpr z c3)
          refine ⟨m + 16, MX_r722 hM, MX_t16 hM, ?_, ?_⟩
          · rw [m8 ha hb, MX_l16 hM]; exact vp_n (by omega) (by omega)
          · rw [m8 ha hb, n_cl (by omega)]
            exact h1 a b ha hb rfl rfl
        · rw [if_neg c3]
          refine h0 (fun ⟨a, b, ha, hb, e1, e2⟩ => ?_)
          rw [e2] at c3
          exact c3 (le7 hb)
theorem p_size : PL_size RR := by
  intro x m i j S T hR hf
  obtain ⟨n, st, N, th, F, fa, ra, rb, rc, h⟩ := id hR
  obtain ⟨hS, hM, hSc, hBl, hTh, hNu, hHa, hRo, hGr, hFa, hRe, hTo⟩ := h
  refine r_isOfEight (fun hc => ?_) (fun a ha e => ?_)
  · rw [if_pos rfl]
    intro n2 hn
    refine r_size (m := m) (T := rz T n2) hM (fun _ => ⟨rfl, RR_rz2 hR⟩) (fun a b ha hb e1 e2 => ?_)
    subst e1
    rcases hc with c | c
    · exact absurd c (n_neg (by omega))
    · rw [show (8 : Int32) = nI 8 from rfl, n_le (by omega) (by omega)] at c; omega
  · rw [if_neg (by decide)]
    refine r_isOfEight (fun hc => ?_) (fun b hb e2 => ?_)
    · rw [if_pos rfl]
      intro n2 hn
      refine r_size (m := m) (T := rz T n2) hM (fun _ => ⟨rfl, RR_rz2 hR⟩) (fun a b ha hb e1 e2 => ?_)
      subst e2
      rcases hc with c | c
      · exact absurd c (n_neg (by omega))
      · rw [show (8 : Int32) = nI 8 from rfl, n_le (by omega) (by omega)] at c; omega
    · rw [if_neg (by decide)]
      subst e
      subst e2
      refine ⟨x + 4, SX_r641 hS, SX_t4 hS, r_rowOf hS (row_ix a ha b hb) (by omega) ?_⟩
      have fin : ∀ v : Int32, aI T (m + 16) (8 * a + b) = v → ∀ n2, (∀ q, tg T q ≠ 0 → q < n2) → wX11_size m (nI a) (nI b) (rz T n2) (fun r2 S2 => v = r2 ∧ RR x m S S2) := by
        intro v hv n2 hn
        refine r_size (m := m) (T := rz T n2) hM (fun hno => absurd ⟨a, b, ha, hb, rfl, rfl⟩ hno) (fun a' b' ha' hb' e1 e2 => ?_)
        have q1 := (n_eq (by omega) (by omega)).mp e1
        have q2 := (n_eq (by omega) (by omega)).mp e2
        subst q1; subst q2
        exact ⟨hv.symm, RR_rz2 hR⟩
      rcases hRo.1 (8 * a + b) (by omega) with ⟨o1, o2⟩ | ⟨o1, -, -, -, o2⟩
      · rw [if_pos o1]
        exact fin _ o2
      · rw [if_neg (by rw [o1]; exact fun z => by cases z)]
        obtain ⟨t1, -, -, -, -, -, ⟨p, p1, p2, p3⟩, -⟩ := o2
        refine ⟨ra (8 * a + b), o1, t1, ?_⟩
        rw [p2]
        exact fin _ p3
theorem p_grid : PL_grid RR := by
  intro x m i j S T hR hf
  obtain ⟨n, st, N, th, F, fa, ra, rb, rc, h⟩ := id hR
  obtain ⟨hS, hM, hSc, hBl, hTh, hNu, hHa, hRo, hGr, hFa, hRe, hTo⟩ := h
  obtain ⟨g1, g2, ⟨g, p, k1, k2, k3, k4, k5, k6, k7⟩, g8⟩ := hGr
  refine ⟨x + 4, SX_r641 hS, SX_t4 hS, x + 8, SX_r195 hS, SX_t8 hS, ?_⟩
  have bad : ((fI T 725 m = 0 ∨ i < 0 ∨ nI g ≤ i ∨ j < 0 ∨ nI p ≤ j)) → ∀ n2, (∀ q, tg T q ≠ 0 → q < n2) → wX11_grid m i j (rz T n2) (fun r2 S2 => (0 : Int32) = r2 ∧ RR x m S S2) := by
    intro hb n2 hn
    unfold wX11_grid
    by_cases c0 : fI T 725 m = 0
    · rw [if_pos (show fI (rz T n2) 725 m = 0 from c0)]; exact ⟨rfl, RR_rz2 hR⟩
    · rw [if_neg (show ¬ fI (rz T n2) 725 m = 0 from c0)]
      by_cases c1 : i < 0
      · rw [if_pos c1]; exact ⟨rfl, RR_rz2 hR⟩
      · rw [if_neg c1]
        by_cases c2 : nI g ≤ i
        · rw [if_pos (show fI (rz T n2) 726 m ≤ i from by show fI T 726 m ≤ i; rw [k4]; exact c2)]; exact ⟨rfl, RR_rz2 hR⟩
        · rw [if_neg (show ¬ fI (rz T n2) 726 m ≤ i from by show ¬ fI T 726 m ≤ i; rw [k4]; exact c2)]
          by_cases c3 : j < 0
          · rw [if_pos c3]; exact ⟨rfl, RR_rz2 hR⟩
          · rw [if_neg c3]
            by_cases c4 : nI p ≤ j
            · rw [if_pos (show fI (rz T n2) 727 m ≤ j from by show fI T 727 m ≤ j; rw [k6]; exact c4)]; exact ⟨rfl, RR_rz2 hR⟩
            · exfalso
              rcases hb with q | q | q | q | q <;> contradiction
  unfold wX2_has
  by_cases c1 : i < 0
  · rw [if_pos c1]; dsimp only; rw [if_pos rfl]; exact bad (Or.inr (Or.inl c1))
  · rw [if_neg c1]
    by_cases c2 : nI g ≤ i
    · rw [if_pos (by rw [k3]; exact c2)]; dsimp only; rw [if_pos rfl]; exact bad (Or.inr (Or.inr (Or.inl c2)))
    · rw [if_neg (by rw [k3]; exact c2)]
      by_cases c3 : j < 0
      · rw [if_pos c3]; dsimp only; rw [if_pos rfl]; exact bad (Or.inr (Or.inr (Or.inr (Or.inl c3))))
      · rw [if_neg c3]
        by_cases c4 : nI p ≤ j
        · rw [if_pos (by rw [k5]; exact c4)]; dsimp only; rw [if_pos rfl]; exact bad (Or.inr (Or.inr (Or.inr (Or.inr c4))))
        · rw [if_neg (by rw [k5]; exact c4)]
          dsimp only
          rw [if_neg (by decide)]
          obtain ⟨a, ha, rfl⟩ := i_lt (b := g) (by omega) c1 c2
          obtain ⟨b, hb, rfl⟩ := i_lt (b := p) (by omega) c3 c4
          have h0 : ¬ fI T 725 m = 0 := fun z => by have := k7 z; omega
          refine ⟨x + 4, SX_r641 hS, SX_t4 hS, x + 8, SX_r195 hS, SX_t8 hS, ?_⟩
          intro y1 hy
          have e1 : y1 = nI (a * 7 + b) := by rw [hy, show (7 : Int32) = nI 7 from rfl, pk_mul, nI_add]
          rw [e1, if_neg (n_neg (by omega))]
          refine ⟨x + 9, SX_r128 hS, SX_t9 hS, ?_⟩
          rw [if_neg (by rw [SX_l9 hS, n_le (by omega) (by omega)]; omega)]
          refine ⟨by rw [SX_l9 hS]; exact vp_n (by omega) (by omega), ?_⟩
          intro n2 hn
          unfold wX11_grid
          rw [if_neg (show ¬ fI (rz T n2) 725 m = 0 from h0), if_neg c1, if_neg (show ¬ fI (rz T n2) 726 m ≤ nI a from by show ¬ fI T 726 m ≤ nI a; rw [k4]; exact c2), if_neg c3, if_neg (show ¬ fI (rz T n2) 727 m ≤ nI b from by show ¬ fI T 727 m ≤ nI b; rw [k6]; exact c4)]
          have e2 : (8 : Int32) * nI a + nI b = nI (8 * a + b) := m8 (by omega) (by omega)
          refine ⟨m + 19, MX_r728 hM, MX_t19 hM, by rw [e2]; show vp_in _ (ln T (m + 19)); rw [MX_l19 hM]; exact vp_n (by omega) (by omega), ?_, RR_rz2 hR⟩
          rw [e2, n_cl (by omega), n_cl (by omega)]
          exact g8 a b (by omega) (by omega)
/-- the failures' chain: as many as its CAUSES are -/
theorem hrel_lt {N : Nat} {th : Nat → Nat} {o : Option Nat} {v : Int32} (hN : N ≤ 8000) (h : hrel N th o v) : (o = none ∧ v = 0 ∧ v ≤ 0) ∨ ∃ j, 1 ≤ j ∧ j ≤ N ∧ o = some (th j) ∧ v = nI j ∧ ¬ v ≤ 0 := by
  rcases h with ⟨h1, h2⟩ | ⟨j, h1, h2, h3, h4⟩
  · exact Or.inl ⟨h1, h2, by rw [h2]; decide⟩
  · exact Or.inr ⟨j, h1, h2, h3, h4, by rw [h4]; exact nI_nle (by omega) (by omega)⟩
theorem hrel_mono {N N' : Nat} {th : Nat → Nat} {o : Option Nat} {v : Int32} (h : N ≤ N') (hr : hrel N th o v) : hrel N' th o v := by
  rcases hr with q | ⟨j, h1, h2, h3, h4⟩
  · exact Or.inl q
  · exact Or.inr ⟨j, h1, Nat.le_trans h2 h, h3, h4⟩
theorem p_wipe : PL_wipe RR := by
  intro x m S T hR hf
  obtain ⟨n, st, N, th, F, fa, ra, rb, rc, h⟩ := id hR
  obtain ⟨hS, hM, hSc, hBl, hTh, hNu, hHa, hRo, hGr, hFa, hRe, hTo⟩ := h
  refine ⟨x + 1, SX_r640 hS, SX_t1 hS, ?_⟩
  rintro y2 rfl S1 rfl S2 rfl S3 rfl n2 hn y3 rfl T2 rfl
  refine ⟨by show fI S 387 (x + 1) = fI T 708 m; rw [hSc.2.1, hSc.2.2.1], 0, st, N, th, F, fa, ra, rb, rc, ?_, hM, ⟨by omega, ?_, ?_, fun i hi => absurd hi (by omega), fun i j hi => absurd hi (by omega)⟩, ⟨by simp only [gs_FR, gs_FI]; simpa using hBl.1, ?_, fun i hi => absurd hi (by omega), ?_, fun r hr => absurd hr (by show ¬ r < 0; omega)⟩, hTh, hNu, hHa, hRo, hGr, hFa, hRe, hTo⟩
  · exact (SX_sFR (by decide)).mpr hS
  · simp only [gs_FR, gs_FI]; simp [nI_0]
  · simp only [gs_FI]; simp [nI_0]
  · show (fR (sFR _ 386 (x + 1) none) 386 (x + 1)) = none
    simp only [gs_FR]; simp
  · simp only [gs_FR, gs_FI]; simp [mk_l, nI_0]
