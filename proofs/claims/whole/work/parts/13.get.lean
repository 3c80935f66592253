/-! the calls that only tell -/
theorem RA_he {x m n : Nat} {st : Nat → Nat} {N : Nat} {th : Nat → Nat} {F : Nat} {fa ra rb rc : Nat → Nat} {S T : Sg} (h : RA x m n st N th F fa ra rb rc S T) : RSc x m n st S T ∧ RBl x m n st S T ∧ RTh m N th S T ∧ RNu x m S T ∧ RHa x m N th S T ∧ RRo x m N th ra rb rc S T ∧ RGr x m S T ∧ RFa m F fa S T ∧ RRe x m F fa S T ∧ RTo x m N S T := h.2.2
theorem vp_n {n N : Nat} (h : n < N) (hN : N < 2147483648) : vp_in (nI n) N := vp_in_nI h (by omega)
theorem p_kind : PL_kind RR := by
  intro x m S T hR hf
  obtain ⟨n, st, N, th, F, fa, ra, rb, rc, h⟩ := id hR
  obtain ⟨hS, hM, hSc, hBl, hTh, hNu, hHa, hRo, hGr, hFa, hRe, hTo⟩ := h
  obtain ⟨e1, e2, e3, -⟩ := hRe
  refine ⟨x + 10, SX_r642 hS, SX_t10 hS, ?_⟩
  rcases e3 with ⟨o1, o2⟩ | ⟨j, j1, j2, o1, o2⟩
  · rw [if_pos o1]
    intro n2 hn
    show (if fI T 752 m = 0 then _ else _)
    rw [if_pos o2]
    exact ⟨rfl, RR_rz2 hR⟩
  · obtain ⟨f1, f2, f3, f4⟩ := hFa.2.2 j j1 j2
    have hF := hFa.1
    rw [if_neg (by rw [o1]; exact fun z => by cases z)]
    refine ⟨fa j, o1, f1, fun n2 hn => ?_⟩
    show (if fI T 752 m = 0 then _ else _)
    rw [if_neg (by rw [o2]; exact nI_ne0 (by omega) (by omega))]
    refine ⟨m + 28, MX_r743 hM, MX_t28 hM, ?_, ?_⟩
    · show vp_in (fI T 752 m) (ln T (m + 28))
      rw [o2, MX_l28 hM]
      exact vp_n (by omega) (by omega)
    · refine ⟨?_, RR_rz2 hR⟩
      show _ = aI T (m + 28) (fI T 752 m).toNatClampNeg
      rw [o2, n_cl (by omega), f2]
theorem p_out : PL_out RR := by
  intro x m i S T hR hf
  obtain ⟨n, st, N, th, F, fa, ra, rb, rc, h⟩ := id hR
  obtain ⟨hS, hM, hSc, hBl, hTh, hNu, hHa, hRo, hGr, hFa, hRe, hTo⟩ := h
  obtain ⟨e1, e2, e3, ⟨o, o1, o2, o3, o4⟩, -⟩ := hRe
  unfold wX10_out wX11_out
  by_cases c0 : i < 0
  · rw [if_pos c0]
    intro n2 hn
    rw [if_pos c0]
    exact ⟨rfl, RR_rz2 hR⟩
  · rw [if_neg c0]
    refine ⟨x + 10, SX_r642 hS, SX_t10 hS, ?_⟩
    by_cases c1 : nI o ≤ i
    · rw [if_pos (by rw [o2]; exact c1)]
      intro n2 hn
      rw [if_neg c0, if_pos (by show fI T 754 m ≤ i; rw [o3]; exact c1)]
      exact ⟨rfl, RR_rz2 hR⟩
    · obtain ⟨j, j1, rfl⟩ := i_lt (by omega) c0 c1
      rw [if_neg (by rw [o2]; exact c1), if_neg (by rw [show (500 : Int32) = nI 500 from rfl, n_le (by omega) (by omega)]; omega)]
      refine ⟨x + 11, SX_r256 hS, SX_t11 hS, by rw [SX_l11 hS]; exact vp_n (by omega) (by omega), fun n2 hn => ?_⟩
      rw [if_neg c0, if_neg (by show ¬ fI T 754 m ≤ _; rw [o3]; exact c1)]
      refine ⟨m + 30, MX_r753 hM, MX_t30 hM, by show vp_in _ (ln T (m + 30)); rw [MX_l30 hM]; exact vp_n (by omega) (by omega), ?_, RR_rz2 hR⟩
      rw [n_cl (by omega)]
      exact o4 j j1
theorem p_finished : PL_finished RR := by
  intro x m i S T hR hf
  obtain ⟨n, st, N, th, F, fa, ra, rb, rc, h⟩ := id hR
  obtain ⟨hS, hM, hSc, hBl, hTh, hNu, hHa, hRo, hGr, hFa, hRe, hTo⟩ := h
  obtain ⟨e1, e2, e3, e4, ⟨o, o1, o2, o3, o4⟩, -⟩ := hRe
  unfold wX10_finished wX11_finished
  by_cases c0 : i < 0
  · rw [if_pos c0]
    intro n2 hn
    rw [if_pos c0]
    exact ⟨rfl, RR_rz2 hR⟩
  · rw [if_neg c0]
    refine ⟨x + 10, SX_r642 hS, SX_t10 hS, ?_⟩
    by_cases c1 : nI o ≤ i
    · rw [if_pos (by rw [o2]; exact c1)]
      intro n2 hn
      rw [if_neg c0, if_pos (by show fI T 756 m ≤ i; rw [o3]; exact c1)]
      exact ⟨rfl, RR_rz2 hR⟩
    · obtain ⟨j, j1, rfl⟩ := i_lt (by omega) c0 c1
      rw [if_neg (by rw [o2]; exact c1), if_neg (by rw [show (1000 : Int32) = nI 1000 from rfl, n_le (by omega) (by omega)]; omega)]
      refine ⟨x + 12, SX_r257 hS, SX_t12 hS, by rw [SX_l12 hS]; exact vp_n (by omega) (by omega), fun n2 hn => ?_⟩
      rw [if_neg c0, if_neg (by show ¬ fI T 756 m ≤ _; rw [o3]; exact c1)]
      refine ⟨m + 31, MX_r755 hM, MX_t31 hM, by show vp_in _ (ln T (m + 31)); rw [MX_l31 hM]; exact vp_n (by omega) (by omega), ?_, RR_rz2 hR⟩
      rw [n_cl (by omega)]
      exact o4 j j1
theorem i_8 {i : Int32} (c0 : ¬ i < 0) (c1 : ¬ 8 ≤ i) : ∃ j : Nat, j < 8 ∧ i = nI j := i_lt (b := 8) (by omega) c0 c1
theorem r_isOfEight {i : Int32} {S : Sg} {Q : Int32 → Sg → Prop} (h0 : (i < 0 ∨ 8 ≤ i) → Q 0 S) (h1 : ∀ j : Nat, j < 8 → i = nI j → Q 1 S) : wX10_isOfEight i S Q := by
  unfold wX10_isOfEight
  by_cases c0 : i < 0
  · rw [if_pos c0]; exact h0 (Or.inl c0)
  · rw [if_neg c0]
    by_cases c1 : (8 : Int32) ≤ i
    · rw [if_pos c1]; exact h0 (Or.inr c1)
    · rw [if_neg c1]
      obtain ⟨j, h, e⟩ := i_8 c0 c1
      exact h1 j h e
theorem and7 {j : Nat} (h : j < 8) : nI j &&& 7 = nI j := by
  have : ∀ j, j < 8 → nI j &&& 7 = nI j := by decide +kernel
  exact this j h
theorem and7_of (i : Int32) : ∃ j : Nat, j < 8 ∧ i &&& 7 = nI j := pk_andE i 3 (by decide)
/-- House.numberOf -/
theorem r_numberOf {x : Nat} {S : Sg} {i : Int32} {j : Nat} {Q : Int64 → Sg → Prop} (hS : SX x S) (h : i &&& 7 = nI j) (hj : j < 8) (hq : Q (aL S (x + 5) j) S) : wX3_numberOf (x + 4) i S Q := by
  refine ⟨x + 5, SX_r192 hS, SX_t5 hS, by rw [h, SX_l5 hS]; exact vp_n hj (by omega), ?_⟩
  rw [h, n_cl (by omega)]
  exact hq
theorem r_thingOf {x : Nat} {S : Sg} {i : Int32} {j : Nat} {Q : Option Nat → Sg → Prop} (hS : SX x S) (h : i &&& 7 = nI j) (hj : j < 8) (hq : Q (aR S (x + 6) j) S) : wX3_thingOf (x + 4) i S Q := by
  refine ⟨x + 6, SX_r193 hS, SX_t6 hS, by rw [h, SX_l6 hS]; exact vp_n hj (by omega), ?_⟩
  rw [h, n_cl (by omega)]
  exact hq
theorem i_78 {i : Int32} : ¬ i ≤ 7 ↔ 8 ≤ i := by
  rw [Int32.le_iff_toInt_le, Int32.le_iff_toInt_le]
  have h1 : (7 : Int32).toInt = 7 := by decide
  have h2 : (8 : Int32).toInt = 8 := by decide
  omega
theorem p_number : PL_number RR := by
  intro x m i S T hR hf
  obtain ⟨n, st, N, th, F, fa, ra, rb, rc, h⟩ := id hR
  obtain ⟨hS, hM, hSc, hBl, hTh, hNu, hHa, hRo, hGr, hFa, hRe, hTo⟩ := h
  refine r_isOfEight (fun hc => ?_) (fun j hj e => ?_)
  · rw [if_pos rfl]
    intro n2 hn
    unfold wX11_number
    rcases hc with c0 | c1
    · rw [if_pos c0]; exact ⟨rfl, RR_rz2 hR⟩
    · by_cases c0 : i < 0
      · rw [if_pos c0]; exact ⟨rfl, RR_rz2 hR⟩
      · rw [if_neg c0, if_pos c1]; exact ⟨rfl, RR_rz2 hR⟩
  · subst e
    rw [if_neg (by decide)]
    refine ⟨x + 4, SX_r641 hS, SX_t4 hS, r_numberOf hS (and7 hj) hj (fun n2 hn => ?_)⟩
    unfold wX11_number
    rw [if_neg (n_neg (by omega)), if_neg (by rw [show (8 : Int32) = nI 8 from rfl, n_le (by omega) (by omega)]; omega)]
    refine ⟨m + 12, MX_r717 hM, MX_t12 hM, by show vp_in _ (ln T (m + 12)); rw [MX_l12 hM]; exact vp_n hj (by omega), ?_, RR_rz2 hR⟩
    rw [n_cl (by omega)]
    exact hNu j hj
theorem p_hand : PL_hand RR := by
  intro x m i S T hR hf
  obtain ⟨n, st, N, th, F, fa, ra, rb, rc, h⟩ := id hR
  obtain ⟨hS, hM, hSc, hBl, hTh, hNu, hHa, hRo, hGr, hFa, hRe, hTo⟩ := h
  refine r_isOfEight (fun hc => ?_) (fun j hj e => ?_)
  · rw [if_pos rfl]
    intro n2 hn
    unfold wX11_hand
    rcases hc with c0 | c1
    · rw [if_pos c0]; exact ⟨rfl, RR_rz2 hR⟩
    · by_cases c0 : i < 0
      · rw [if_pos c0]; exact ⟨rfl, RR_rz2 hR⟩
      · rw [if_neg c0, if_neg (i_78.mpr c1)]; exact ⟨rfl, RR_rz2 hR⟩
  · subst e
    rw [if_neg (by decide)]
    refine ⟨x + 4, SX_r641 hS, SX_t4 hS, r_thingOf hS (and7 hj) hj ?_⟩
    have hN := hTh.1
    rcases hHa j hj with ⟨o1, o2⟩ | ⟨k, k1, k2, o1, o2⟩
    · rw [o1]
      show (if (none : Option Nat) = none then _ else _)
      rw [if_pos rfl]
      intro n2 hn
      unfold wX11_hand
      rw [if_neg (n_neg (by omega)), if_pos (by rw [show (7 : Int32) = nI 7 from rfl, n_le (by omega) (by omega)]; omega)]
      refine ⟨m + 13, MX_r718 hM, MX_t13 hM, by show vp_in _ (ln T (m + 13)); rw [MX_l13 hM]; exact vp_n hj (by omega), ?_⟩
      rw [if_pos (by show aI T (m + 13) _ = 0; rw [n_cl (by omega)]; exact o2)]
      exact ⟨rfl, RR_rz2 hR⟩
    · obtain ⟨t1, t2, t3, t4⟩ := hTh.2.2.1 k k1 k2
      rw [o1]
      show (if (some (th k) : Option Nat) = none then _ else _)
      rw [if_neg (fun z => by cases z)]
      refine ⟨th k, rfl, t1, fun n2 hn => ?_⟩
      unfold wX11_hand
      rw [if_neg (n_neg (by omega)), if_pos (by rw [show (7 : Int32) = nI 7 from rfl, n_le (by omega) (by omega)]; omega)]
      refine ⟨m + 13, MX_r718 hM, MX_t13 hM, by show vp_in _ (ln T (m + 13)); rw [MX_l13 hM]; exact vp_n hj (by omega), ?_⟩
      have e2 : aI (rz T n2) (m + 13) (nI j).toNatClampNeg = nI k := by rw [n_cl (by omega)]; exact o2
      rw [e2, if_neg (nI_ne0 (by omega) (by omega))]
      refine ⟨by show vp_in _ (ln T (m + 13)); rw [MX_l13 hM]; exact vp_n hj (by omega), m + 14, MX_r719 hM, MX_t14 hM, by show vp_in _ (ln T (m + 14)); rw [MX_l14 hM]; exact vp_n (by omega) (by omega), ?_, RR_rz2 hR⟩
      rw [n_cl (by omega)]
      exact t2
theorem p_mark : PL_mark RR := by
  intro x m i S T hR hf
  obtain ⟨n, st, N, th, F, fa, ra, rb, rc, h⟩ := id hR
  obtain ⟨hS, hM, hSc, hBl, hTh, hNu, hHa, hRo, hGr, hFa, hRe, hTo⟩ := h
  refine r_isOfEight (fun hc => ?_) (fun j hj e => ?_)
  · rw [if_pos rfl]
    intro n2 hn
    unfold wX11_mark
    rcases hc with c0 | c1
    · rw [if_pos c0]; exact ⟨rfl, RR_rz2 hR⟩
    · by_cases c0 : i < 0
      · rw [if_pos c0]; exact ⟨rfl, RR_rz2 hR⟩
      · rw [if_neg c0, if_pos c1]; exact ⟨rfl, RR_rz2 hR⟩
  · subst e
    rw [if_neg (by decide)]
    refine ⟨x + 4, SX_r641 hS, SX_t4 hS, r_thingOf hS (and7 hj) hj ?_⟩
    have hN := hTh.1
    rcases hHa j hj with ⟨o1, o2⟩ | ⟨k, k1, k2, o1, o2⟩
    · rw [o1, if_pos rfl]
      intro n2 hn
      unfold wX11_mark
      rw [if_neg (n_neg (by omega)), if_neg (by rw [show (8 : Int32) = nI 8 from rfl, n_le (by omega) (by omega)]; omega)]
      refine ⟨m + 13, MX_r718 hM, MX_t13 hM, by show vp_in _ (ln T (m + 13)); rw [MX_l13 hM]; exact vp_n hj (by omega), ?_⟩
      rw [if_pos (by show aI T (m + 13) _ ≤ 0; rw [n_cl (by omega), o2]; decide)]
      exact ⟨rfl, RR_rz2 hR⟩
    · obtain ⟨t1, t2, t3, t4⟩ := hTh.2.2.1 k k1 k2
      rw [o1, if_neg (fun z => by cases z)]
      refine ⟨th k, rfl, t1, fun n2 hn => ?_⟩
      unfold wX11_mark
      rw [if_neg (n_neg (by omega)), if_neg (by rw [show (8 : Int32) = nI 8 from rfl, n_le (by omega) (by omega)]; omega)]
      refine ⟨m + 13, MX_r718 hM, MX_t13 hM, by show vp_in _ (ln T (m + 13)); rw [MX_l13 hM]; exact vp_n hj (by omega), ?_⟩
      have e2 : aI (rz T n2) (m + 13) (nI j).toNatClampNeg = nI k := by rw [n_cl (by omega)]; exact o2
      rw [e2, if_neg (nI_nle (by omega) (by omega))]
      refine ⟨by show vp_in _ (ln T (m + 13)); rw [MX_l13 hM]; exact vp_n hj (by omega), m + 15, MX_r720 hM, MX_t15 hM, by show vp_in _ (ln T (m + 15)); rw [MX_l15 hM]; exact vp_n (by omega) (by omega), ?_, RR_rz2 hR⟩
      rw [n_cl (by omega)]
      exact t3
