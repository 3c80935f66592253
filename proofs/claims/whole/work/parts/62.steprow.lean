/-! LOOK, PUT, LENGTH -/
theorem r_looksAt {m p ri j jc : Nat} {T : Sg} {Q : Int32 → Sg → Prop} (hM : MX m T) (hp : p < 2000) (hri : ri < 64) (hj : j < 64) (hjc : jc < 8) (e4 : aI T (m + 4) p &&& 7 = nI jc) (h1 : ri < 56 → Q 0 (sAL T (m + 12) jc (aL T (m + 18) (64 * ri + j)))) (h2 : 56 ≤ ri → Q 0 (sAI T (m + 13) jc (aL T (m + 18) (64 * ri + j)).toInt32)) : wX11_looksAt m (nI p) (nI ri) (nI j) T Q := by
  unfold wX11_looksAt
  rw [ix64']
  refine ⟨m + 18, MX_r724 hM, MX_t18 hM, by rw [MX_l18 hM]; exact vp_n (by omega) (by omega), ?_⟩
  rw [n_cl (by omega)]
  refine nm_e ?_
  have v4 : vp_in (nI p) (ln T (m + 4)) := by rw [MX_l4 hM]; exact vp_n hp (by omega)
  by_cases c : ri < 56
  · rw [if_pos (by rw [show (56 : Int32) = nI 56 from rfl, n_lt (by omega) (by omega)]; exact c)]
    refine ⟨m + 4, MX_r707 hM, MX_t4 hM, v4, m + 12, MX_r717 hM, MX_t12 hM, ?_⟩
    rw [n_cl (by omega), e4, n_cl (by omega)]
    exact ⟨by rw [MX_l12 hM]; exact vp_n hjc (by omega), nm_e (h1 c)⟩
  · rw [if_neg (by rw [show (56 : Int32) = nI 56 from rfl, n_lt (by omega) (by omega)]; exact c)]
    refine ⟨m + 4, MX_r707 hM, MX_t4 hM, v4, m + 13, MX_r718 hM, MX_t13 hM, ?_⟩
    rw [n_cl (by omega), e4, n_cl (by omega)]
    exact ⟨by rw [MX_l13 hM]; exact vp_n hjc (by omega), nm_e (h2 (by omega))⟩
theorem r_puts76 {m ri j s : Nat} {v : Int64} {T : Sg} {Q : Int32 → Sg → Prop} (hM : MX m T) (hri : ri < 64) (hj : j < 64) (hs : s < 8) (h : Q 0 (sAL T (m + 18) (64 * ri + j) (fitv s v))) : wX11_puts_b76 m (nI ri) (nI j) (nI s) v T Q := by
  unfold wX11_puts_b76
  refine r_fitted (m := m) hs ?_
  rw [ix64']
  refine ⟨m + 18, MX_r724 hM, MX_t18 hM, by rw [MX_l18 hM]; exact vp_n (by omega) (by omega), ?_⟩
  rw [n_cl (by omega)]
  exact nm_e h
theorem r_puts {m p ri j jc N : Nat} {T : Sg} {Q : Int32 → Sg → Prop} (hM : MX m T) (hp : p < 2000) (hri : ri < 64) (hj : j < 64) (hjc : jc < 8) (e4 : aI T (m + 4) p &&& 7 = nI jc) (hy : ∃ y, y ≤ 8000 ∧ aI T (m + 13) jc = nI y) (h1 : ri < 56 → Q 0 (sAL T (m + 18) (64 * ri + j) (fitv (ri / 8) (aL T (m + 12) jc)))) (h2 : 56 ≤ ri → (if aI T (m + 17) ri = 0 then Q 0 (sAL T (m + 18) (64 * ri + j) (aI T (m + 13) jc).toInt64) else if aI T (m + 13) jc ≤ 0 then Q 0 (sAL T (m + 18) (64 * ri + j) (aI T (m + 13) jc).toInt64) else if aI T (m + 14) (aI T (m + 13) jc).toNatClampNeg = 0 then Q 10 T else Q 0 (sAL T (m + 18) (64 * ri + j) (aI T (m + 13) jc).toInt64))) : wX11_puts m (nI p) (nI ri) (nI j) T Q := by
  obtain ⟨y, hy1, hy2⟩ := hy
  have v4 : vp_in (nI p) (ln T (m + 4)) := by rw [MX_l4 hM]; exact vp_n hp (by omega)
  unfold wX11_puts
  rw [row_sr ri hri]
  refine nm_e ⟨m + 4, MX_r707 hM, MX_t4 hM, v4, m + 12, MX_r717 hM, MX_t12 hM, ?_⟩
  rw [n_cl (by omega), e4, n_cl (by omega)]
  refine ⟨by rw [MX_l12 hM]; exact vp_n hjc (by omega), nm_e ?_⟩
  by_cases c : ri < 56
  · rw [if_neg (show ¬ nI (ri / 8) = 7 from n_ne (k := 7) (by omega) (by omega) (by omega))]
    exact r_puts76 hM hri hj (by omega) (h1 c)
  · have e7 : ri / 8 = 7 := by omega
    rw [e7, if_pos (show nI 7 = 7 from rfl)]
    have hh := h2 (by omega)
    refine ⟨v4, m + 13, MX_r718 hM, MX_t13 hM, by rw [MX_l13 hM]; exact vp_n hjc (by omega), nm_e ⟨m + 17, MX_r723 hM, MX_t17 hM, by rw [MX_l17 hM]; exact vp_n hri (by omega), ?_⟩⟩
    rw [n_cl (by omega)]
    have b71 : Q 0 (sAL T (m + 18) (64 * ri + j) (aI T (m + 13) jc).toInt64) → wX11_puts_b71 m (nI ri) (nI j) (nI 7) (aI T (m + 13) jc) T Q := by
      intro hQ
      unfold wX11_puts_b71
      exact nm_e (r_puts76 hM hri hj (by omega) hQ)
    by_cases c1 : aI T (m + 17) ri = 0
    · rw [if_pos c1] at hh ⊢; exact b71 hh
    rw [if_neg c1] at hh ⊢
    by_cases c2 : aI T (m + 13) jc ≤ 0
    · rw [if_pos c2] at hh ⊢; exact b71 hh
    rw [if_neg c2] at hh ⊢
    refine ⟨m + 14, MX_r719 hM, MX_t14 hM, by rw [MX_l14 hM, hy2]; exact vp_n (by omega) (by omega), ?_⟩
    by_cases c3 : aI T (m + 14) (aI T (m + 13) jc).toNatClampNeg = 0
    · rw [if_pos c3] at hh ⊢; exact hh
    · rw [if_neg c3] at hh ⊢; exact b71 hh
theorem step_row {x m n nn a : Nat} {st : Nat → Nat} {op oa ob oc : Nat → Int32} {N : Nat} {th ra rb rc : Nat → Nat} {F : Nat} {fa : Nat → Nat} {f : FrT} {L : List FrT} {p left took i : Nat} {S T0 : Sg} (h0 : TK x m n nn a st op oa ob oc N th ra rb rc F fa f L p left took S T0) (hi : op p = nI i) (i1 : 8 ≤ i) (i2 : i ≤ 10) : StepS x m n nn a st op oa ob oc N th ra rb rc F fa f L p left took S := by
  obtain ⟨hp, hn⟩ := TK_p h0
  obtain ⟨s1, s2, s3, s4, s5, s6, s7, s8, s9, s10, -⟩ := St_st h0.1.1 hp
  have hS := h0.1.1.1
  obtain ⟨ri, hri, er, es, el⟩ := row_of (oa p)
  obtain ⟨jb, hjb, ejb⟩ := and7_of (ob p)
  obtain ⟨jc, hjc, ejc⟩ := and7_of (oc p)
  generalize hX : (aL S (x + 5) jb).toInt32 = X
  have lt : ∀ k, k < 36 → k ≠ i → ¬ nI i = nI k := fun k hk h => n_ne (by omega) (by omega) (fun e => h e.symm)
  -- the class
  have cls : ∀ Q : Int32 → Sg → Prop, (if aR S (x + 7) ri = none then Q 6 S else if i = 10 then ∃ a28 : Nat, aR S (x + 7) ri = some a28 ∧ tg S a28 = 6 ∧ Q (-1) (sAL S (x + 5) jb (fI S 323 a28).toInt64) else ∃ a9 : Nat, aR S (x + 7) ri = some a9 ∧ tg S a9 = 6 ∧ wX5_has a9 X S (fun (r10 : Int32) (S11 : Sg) => (if r10 = 0 then Q (5 : Int32) S11 else (if ri / 8 = 7 then (if i = 8 then wX3_takeThing (x + 4) (aR S (x + 7) ri) X (fI S11 452 (st p)) S11 (fun (r26 : Int32) (S27 : Sg) => Q r26 S27) else wX3_putThing (x + 4) (aR S (x + 7) ri) X (fI S11 452 (st p)) S11 (fun (r24 : Int32) (S25 : Sg) => Q r24 S25)) else (if i = 8 then wX5_numberAt a9 X S11 (fun (r19 : Int64) (S20 : Sg) => wX3_setNumber (x + 4) (fI S11 452 (st p)) r19 S20 (fun (S22 : Sg) => Q (-1 : Int32) S22)) else wX3_numberOf (x + 4) (fI S11 452 (st p)) S11 (fun (r15 : Int64) (S16 : Sg) => wX5_putNumber a9 X r15 S16 (fun (S18 : Sg) => Q (-1 : Int32) S18))))))) → wX3_workStep (x + 4) (some (st p)) S Q := by
    intro Q hQ
    unfold wX3_workStep
    refine ⟨st p, rfl, s2, ?_⟩
    rw [s5, hi, if_pos (by rw [show (6 : Int32) = nI 6 from rfl, n_lt (by omega) (by omega)]; omega), if_neg (show ¬ nI i = 7 from lt 7 (by omega) (by omega)), if_neg (by rw [show (10 : Int32) = nI 10 from rfl, n_lt (by omega) (by omega)]; omega)]
    unfold wX3_workRow
    refine ⟨st p, rfl, s2, ?_⟩
    rw [s6, es]
    refine nm_e (r_rowOf hS (row_ix2 hri el) hri ?_)
    by_cases e : aR S (x + 7) ri = none
    · rw [if_pos e] at hQ ⊢; exact hQ
    rw [if_neg e] at hQ ⊢
    rw [s5, hi]
    by_cases c10 : i = 10
    · rw [if_pos c10] at hQ
      rw [c10, if_pos (show nI 10 = 10 from rfl), s7]
      obtain ⟨a28, w1, w2, w3⟩ := hQ
      exact ⟨a28, w1, w2, r_setNumber hS ejb hjb w3⟩
    rw [if_neg c10] at hQ
    rw [if_neg (show ¬ nI i = 10 from lt 10 (by omega) (by omega)), s7]
    refine r_intOf hS ejb hjb ?_
    rw [hX]
    obtain ⟨a9, w1, w2, w3⟩ := hQ
    refine ⟨a9, w1, w2, ?_⟩
    have hh : ∀ r, (if r = 0 then Q (5 : Int32) S else (if ri / 8 = 7 then (if i = 8 then wX3_takeThing (x + 4) (aR S (x + 7) ri) X (fI S 452 (st p)) S (fun (r26 : Int32) (S27 : Sg) => Q r26 S27) else wX3_putThing (x + 4) (aR S (x + 7) ri) X (fI S 452 (st p)) S (fun (r24 : Int32) (S25 : Sg) => Q r24 S25)) else (if i = 8 then wX5_numberAt a9 X S (fun (r19 : Int64) (S20 : Sg) => wX3_setNumber (x + 4) (fI S 452 (st p)) r19 S20 (fun (S22 : Sg) => Q (-1 : Int32) S22)) else wX3_numberOf (x + 4) (fI S 452 (st p)) S (fun (r15 : Int64) (S16 : Sg) => wX5_putNumber a9 X r15 S16 (fun (S18 : Sg) => Q (-1 : Int32) S18))))) → (if r = (0 : Int32) then Q (5 : Int32) S else (if nI (ri / 8) = (7 : Int32) then (if (fI S 449 (st p)) = (8 : Int32) then wX3_takeThing (x + 4) (aR S (x + 7) ri) X (fI S 452 (st p)) S (fun (r26 : Int32) (S27 : Sg) => Q r26 S27) else wX3_putThing (x + 4) (aR S (x + 7) ri) X (fI S 452 (st p)) S (fun (r24 : Int32) (S25 : Sg) => Q r24 S25)) else (if (fI S 449 (st p)) = (8 : Int32) then wX5_numberAt a9 X S (fun (r19 : Int64) (S20 : Sg) => wX3_setNumber (x + 4) (fI S 452 (st p)) r19 S20 (fun (S22 : Sg) => Q (-1 : Int32) S22)) else wX3_numberOf (x + 4) (fI S 452 (st p)) S (fun (r15 : Int64) (S16 : Sg) => wX5_putNumber a9 X r15 S16 (fun (S18 : Sg) => Q (-1 : Int32) S18))))) := by
      intro r w
      by_cases c0 : r = 0
      · rw [if_pos c0] at w ⊢; exact w
      rw [if_neg c0] at w ⊢
      rw [s5, hi]
      by_cases c7 : ri / 8 = 7
      · rw [if_pos c7] at w
        rw [c7, if_pos (show nI 7 = 7 from rfl)]
        by_cases c8 : i = 8
        · rw [if_pos c8] at w
          rw [c8, if_pos (show nI 8 = 8 from rfl)]; exact w
        · rw [if_neg c8] at w
          rw [if_neg (show ¬ nI i = 8 from lt 8 (by omega) (by omega))]; exact w
      · rw [if_neg c7] at w
        rw [if_neg (show ¬ nI (ri / 8) = 7 from n_ne (k := 7) (by omega) (by omega) c7)]
        by_cases c8 : i = 8
        · rw [if_pos c8] at w
          rw [c8, if_pos (show nI 8 = 8 from rfl)]; exact w
        · rw [if_neg c8] at w
          rw [if_neg (show ¬ nI i = 8 from lt 8 (by omega) (by omega))]; exact w
    unfold wX5_has at w3 ⊢
    by_cases d1 : X < 0
    · rw [if_pos d1] at w3 ⊢; exact hh 0 w3
    rw [if_neg d1] at w3 ⊢
    by_cases d2 : fI S 323 a9 ≤ X
    · rw [if_pos d2] at w3 ⊢; exact hh 0 w3
    · rw [if_neg d2] at w3 ⊢; exact hh 1 w3
  -- the reference
  have ref : ∀ T, TK x m n nn a st op oa ob oc N th ra rb rc F fa f L p left took S T → ∀ Q : Int32 → Sg → Prop, (if 0 ≤ aI T (m + 16) ri then (if i = 10 then Q 0 (sAL T (m + 12) jb (aI T (m + 16) ri).toInt64) else if X < 0 then Q 6 T else if X < aI T (m + 16) ri then (if i = 8 then wX11_looksAt m (nI p) (nI ri) X T (fun r S => Q r S) else wX11_puts m (nI p) (nI ri) X T (fun r S => Q r S)) else Q 6 T) else Q 7 T) → hB m (nI p) (op p) T Q := by
    intro T hT Q hQ
    have hM := hT.1.1.2.1
    obtain ⟨-, -, -, -, -, f1, f2, f3, f4⟩ := hT.1.1
    have v3 : vp_in (nI p) (ln T (m + 3)) := by rw [MX_l3 hM]; exact vp_n (by omega) (by omega)
    have v16 : vp_in (nI ri) (ln T (m + 16)) := by rw [MX_l16 hM]; exact vp_n hri (by omega)
    unfold hB
    rw [hi, if_pos (by rw [show (7 : Int32) = nI 7 from rfl, n_le (by omega) (by omega)]; omega), if_neg (by rw [show (14 : Int32) = nI 14 from rfl, n_le (by omega) (by omega)]; omega)]
    unfold wX11_rows
    refine ⟨m + 1, MX_r704 hM, MX_t1 hM, by rw [MX_l1 hM]; exact vp_n (by omega) (by omega), ?_⟩
    rw [n_cl (by omega), f1, hi]
    refine nm_e ?_
    rw [if_pos (by rw [show (10 : Int32) = nI 10 from rfl, n_le (by omega) (by omega)]; omega)]
    refine ⟨m + 2, MX_r705 hM, MX_t2 hM, by rw [MX_l2 hM]; exact vp_n (by omega) (by omega), ?_⟩
    rw [f2, er]
    refine nm_e ?_
    rw [if_neg (show ¬ nI i = 7 from lt 7 (by omega) (by omega)), n_cl (by omega)]
    refine ⟨m + 16, MX_r722 hM, MX_t16 hM, v16, ?_⟩
    by_cases c : 0 ≤ aI T (m + 16) ri
    · rw [if_pos c] at hQ ⊢
      by_cases c10 : i = 10
      · rw [if_pos c10] at hQ
        rw [c10, if_pos (show nI 10 = 10 from rfl)]
        refine ⟨m + 3, MX_r706 hM, MX_t3 hM, v3, v16, m + 12, MX_r717 hM, MX_t12 hM, ?_⟩
        rw [f3, ejb, n_cl (by omega)]
        exact ⟨by rw [MX_l12 hM]; exact vp_n hjb (by omega), nm_e hQ⟩
      rw [if_neg c10] at hQ
      rw [if_neg (show ¬ nI i = 10 from lt 10 (by omega) (by omega))]
      refine ⟨m + 3, MX_r706 hM, MX_t3 hM, v3, ?_⟩
      rw [f3]
      refine r_mIntOf hM ejb hjb ?_
      rw [← hT.1.2.1.2.1 jb hjb, hX]
      by_cases d1 : X < 0
      · rw [if_pos d1] at hQ ⊢; exact hQ
      rw [if_neg d1] at hQ ⊢
      refine ⟨m + 16, MX_r722 hM, MX_t16 hM, v16, ?_⟩
      by_cases d2 : X < aI T (m + 16) ri
      · rw [if_pos d2] at hQ ⊢
        by_cases c8 : i = 8
        · rw [if_pos c8] at hQ
          rw [c8, if_pos (show nI 8 = 8 from rfl)]; exact hQ
        · rw [if_neg c8] at hQ
          rw [if_neg (show ¬ nI i = 8 from lt 8 (by omega) (by omega))]; exact hQ
      · rw [if_neg d2] at hQ ⊢; exact hQ
    · rw [if_neg c] at hQ ⊢; exact hQ
  by_cases e : aR S (x + 7) ri = none
  · refine StepS_bad (k := 6) h0 hi (by omega) (by omega) (by omega) (fun Q hQ => cls Q (by rw [if_pos e]; exact hQ)) (fun T hT Q hQ => ref T hT Q ?_)
    rcases hT.1.2.1.2.2.2.1.1 ri hri with w | w
    · rw [w.2, if_neg (by decide)]; exact hQ
    · rw [e] at w; cases w.1
  have row : ∀ T, TK x m n nn a st op oa ob oc N th ra rb rc F fa f L p left took S T → aR S (x + 7) ri = some (ra ri) ∧ RRo1 m N th ri (ra ri) (rb ri) (rc ri) S T := by
    intro T hT
    rcases hT.1.2.1.2.2.2.1.1 ri hri with w | w
    · exact absurd w.1 e
    · exact ⟨w.1, w.2.2.2.2⟩
  obtain ⟨er1, r1, r2, r3, r4, r5, r6, ⟨P, P1, P2, -⟩, -, -, q10, q11⟩ := row T0 h0
  have rz : ∀ T, TK x m n nn a st op oa ob oc N th ra rb rc F fa f L p left took S T → aI T (m + 16) ri = nI P := by
    intro T hT
    obtain ⟨-, -, -, -, -, -, -, ⟨P', _, P2', P3'⟩, -⟩ := row T hT
    rw [P3', ← P2', P2]
  by_cases c10 : i = 10
  · refine StepS_num (v := (nI P).toInt64) h0 hi (by omega) (by omega) hjb (fun Q hQ => cls Q ?_) (fun T hT Q hQ => ref T hT Q ?_)
    · rw [if_neg e, if_pos c10]
      exact ⟨ra ri, er1, r1, by rw [P2]; exact hQ⟩
    · rw [rz T hT, if_pos (nI_pos' (by omega)), if_pos c10]; exact hQ
  by_cases d1 : X < 0
  · refine StepS_bad (k := 5) h0 hi (by omega) (by omega) (by omega) (fun Q hQ => cls Q ?_) (fun T hT Q hQ => ref T hT Q ?_)
    · rw [if_neg e, if_neg c10]
      refine ⟨ra ri, er1, r1, ?_⟩
      unfold wX5_has
      rw [if_pos d1]
      dsimp only
      rw [if_pos rfl]; exact hQ
    · rw [rz T hT, if_pos (nI_pos' (by omega)), if_neg c10, if_pos d1]; exact hQ
  by_cases d2 : nI P ≤ X
  · refine StepS_bad (k := 5) h0 hi (by omega) (by omega) (by omega) (fun Q hQ => cls Q ?_) (fun T hT Q hQ => ref T hT Q ?_)
    · rw [if_neg e, if_neg c10]
      refine ⟨ra ri, er1, r1, ?_⟩
      unfold wX5_has
      rw [if_neg d1, P2, if_pos d2]
      dsimp only
      rw [if_pos rfl]; exact hQ
    · rw [rz T hT, if_pos (nI_pos' (by omega)), if_neg c10, if_neg d1, if_neg (by rw [i_nlt]; exact d2)]; exact hQ
  obtain ⟨j, hj, eX⟩ := i_lt (b := P) (by omega) d1 d2
  subst eX
  have cl2 : ∀ Q : Int32 → Sg → Prop, (if ri / 8 = 7 then (if i = 8 then wX3_takeThing (x + 4) (some (ra ri)) (nI j) (oc p) S (fun (r26 : Int32) (S27 : Sg) => Q r26 S27) else wX3_putThing (x + 4) (some (ra ri)) (nI j) (oc p) S (fun (r24 : Int32) (S25 : Sg) => Q r24 S25)) else (if i = 8 then wX5_numberAt (ra ri) (nI j) S (fun (r19 : Int64) (S20 : Sg) => wX3_setNumber (x + 4) (oc p) r19 S20 (fun (S22 : Sg) => Q (-1 : Int32) S22)) else wX5_putNumber (ra ri) (nI j) (aL S (x + 5) jc) S (fun (S18 : Sg) => Q (-1 : Int32) S18))) → wX3_workStep (x + 4) (some (st p)) S Q := by
    intro Q hQ
    refine cls Q ?_
    rw [if_neg e, if_neg c10]
    refine ⟨ra ri, er1, r1, ?_⟩
    unfold wX5_has
    rw [if_neg d1, P2, if_neg d2]
    dsimp only
    rw [if_neg (by decide), er1, s8]
    by_cases c7 : ri / 8 = 7
    · rw [if_pos c7] at hQ ⊢; exact hQ
    · rw [if_neg c7] at hQ ⊢
      by_cases c8 : i = 8
      · rw [if_pos c8] at hQ ⊢; exact hQ
      · rw [if_neg c8] at hQ ⊢
        exact r_numberOf hS ejc hjc hQ
  have rf2 : ∀ T, TK x m n nn a st op oa ob oc N th ra rb rc F fa f L p left took S T → ∀ Q : Int32 → Sg → Prop, (if i = 8 then wX11_looksAt m (nI p) (nI ri) (nI j) T (fun r S => Q r S) else wX11_puts m (nI p) (nI ri) (nI j) T (fun r S => Q r S)) → hB m (nI p) (op p) T Q := by
    intro T hT Q hQ
    refine ref T hT Q ?_
    rw [rz T hT, if_pos (nI_pos' (by omega)), if_neg c10, if_neg d1, if_pos ((i_nle _ _).mp d2)]
    exact hQ
  have nj : ¬ nI j < 0 := n_neg (by omega)
  have n63 : ¬ nI 63 ≤ nI j := by rw [n_le (by omega) (by omega)]; omega
  have e4 : ∀ T, TK x m n nn a st op oa ob oc N th ra rb rc F fa f L p left took S T → aI T (m + 4) p &&& 7 = nI jc := fun T hT => by rw [hT.1.1.2.2.2.2.2.2.2.2]; exact ejc
  by_cases c7 : ri < 56
  · obtain ⟨u1, u2, -⟩ := q10 c7
    have c7' : ¬ ri / 8 = 7 := by omega
    have rv : ∀ T, TK x m n nn a st op oa ob oc N th ra rb rc F fa f L p left took S T → aL S (rb ri) j = aL T (m + 18) (64 * ri + j) := fun T hT => ((row T hT).2.2.2.2.2.2.2.2.2.2.1 c7).2.2 j (by omega)
    by_cases c8 : i = 8
    · refine StepS_num (v := aL S (rb ri) j) h0 hi (by omega) (by omega) hjc (fun Q hQ => cl2 Q ?_) (fun T hT Q hQ => rf2 T hT Q ?_)
      · rw [if_neg c7', if_pos c8]
        unfold wX5_numberAt
        rw [if_neg nj]
        refine ⟨rb ri, r3, r4, ?_⟩
        rw [u1, if_neg n63, n_cl (by omega)]
        exact ⟨vp_n (by omega) (by omega), r_setNumber hS ejc hjc hQ⟩
      · rw [if_pos c8]
        refine r_looksAt hT.1.1.2.1 (by omega) hri (by omega) hjc (e4 T hT) (fun _ => ?_) (fun w => by omega)
        rw [← rv T hT]; exact hQ
    · refine StepS_ok (S1 := sAL S (rb ri) j (fitv (ri / 8) (aL S (x + 5) jc))) h0 hi (by omega) (by omega) ?_ (fun Q hQ => cl2 Q ?_) (fun T hT => ⟨sAL T (m + 18) (64 * ri + j) (fitv (ri / 8) (aL S (x + 5) jc)), fun Q hQ => rf2 T hT Q ?_, Mid_putN hT.1 c7 e (by omega), ?_, ?_, ?_⟩)
      · simp only [gs_AL]; exact h0.2.1.2.1
      · rw [if_neg c7', if_neg c8]
        unfold wX5_putNumber
        rw [if_neg nj]
        refine ⟨rb ri, r3, r4, ?_⟩
        rw [u1, if_neg n63]
        refine r_narrowed (by omega) r2 ?_
        rw [u1, n_cl (by omega)]
        exact ⟨vp_n (by omega) (by omega), nm_e hQ⟩
      · rw [if_neg c8]
        have hha := hT.1.2.1.2.2.1 jc hjc
        have hN := hT.1.2.1.1.1
        refine r_puts (N := N) hT.1.1.2.1 (by omega) hri (by omega) hjc (e4 T hT) ?_ (fun _ => ?_) (fun w => by omega)
        · rcases hha with ⟨-, w⟩ | ⟨y, y1, y2, -, w⟩
          · exact ⟨0, by omega, w⟩
          · exact ⟨y, by omega, w⟩
        · rw [← hT.1.2.1.2.1 jc hjc]; exact hQ
      · simp only [gs_AL]; exact hT.2.1.1
      · simp only [gs_AL]; exact hT.2.1.2.2.2.2
      · simp only [gs_AL]; exact hT.2.1.2.2.2.1
  · have c7' : ri / 8 = 7 := by omega
    obtain ⟨u1, u2, -⟩ := q11 (by omega)
    have rv : ∀ T, TK x m n nn a st op oa ob oc N th ra rb rc F fa f L p left took S T → ∃ v : Int32, aL T (m + 18) (64 * ri + j) = v.toInt64 ∧ hrel N th (aR S (rc ri) j) v := fun T hT => ((row T hT).2.2.2.2.2.2.2.2.2.2.2 (by omega)).2.2 j (by omega)
    by_cases c8 : i = 8
    · refine StepS_ok (S1 := sAR S (x + 6) jc (aR S (rc ri) j)) (N' := N) (th' := th) (ra' := ra) (rb' := rb) (rc' := rc) h0 hi (by omega) (by omega) ?_ (fun Q hQ => cl2 Q ?_) (fun T hT => ?_)
      · simp only [gs_AR]; exact h0.2.1.2.1
      · rw [if_pos c7', if_pos c8]
        unfold wX3_takeThing
        refine ⟨ra ri, rfl, r1, ?_⟩
        unfold wX5_thingAt
        rw [if_neg nj]
        refine ⟨rc ri, r5, r6, ?_⟩
        rw [u2, if_neg n63, n_cl (by omega)]
        refine ⟨vp_n (by omega) (by omega), x + 6, SX_r193 hS, SX_t6 hS, ?_⟩
        rw [ejc, n_cl (by omega)]
        obtain ⟨v, -, v2⟩ := rv T0 h0
        exact ⟨by rw [SX_l6 hS]; exact vp_n hjc (by omega), hr_tg h0.1.2.1.1 v2, nm_e hQ⟩
      · obtain ⟨v, v1, v2⟩ := rv T hT
        refine ⟨sAI T (m + 13) jc v, fun Q hQ => rf2 T hT Q ?_, Mid_hand hT.1 hjc v2, ?_, ?_, ?_⟩
        · rw [if_pos c8]
          refine r_looksAt hT.1.1.2.1 (by omega) hri (by omega) hjc (e4 T hT) (fun w => by omega) (fun _ => ?_)
          rw [v1, i64_32]; exact hQ
        · simp only [gs_AR]; exact hT.2.1.1
        · simp only [gs_AR]; exact hT.2.1.2.2.2.2
        · simp only [gs_AI]; exact hT.2.1.2.2.2.1
    · -- PUT of a THING
      have hand := fun T (hT : TK x m n nn a st op oa ob oc N th ra rb rc F fa f L p left took S T) => hT.1.2.1.2.2.1 jc hjc
      have saw : ∀ T, TK x m n nn a st op oa ob oc N th ra rb rc F fa f L p left took S T → fI S 324 (ra ri) = aI T (m + 17) ri := fun T hT => (row T hT).2.2.2.2.2.2.2.2.1
      have rp : ∀ T, TK x m n nn a st op oa ob oc N th ra rb rc F fa f L p left took S T → ∀ Q : Int32 → Sg → Prop, (if aI T (m + 17) ri = 0 then Q 0 (sAL T (m + 18) (64 * ri + j) (aI T (m + 13) jc).toInt64) else if aI T (m + 13) jc ≤ 0 then Q 0 (sAL T (m + 18) (64 * ri + j) (aI T (m + 13) jc).toInt64) else if aI T (m + 14) (aI T (m + 13) jc).toNatClampNeg = 0 then Q 10 T else Q 0 (sAL T (m + 18) (64 * ri + j) (aI T (m + 13) jc).toInt64)) → hB m (nI p) (op p) T Q := by
        intro T hT Q hQ
        refine rf2 T hT Q ?_
        rw [if_neg c8]
        have hN := hT.1.2.1.1.1
        refine r_puts (N := N) hT.1.1.2.1 (by omega) hri (by omega) hjc (e4 T hT) ?_ (fun w => by omega) (fun _ => hQ)
        rcases hand T hT with ⟨-, w⟩ | ⟨y, y1, y2, -, w⟩
        · exact ⟨0, by omega, w⟩
        · exact ⟨y, by omega, w⟩
      have cp : ∀ Q : Int32 → Sg → Prop, (if fI S 324 (ra ri) = 0 then Q (-1) (sAR S (rc ri) j (aR S (x + 6) jc)) else if aR S (x + 6) jc = none then Q (-1) (sAR S (rc ri) j (aR S (x + 6) jc)) else ∃ q, aR S (x + 6) jc = some q ∧ (if fI S 512 q = 0 then Q 9 S else Q (-1) (sAR S (rc ri) j (aR S (x + 6) jc)))) → wX3_workStep (x + 4) (some (st p)) S Q := by
        intro Q hQ
        refine cl2 Q ?_
        rw [if_pos c7', if_neg c8]
        unfold wX3_putThing
        refine r_thingOf hS ejc hjc ⟨ra ri, rfl, r1, ?_⟩
        have pt : Q (-1) (sAR S (rc ri) j (aR S (x + 6) jc)) → wX5_putThing (ra ri) (nI j) (aR S (x + 6) jc) S (fun S6 => Q (-1) S6) := by
          intro w
          unfold wX5_putThing
          rw [if_neg nj]
          refine ⟨rc ri, r5, r6, ?_⟩
          rw [u2, if_neg n63, n_cl (by omega)]
          exact ⟨vp_n (by omega) (by omega), hr_tg h0.1.2.1.1 (hand T0 h0), nm_e w⟩
        by_cases k1 : fI S 324 (ra ri) = 0
        · rw [if_pos k1] at hQ ⊢; exact pt hQ
        rw [if_neg k1] at hQ ⊢
        by_cases k2 : aR S (x + 6) jc = none
        · rw [if_pos k2] at hQ ⊢; exact pt hQ
        rw [if_neg k2] at hQ ⊢
        obtain ⟨q, w1, w2⟩ := hQ
        refine ⟨q, w1, hr_tg h0.1.2.1.1 (hand T0 h0) q w1, ?_⟩
        by_cases k3 : fI S 512 q = 0
        · rw [if_pos k3] at w2 ⊢; exact w2
        · rw [if_neg k3] at w2 ⊢; exact pt w2
      by_cases bad : ¬ fI S 324 (ra ri) = 0 ∧ ∃ q, aR S (x + 6) jc = some q ∧ fI S 512 q = 0
      · obtain ⟨k1, q, k2, k3⟩ := bad
        refine StepS_bad (k := 9) h0 hi (by omega) (by omega) (by omega) (fun Q hQ => cp Q ?_) (fun T hT Q hQ => rp T hT Q ?_)
        · rw [if_neg k1, if_neg (by rw [k2]; intro z; cases z)]
          exact ⟨q, k2, by rw [if_pos k3]; exact hQ⟩
        · have hh := hand T hT
          rw [k2] at hh
          obtain ⟨y, y1, y2, y3, y4⟩ := hr_some hh
          have hN := hT.1.2.1.1.1
          have := (hT.1.2.1.1.2.2.1 y y1 y2).2.1
          rw [← y3, k3] at this
          rw [← saw T hT, if_neg k1, y4, if_neg (by rw [show (0 : Int32) = nI 0 from rfl, n_le (by omega) (by omega)]; omega), n_cl (by omega), if_pos this.symm]
          exact hQ
      · refine StepS_ok (S1 := sAR S (rc ri) j (aR S (x + 6) jc)) (N' := N) (th' := th) (ra' := ra) (rb' := rb) (rc' := rc) h0 hi (by omega) (by omega) ?_ (fun Q hQ => cp Q ?_) (fun T hT => ⟨sAL T (m + 18) (64 * ri + j) (aI T (m + 13) jc).toInt64, fun Q hQ => rp T hT Q ?_, Mid_putT hT.1 (by omega) hri e (by omega) (hand T hT), ?_, ?_, ?_⟩)
        · simp only [gs_AR]; exact h0.2.1.2.1
        · by_cases k1 : fI S 324 (ra ri) = 0
          · rw [if_pos k1]; exact hQ
          rw [if_neg k1]
          cases k2 : aR S (x + 6) jc with
          | none => rw [if_pos rfl]; rw [k2] at hQ; exact hQ
          | some q =>
            rw [if_neg (by intro z; cases z)]
            rw [k2] at hQ
            exact ⟨q, rfl, by rw [if_neg (fun k3 => bad ⟨k1, q, k2, k3⟩)]; exact hQ⟩
        · rw [← saw T hT]
          by_cases k1 : fI S 324 (ra ri) = 0
          · rw [if_pos k1]; exact hQ
          rw [if_neg k1]
          by_cases k4 : aI T (m + 13) jc ≤ 0
          · rw [if_pos k4]; exact hQ
          rw [if_neg k4]
          by_cases k5 : aI T (m + 14) (aI T (m + 13) jc).toNatClampNeg = 0
          · exfalso
            have hN := hT.1.2.1.1.1
            rcases hand T hT with ⟨-, w⟩ | ⟨y, y1, y2, y3, y4⟩
            · rw [w] at k4; exact k4 (by decide)
            · rw [y4, n_cl (by omega)] at k5
              have := (hT.1.2.1.1.2.2.1 y y1 y2).2.1
              exact bad ⟨k1, th y, y3, this.trans k5⟩
          · rw [if_neg k5]; exact hQ
        · simp only [gs_AR]; exact hT.2.1.1
        · simp only [gs_AR]; exact hT.2.1.2.2.2.2
        · simp only [gs_AL]; exact hT.2.1.2.2.2.1
