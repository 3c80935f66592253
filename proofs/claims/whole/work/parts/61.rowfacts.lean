/-! ROWS: where they lie -/
theorem sr_7 (a : Int32) : (a >>> ((3 : Int32) &&& 31)) &&& 7 = nI (a.toBitVec.toNat % 2 ^ 6 / 8) := by
  rw [pk_and (a >>> ((3 : Int32) &&& 31)) 3 (by decide)]
  have h1 : (a >>> ((3 : Int32) &&& 31)).toBitVec.toInt = a.toBitVec.toInt / 8 := by
    show (a.toBitVec.sshiftRight' (((3 : Int32) &&& 31).toBitVec.smod 32)).toInt = _
    rw [show (((3 : Int32) &&& 31).toBitVec.smod 32) = 3#32 from by decide +kernel]
    show (a.toBitVec.sshiftRight 3).toInt = _
    rw [BitVec.toInt_sshiftRight, Int.shiftRight_eq_div_pow]
    rfl
  rw [BitVec.toInt_eq_toNat_bmod, BitVec.toInt_eq_toNat_bmod] at h1
  have h2 := a.toBitVec.isLt
  have h3 := (a >>> ((3 : Int32) &&& 31)).toBitVec.isLt
  refine congrArg nI ?_
  generalize (a >>> ((3 : Int32) &&& 31)).toBitVec.toNat = M at *
  generalize a.toBitVec.toNat = K at *
  simp only [Int.bmod_def] at h1
  omega
theorem row_of (a : Int32) : ∃ ri : Nat, ri < 64 ∧ a &&& 63 = nI ri ∧ (a >>> ((3 : Int32) &&& 31)) &&& 7 = nI (ri / 8) ∧ a &&& 7 = nI (ri % 8) := by
  refine ⟨a.toBitVec.toNat % 2 ^ 6, by omega, pk_and a 6 (by decide), sr_7 a, ?_⟩
  rw [pk_and a 3 (by decide)]
  refine congrArg nI ?_
  omega
theorem row_ix2 {ri : Nat} {a : Int32} (h : ri < 64) (ha : a &&& 7 = nI (ri % 8)) : (((nI (ri / 8) &&& 7) <<< ((3 : Int32) &&& 31)) ||| (a &&& 7)) = nI ri := by
  have := row_ix (ri / 8) (by omega) (ri % 8) (by omega)
  rw [and7 (show ri % 8 < 8 by omega)] at this
  rw [ha, this]
  refine congrArg nI ?_
  omega
theorem row_sr : ∀ ri, ri < 64 → nI ri >>> ((3 : Int32) &&& 31) = nI (ri / 8) := by decide +kernel
theorem ix64' {ri j : Nat} : (64 : Int32) * nI ri + nI j = nI (64 * ri + j) := by
  rw [show (64 : Int32) = nI 64 from rfl, pk_mul, nI_add]
theorem HAg_tr {x : Nat} {S S1 S2 : Sg} (h1 : HAg x S S1) (h2 : HAg x S1 S2) : HAg x S S2 := by
  have t : ∀ q, tg S q ≠ 0 → tg S1 q ≠ 0 := fun q hq => by rw [(h1.1 q hq).1]; exact hq
  refine ⟨fun q hq => ⟨(h2.1 q (t q hq)).1.trans (h1.1 q hq).1, (h2.1 q (t q hq)).2.trans (h1.1 q hq).2⟩, fun k q hq hk => ?_, fun q i hq hn => (h2.2.2.1 q i (t q hq) hn).trans (h1.2.2.1 q i hq hn), fun i => (h2.2.2.2.1 i).trans (h1.2.2.2.1 i), fun i => (h2.2.2.2.2 i).trans (h1.2.2.2.2 i)⟩
  obtain ⟨a1, a2, a3⟩ := h1.2.1 k q hq hk
  obtain ⟨b1, b2, b3⟩ := h2.2.1 k q (t q hq) hk
  exact ⟨b1.trans a1, b2.trans a2, b3.trans a3⟩
theorem HAg_rf {x : Nat} {S : Sg} : HAg x S S := ⟨fun _ _ => ⟨rfl, rfl⟩, fun _ _ _ _ => ⟨rfl, rfl, rfl⟩, fun _ _ _ _ => rfl, fun _ => rfl, fun _ => rfl⟩
/-- a number is put into a row -/
theorem Mid_putN {x m n nn a : Nat} {st : Nat → Nat} {op oa ob oc : Nat → Int32} {N : Nat} {th ra rb rc : Nat → Nat} {F : Nat} {fa : Nat → Nat} {L : List FrT} {left took ri j : Nat} {v : Int64} {S T : Sg} (h : Mid x m n nn a st op oa ob oc N th ra rb rc F fa L left took S T) (hr : ri < 56) (hs : aR S (x + 7) ri ≠ none) (hj : j < 63) : Mid x m n nn a st op oa ob oc N th ra rb rc F fa L left took (sAL S (rb ri) j v) (sAL T (m + 18) (64 * ri + j) v) := by
  have hS := h.1.1
  obtain ⟨hTh, hNu, hHa, hRo, hGr⟩ := h.2.1
  obtain ⟨q1, q2, q3, q4, q5⟩ : aR S (x + 7) ri = some (ra ri) ∧ rb ri ≠ x + 5 ∧ rb ri ≠ x + 11 ∧ rc ri ≠ x + 6 ∧ RRo1 m N th ri (ra ri) (rb ri) (rc ri) S T := by
    rcases hRo.1 ri (by omega) with w | w
    · exact absurd w.1 hs
    · exact w
  have sO := gs_AL S (rb ri) j v
  have tO := gs_AL T (m + 18) (64 * ri + j) v
  have hS' : SX x (sAL S (rb ri) j v) := hS
  generalize sAL S (rb ri) j v = S' at *
  generalize sAL T (m + 18) (64 * ri + j) v = T' at *
  obtain ⟨g1, g2, g0, g3, g4, g5, g6, g7, sA⟩ := sO
  obtain ⟨t1, t2, t0, t3, t4, t5, t6, -, tA⟩ := tO
  have nA : ∀ q, q ≠ rb ri → aL S' q = aL S q := fun q w => funext fun i => by rw [sA, if_neg (fun z => w z.1)]
  have mA : ∀ k, k ≠ 18 → aL T' (m + k) = aL T (m + k) := fun k w => funext fun i => by rw [tA, if_neg (by omega)]
  refine Mid_H h hS' ⟨fun q _ => ⟨by rw [g1], by rw [g2]⟩, fun k q _ hk => ⟨by rw [g0], by rw [g3], by rw [g4]⟩, fun q i _ hq => by rw [g5], fun i => by rw [nA _ (fun e => q3 e.symm)], fun i => by rw [g6]⟩ ⟨t1, t2, t4, fun k _ w2 w3 w4 => by rw [t0], fun k => by rw [t3], fun k hk => by rw [t5], mA 26 (by omega), mA 30 (by omega)⟩ ?_ h.2.2.2.2.2.1.2.2.2.1 ⟨?_, ?_, ?_, ⟨fun i hi => ?_, ?_⟩, ?_⟩
  · have := h.2.2.2.2.2.2.2
    unfold fre at this ⊢; rw [g1, g7]; exact this
  · exact RTh_keep hTh (fun q hq => ⟨by rw [g1]; exact hq, by rw [g0], by rw [g3]⟩) (by rw [t0]) (by rw [t5]) (mA 15 (by omega))
  · exact RNu_keep hNu (nA _ (fun e => q2 e.symm)) (mA 12 (by omega))
  · exact RHa_keep hHa (by rw [g6]) (by rw [t5])
  · by_cases z : i = ri
    · subst z
      obtain ⟨r1, r2, r3, r4, r5, r6, r7, r8, r9, r10, r11⟩ := q5
      refine Or.inr ⟨by rw [g6]; exact q1, q2, q3, q4, by rw [g1]; exact r1, by rw [g0]; exact r2, by rw [g4]; exact r3, by rw [g1]; exact r4, by rw [g4]; exact r5, by rw [g1]; exact r6, by rw [g0, t5]; exact r7, by rw [g0, t5]; exact r8, by rw [t5]; exact r9, fun w => ?_, fun w => by omega⟩
      obtain ⟨u1, u2, u3⟩ := r10 w
      refine ⟨by rw [g2]; exact u1, by rw [g2]; exact u2, fun k hk => ?_⟩
      rw [sA, tA]
      by_cases y : k = j
      · rw [if_pos ⟨rfl, y⟩, if_pos ⟨rfl, by rw [y]⟩]
      · rw [if_neg (fun w => y w.2), if_neg (fun w => y (by omega))]; exact u3 k hk
    · rcases hRo.1 i hi with w | ⟨w1, w2, w3, w4, w5⟩
      · exact Or.inl ⟨by rw [g6]; exact w.1, by rw [t5]; exact w.2⟩
      · refine Or.inr ⟨by rw [g6]; exact w1, w2, w3, w4, RRo1_keep w5 (fun y => ⟨by rw [g1]; exact y, fun k _ _ => ⟨by rw [g0], by rw [g4]⟩⟩) (fun y => ⟨by rw [g1]; exact y, by rw [g2], nA _ (hRo.2 i ri hi (by omega) z (by rw [w1]; intro e; cases e) hs).2.1⟩) (fun y => ⟨by rw [g1]; exact y, by rw [g2], by rw [g6]⟩) (by rw [t5]) (by rw [t5]) (fun k hk => ?_)⟩
        rw [tA, if_neg (by omega)]
  · intro i j' hi hj' hne h1 h2
    rw [g6] at h1 h2
    exact hRo.2 i j' hi hj' hne h1 h2
  · exact RGr_keep hGr (fun k _ _ => by rw [g0]) (by rw [g5]) (fun k _ _ => by rw [t0]) (by rw [t5])
/-- a THING is put into a row -/
theorem Mid_putT {x m n nn a : Nat} {st : Nat → Nat} {op oa ob oc : Nat → Int32} {N : Nat} {th ra rb rc : Nat → Nat} {F : Nat} {fa : Nat → Nat} {L : List FrT} {left took ri j : Nat} {o : Option Nat} {v : Int32} {S T : Sg} (h : Mid x m n nn a st op oa ob oc N th ra rb rc F fa L left took S T) (hr : 56 ≤ ri) (hr2 : ri < 64) (hs : aR S (x + 7) ri ≠ none) (hj : j < 63) (ho : hrel N th o v) : Mid x m n nn a st op oa ob oc N th ra rb rc F fa L left took (sAR S (rc ri) j o) (sAL T (m + 18) (64 * ri + j) v.toInt64) := by
  have hS := h.1.1
  obtain ⟨hTh, hNu, hHa, hRo, hGr⟩ := h.2.1
  obtain ⟨q1, q2, q3, q4, q5⟩ : aR S (x + 7) ri = some (ra ri) ∧ rb ri ≠ x + 5 ∧ rb ri ≠ x + 11 ∧ rc ri ≠ x + 6 ∧ RRo1 m N th ri (ra ri) (rb ri) (rc ri) S T := by
    rcases hRo.1 ri (by omega) with w | w
    · exact absurd w.1 hs
    · exact w
  have r6 := q5.2.2.2.2.2.1
  have c2 : rc ri ≠ x + 2 := fun e => by rw [e, SX_t2 hS] at r6; exact absurd r6 (by decide)
  have c7 : rc ri ≠ x + 7 := fun e => by rw [e, SX_t7 hS] at r6; exact absurd r6 (by decide)
  have sO := gs_AR S (rc ri) j o
  have tO := gs_AL T (m + 18) (64 * ri + j) v.toInt64
  have hS' : SX x (sAR S (rc ri) j o) := hS
  generalize sAR S (rc ri) j o = S' at *
  generalize sAL T (m + 18) (64 * ri + j) v.toInt64 = T' at *
  obtain ⟨g1, g2, g0, g3, g4, g5, g6, g7, sA⟩ := sO
  obtain ⟨t1, t2, t0, t3, t4, t5, t6, -, tA⟩ := tO
  have nA : ∀ q, q ≠ rc ri → aR S' q = aR S q := fun q w => funext fun i => by rw [sA, if_neg (fun z => w z.1)]
  have mA : ∀ k, k ≠ 18 → aL T' (m + k) = aL T (m + k) := fun k w => funext fun i => by rw [tA, if_neg (by omega)]
  have n7 := nA (x + 7) (fun e => c7 e.symm)
  refine Mid_H h hS' ⟨fun q _ => ⟨by rw [g1], by rw [g2]⟩, fun k q _ hk => ⟨by rw [g0], by rw [g3], by rw [g4]⟩, fun q i _ hq => by rw [g5], fun i => by rw [g6], fun i => by rw [nA _ (fun e => c2 e.symm)]⟩ ⟨t1, t2, t4, fun k _ w2 w3 w4 => by rw [t0], fun k => by rw [t3], fun k hk => by rw [t5], mA 26 (by omega), mA 30 (by omega)⟩ ?_ h.2.2.2.2.2.1.2.2.2.1 ⟨?_, ?_, ?_, ⟨fun i hi => ?_, ?_⟩, ?_⟩
  · have := h.2.2.2.2.2.2.2
    unfold fre at this ⊢; rw [g1, g7]; exact this
  · exact RTh_keep hTh (fun q hq => ⟨by rw [g1]; exact hq, by rw [g0], by rw [g3]⟩) (by rw [t0]) (by rw [t5]) (mA 15 (by omega))
  · exact RNu_keep hNu (by rw [g6]) (mA 12 (by omega))
  · exact RHa_keep hHa (nA _ (fun e => q4 e.symm)) (by rw [t5])
  · by_cases z : i = ri
    · subst z
      obtain ⟨r1, r2, r3, r4, r5, r6, r7, r8, r9, r10, r11⟩ := q5
      refine Or.inr ⟨by rw [n7]; exact q1, q2, q3, q4, by rw [g1]; exact r1, by rw [g0]; exact r2, by rw [g4]; exact r3, by rw [g1]; exact r4, by rw [g4]; exact r5, by rw [g1]; exact r6, by rw [g0, t5]; exact r7, by rw [g0, t5]; exact r8, by rw [t5]; exact r9, fun w => by omega, fun w => ?_⟩
      obtain ⟨u1, u2, u3⟩ := r11 w
      refine ⟨by rw [g2]; exact u1, by rw [g2]; exact u2, fun k hk => ?_⟩
      rw [sA, tA]
      by_cases y : k = j
      · rw [if_pos ⟨rfl, by rw [y]⟩, if_pos ⟨rfl, y⟩]
        exact ⟨v, rfl, ho⟩
      · rw [if_neg (fun w => y (by omega)), if_neg (fun w => y w.2)]; exact u3 k hk
    · rcases hRo.1 i hi with w | ⟨w1, w2, w3, w4, w5⟩
      · exact Or.inl ⟨by rw [n7]; exact w.1, by rw [t5]; exact w.2⟩
      · refine Or.inr ⟨by rw [n7]; exact w1, w2, w3, w4, RRo1_keep w5 (fun y => ⟨by rw [g1]; exact y, fun k _ _ => ⟨by rw [g0], by rw [g4]⟩⟩) (fun y => ⟨by rw [g1]; exact y, by rw [g2], by rw [g6]⟩) (fun y => ⟨by rw [g1]; exact y, by rw [g2], nA _ (hRo.2 i ri hi (by omega) z (by rw [w1]; intro e; cases e) hs).2.2⟩) (by rw [t5]) (by rw [t5]) (fun k hk => ?_)⟩
        rw [tA, if_neg (by omega)]
  · intro i j' hi hj' hne h1 h2
    rw [n7] at h1 h2
    exact hRo.2 i j' hi hj' hne h1 h2
  · exact RGr_keep hGr (fun k _ _ => by rw [g0]) (by rw [g5]) (fun k _ _ => by rw [t0]) (by rw [t5])
