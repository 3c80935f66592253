/-! THINGS and HANDS -/
theorem RRo_mono {x m N N' : Nat} {th th' ra rb rc : Nat → Nat} {S T : Sg} (hN : N ≤ N') (hth : ∀ j, 1 ≤ j → j ≤ N → th' j = th j) (h : RRo x m N th ra rb rc S T) : RRo x m N' th' ra rb rc S T := by
  refine ⟨fun i hi => ?_, h.2⟩
  rcases h.1 i hi with q | ⟨q1, q2, q3, q4, r1, r2, r3, r4, r5, r6, r7, r8, r9, r10, r11⟩
  · exact Or.inl q
  · refine Or.inr ⟨q1, q2, q3, q4, r1, r2, r3, r4, r5, r6, r7, r8, r9, r10, fun w => ?_⟩
    obtain ⟨u1, u2, u3⟩ := r11 w
    refine ⟨u1, u2, fun j hj => ?_⟩
    obtain ⟨v, v1, v2⟩ := u3 j hj
    exact ⟨v, v1, hrel_mono hN (hrel_cong hth v2)⟩
def sTh (k : Int32) (v : Int64) (S : Sg) : Sg := sFL (sFI (nw S 9 0) 512 (sz S) k) 513 (sz S) v
def tTh (m N : Nat) (k : Int32) (v : Int64) (T : Sg) : Sg := sAL (sAI (sFI T 721 m (nI (N + 1))) (m + 14) (N + 1) k) (m + 15) (N + 1) v
theorem Mid_newTh {x m n nn a : Nat} {st : Nat → Nat} {op oa ob oc : Nat → Int32} {N : Nat} {th ra rb rc : Nat → Nat} {F : Nat} {fa : Nat → Nat} {L : List FrT} {left took k : Nat} {v : Int64} {S T : Sg} (h : Mid x m n nn a st op oa ob oc N th ra rb rc F fa L left took S T) (hN : N + 1 ≤ a + took) (hk : k < 3) : Mid x m n nn a st op oa ob oc (N + 1) (fun j => if j = N + 1 then sz S else th j) ra rb rc F fa L left took (sTh (nI k) v S) (tTh m N (nI k) v T) := by
  have hS := h.1.1
  have h8 : fre S := h.2.2.2.2.2.2.2
  have hNN : N + 1 ≤ 8000 := by
    have := h.2.2.2.2.2.1.2.2.1
    have := h.2.2.2.2.1.1
    omega
  have he : Ext 9 S (sTh (nI k) v S) := by unfold sTh; exact Ext_FL (Ext_FI Ext_nw)
  have s0 : fI (sTh (nI k) v S) 512 (sz S) = nI k := by unfold sTh; simp only [gs_FL, gs_FI]; rw [if_pos ⟨trivial, trivial⟩]
  have s1 : fL (sTh (nI k) v S) 513 (sz S) = v := by unfold sTh; simp only [gs_FL]; rw [if_pos ⟨trivial, trivial⟩]
  have tI : ∀ k', k' ≠ 721 → fI (tTh m N (nI k) v T) k' m = fI T k' m := fun k' w => by unfold tTh; simp only [gs_FI, gs_AI, gs_AL]; rw [if_neg (by omega)]
  have t721 : fI (tTh m N (nI k) v T) 721 m = nI (N + 1) := by unfold tTh; simp only [gs_FI, gs_AI, gs_AL]; rw [if_pos ⟨trivial, trivial⟩]
  have tO : tg (tTh m N (nI k) v T) = tg T ∧ ln (tTh m N (nI k) v T) = ln T ∧ fL (tTh m N (nI k) v T) = fL T ∧ fR (tTh m N (nI k) v T) = fR T := by unfold tTh; simp only [gs_FI, gs_AI, gs_AL]; exact ⟨trivial, trivial, trivial, trivial⟩
  have tA : ∀ q i, aI (tTh m N (nI k) v T) q i = if q = m + 14 ∧ i = N + 1 then nI k else aI T q i := fun q i => by unfold tTh; simp only [gs_FI, gs_AI, gs_AL]
  have tL : ∀ q i, aL (tTh m N (nI k) v T) q i = if q = m + 15 ∧ i = N + 1 then v else aL T q i := fun q i => by unfold tTh; simp only [gs_FI, gs_AI, gs_AL]
  have hS' : SX x (sTh (nI k) v S) := SX_ext h8 he hS
  generalize sTh (nI k) v S = S' at *
  generalize tTh m N (nI k) v T = T' at *
  obtain ⟨t1, t2, t3, t4⟩ := tO
  have o := fun q (hq : tg S q ≠ 0) => he.2.2 q (fre_ne h8 hq)
  have mA : ∀ k', k' ≠ 14 → aI T' (m + k') = aI T (m + k') := fun k' w => funext fun i => by rw [tA, if_neg (by omega)]
  have mL : ∀ k', k' ≠ 15 → aL T' (m + k') = aL T (m + k') := fun k' w => funext fun i => by rw [tL, if_neg (by omega)]
  have hth : ∀ j, 1 ≤ j → j ≤ N → (fun j => if j = N + 1 then sz S else th j) j = th j := fun j _ w => if_neg (by omega)
  obtain ⟨hTh, hNu, hHa, hRo, hGr⟩ := h.2.1
  have o5 := o (x + 5) (by rw [SX_t5 hS]; decide)
  have o6 := o (x + 6) (by rw [SX_t6 hS]; decide)
  have o7 := o (x + 7) (by rw [SX_t7 hS]; decide)
  have o8 := o (x + 8) (by rw [SX_t8 hS]; decide)
  have o9 := o (x + 9) (by rw [SX_t9 hS]; decide)
  have o11 := o (x + 11) (by rw [SX_t11 hS]; decide)
  have o2 := o (x + 2) (by rw [SX_t2 hS]; decide)
  refine Mid_H h hS' ⟨fun q hq => ⟨(o q hq).1, (o q hq).2.1⟩, fun k q hq _ => (o q hq).2.2.1 k, fun q i hq _ => ((o q hq).2.2.2 i).1, fun i => (o11.2.2.2 i).2.1, fun i => (o2.2.2.2 i).2.2⟩ ⟨t1, t2, t4, fun k w _ _ _ => tI k w, fun k => by rw [t3], fun k hk => mA k (by simp at hk; omega), mL 26 (by omega), mL 30 (by omega)⟩ (fre_ext h8 he) hN ⟨?_, ?_, ?_, ?_, ?_⟩
  · refine ⟨hNN, t721, fun j j1 j2 => ?_, fun i j i1 i2 j1 j2 e => ?_⟩
    · by_cases c : j = N + 1
      · subst c
        simp only [if_true]
        rw [tA, if_pos ⟨rfl, rfl⟩, tL, if_pos ⟨rfl, rfl⟩, s0, s1]
        refine ⟨he.2.1, rfl, rfl, ?_⟩
        have : k = 0 ∨ k = 1 ∨ k = 2 := by omega
        rcases this with rfl | rfl | rfl
        · exact Or.inl rfl
        · exact Or.inr (Or.inl rfl)
        · exact Or.inr (Or.inr rfl)
      · obtain ⟨b1, b2, b3, b4⟩ := hTh.2.2.1 j j1 (by omega)
        have ob := o (th j) (by rw [b1]; decide)
        simp only [c, if_false]
        rw [tA, if_neg (by omega), tL, if_neg (by omega)]
        exact ⟨ob.1.trans b1, (ob.2.2.1 512).1.trans b2, (ob.2.2.1 513).2.1.trans b3, b4⟩
    · have ne : ∀ j, 1 ≤ j → j ≤ N → th j ≠ sz S := fun j j1 j2 => fre_ne h8 (by rw [(hTh.2.2.1 j j1 j2).1]; decide)
      by_cases ci : i = N + 1
      · by_cases cj : j = N + 1
        · omega
        · simp only [ci, if_true, cj, if_false] at e
          exact absurd e.symm (ne j j1 (by omega))
      · by_cases cj : j = N + 1
        · simp only [ci, if_false, cj, if_true] at e
          exact absurd e (ne i i1 (by omega))
        · simp only [ci, cj, if_false] at e
          exact hTh.2.2.2 i j i1 (by omega) j1 (by omega) e
  · exact RNu_keep hNu (funext fun i => (o5.2.2.2 i).2.1) (mL 12 (by omega))
  · intro i hi
    rw [(o6.2.2.2 i).2.2, mA 13 (by omega)]
    exact hrel_mono (Nat.le_succ _) (hrel_cong hth (hHa i hi))
  · refine RRo_mono (Nat.le_succ _) hth (RRo_keep hRo (funext fun i => (o7.2.2.2 i).2.2) (fun q hq => ?_) (fun q hq _ _ => ?_) (fun q hq _ => ?_) (mA 16 (by omega)) (mA 17 (by omega)) (mL 18 (by omega)))
    · have oq := o q (by rw [hq]; decide)
      exact ⟨oq.1.trans hq, fun k _ _ => ⟨(oq.2.2.1 k).1, (oq.2.2.1 k).2.2⟩⟩
    · have oq := o q (by rw [hq]; decide)
      exact ⟨oq.1.trans hq, oq.2.1, funext fun i => (oq.2.2.2 i).2.1⟩
    · have oq := o q (by rw [hq]; decide)
      exact ⟨oq.1.trans hq, oq.2.1, funext fun i => (oq.2.2.2 i).2.2⟩
  · exact RGr_keep hGr (fun k _ _ => (o8.2.2.1 k).1) (funext fun i => (o9.2.2.2 i).1) (fun k _ _ => tI k (by omega)) (mA 19 (by omega))
theorem Mid_hand {x m n nn a : Nat} {st : Nat → Nat} {op oa ob oc : Nat → Int32} {N : Nat} {th ra rb rc : Nat → Nat} {F : Nat} {fa : Nat → Nat} {L : List FrT} {left took j : Nat} {o : Option Nat} {v : Int32} {S T : Sg} (h : Mid x m n nn a st op oa ob oc N th ra rb rc F fa L left took S T) (hj : j < 8) (hr : hrel N th o v) : Mid x m n nn a st op oa ob oc N th ra rb rc F fa L left took (sAR S (x + 6) j o) (sAI T (m + 13) j v) := by
  have hS := h.1.1
  have sO := gs_AR S (x + 6) j o
  have tO := gs_AI T (m + 13) j v
  have hS' : SX x (sAR S (x + 6) j o) := hS
  generalize sAR S (x + 6) j o = S' at *
  generalize sAI T (m + 13) j v = T' at *
  obtain ⟨g1, g2, g0, g3, g4, g5, g6, g7, sA⟩ := sO
  obtain ⟨t1, t2, t0, t3, t4, t5, t6, -, tA⟩ := tO
  have nA : ∀ q, q ≠ x + 6 → aR S' q = aR S q := fun q w => funext fun i => by rw [sA, if_neg (by omega)]
  have mA : ∀ k, k ≠ 13 → aI T' (m + k) = aI T (m + k) := fun k w => funext fun i => by rw [tA, if_neg (by omega)]
  obtain ⟨hTh, hNu, hHa, hRo, hGr⟩ := h.2.1
  refine Mid_H h hS' ⟨fun q _ => ⟨by rw [g1], by rw [g2]⟩, fun k q _ hk => ⟨by rw [g0], by rw [g3], by rw [g4]⟩, fun q i _ hq => by rw [g5], fun i => by rw [g6], fun i => by rw [nA _ (by omega)]⟩ ⟨t1, t2, t4, fun k _ w2 w3 w4 => by rw [t0], fun k => by rw [t3], fun k hk => mA k (by simp at hk; omega), by rw [t5], by rw [t5]⟩ ?_ h.2.2.2.2.2.1.2.2.2.1 ⟨?_, ?_, fun i hi => ?_, ?_, ?_⟩
  · have := h.2.2.2.2.2.2.2
    unfold fre at this ⊢; rw [g1, g7]; exact this
  · exact RTh_keep hTh (fun q hq => ⟨by rw [g1]; exact hq, by rw [g0], by rw [g3]⟩) (by rw [t0]) (mA 14 (by omega)) (by rw [t5])
  · exact RNu_keep hNu (by rw [g6]) (by rw [t5])
  · rw [sA, tA]
    by_cases z : i = j
    · rw [if_pos ⟨rfl, z⟩, if_pos ⟨rfl, z⟩]; exact hr
    · rw [if_neg (fun w => z w.2), if_neg (fun w => z w.2)]; exact hHa i hi
  · exact RRo_keep hRo (nA _ (by omega)) (fun q hq => ⟨by rw [g1]; exact hq, fun k _ _ => ⟨by rw [g0], by rw [g4]⟩⟩) (fun q hq _ _ => ⟨by rw [g1]; exact hq, by rw [g2], by rw [g6]⟩) (fun q hq w => ⟨by rw [g1]; exact hq, by rw [g2], nA q w⟩) (mA 16 (by omega)) (mA 17 (by omega)) (by rw [t5])
  · exact RGr_keep hGr (fun k _ _ => by rw [g0]) (by rw [g5]) (fun k _ _ => by rw [t0]) (mA 19 (by omega))
theorem Mid_mark {x m n nn a : Nat} {st : Nat → Nat} {op oa ob oc : Nat → Int32} {N : Nat} {th ra rb rc : Nat → Nat} {F : Nat} {fa : Nat → Nat} {L : List FrT} {left took j : Nat} {v : Int64} {S T : Sg} (h : Mid x m n nn a st op oa ob oc N th ra rb rc F fa L left took S T) (j1 : 1 ≤ j) (j2 : j ≤ N) : Mid x m n nn a st op oa ob oc N th ra rb rc F fa L left took (sFL S 513 (th j) v) (sAL T (m + 15) j v) := by
  have hS := h.1.1
  have sO := gs_FL S 513 (th j) v
  have tO := gs_AL T (m + 15) j v
  have hS' : SX x (sFL S 513 (th j) v) := hS
  generalize sFL S 513 (th j) v = S' at *
  generalize sAL T (m + 15) j v = T' at *
  obtain ⟨g1, g2, g0, g4, g5, g6, g3, g7, sA⟩ := sO
  obtain ⟨t1, t2, t0, t3, t4, t5, t6, -, tA⟩ := tO
  have mA : ∀ k, k ≠ 15 → aL T' (m + k) = aL T (m + k) := fun k w => funext fun i => by rw [tA, if_neg (by omega)]
  obtain ⟨hTh, hNu, hHa, hRo, hGr⟩ := h.2.1
  refine Mid_H h hS' ⟨fun q _ => ⟨by rw [g1], by rw [g2]⟩, fun k q _ hk => ⟨by rw [g0], by rw [sA, if_neg (by unfold hK at hk; omega)], by rw [g4]⟩, fun q i _ hq => by rw [g5], fun i => by rw [g6], fun i => by rw [g3]⟩ ⟨t1, t2, t4, fun k _ w2 w3 w4 => by rw [t0], fun k => by rw [t3], fun k hk => by rw [t5], mA 26 (by omega), mA 30 (by omega)⟩ ?_ h.2.2.2.2.2.1.2.2.2.1 ⟨?_, ?_, ?_, ?_, ?_⟩
  · have := h.2.2.2.2.2.2.2
    unfold fre at this ⊢; rw [g1, g7]; exact this
  · refine ⟨hTh.1, by rw [t0]; exact hTh.2.1, fun i i1 i2 => ?_, hTh.2.2.2⟩
    obtain ⟨b1, b2, b3, b4⟩ := hTh.2.2.1 i i1 i2
    rw [g1, g0, t5, sA, tA]
    refine ⟨b1, b2, ?_, b4⟩
    by_cases z : i = j
    · rw [if_pos ⟨rfl, by rw [z]⟩, if_pos ⟨rfl, z⟩]
    · rw [if_neg (fun w => z (hTh.2.2.2 i j i1 i2 j1 j2 w.2)), if_neg (fun w => z w.2)]; exact b3
  · exact RNu_keep hNu (by rw [g6]) (mA 12 (by omega))
  · exact RHa_keep hHa (by rw [g3]) (by rw [t5])
  · exact RRo_keep hRo (by rw [g3]) (fun q hq => ⟨by rw [g1]; exact hq, fun k _ _ => ⟨by rw [g0], by rw [g4]⟩⟩) (fun q hq _ _ => ⟨by rw [g1]; exact hq, by rw [g2], by rw [g6]⟩) (fun q hq w => ⟨by rw [g1]; exact hq, by rw [g2], by rw [g3]⟩) (by rw [t5]) (by rw [t5]) (mA 18 (by omega))
  · exact RGr_keep hGr (fun k _ _ => by rw [g0]) (by rw [g5]) (fun k _ _ => by rw [t0]) (by rw [t5])
