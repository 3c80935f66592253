/-! the GRID -/
theorem r_mIntOf {m : Nat} {S : Sg} {i : Int32} {j : Nat} {Q : Int32 → Sg → Prop} (hM : MX m S) (h : i &&& 7 = nI j) (hj : j < 8) (hq : Q (aL S (m + 12) j).toInt32 S) : wX11_intOf m i S Q := by
  unfold wX11_intOf
  refine ⟨m + 12, MX_r717 hM, MX_t12 hM, ?_⟩
  rw [h, n_cl (by omega)]
  exact ⟨by rw [MX_l12 hM]; exact vp_n hj (by omega), hq⟩
theorem r_grids0 {m : Nat} {S : Sg} {Q : Int32 → Sg → Prop} (hM : MX m S) (hQ : Q 0 (zI (m + 19) 0 64 S)) : ∃ fu, wX11_grids_b68 fu m 0 S Q := by
  have key : ∀ d k, k + d = 64 → wX11_grids_b68 (d + 1) m (nI k) (zI (m + 19) 0 k S) Q := by
    intro d
    induction d with
    | zero =>
      intro k hk
      unfold wX11_grids_b68
      rw [if_pos (by rw [show (64 : Int32) = nI 64 from rfl, n_le (by omega) (by omega)]; omega), show k = 64 by omega]
      exact hQ
    | succ d ih =>
      intro k hk
      unfold wX11_grids_b68
      rw [if_neg (by rw [show (64 : Int32) = nI 64 from rfl, n_le (by omega) (by omega)]; omega)]
      have hMk : MX m (zI (m + 19) 0 k S) := hM
      refine ⟨m + 19, MX_r728 hMk, MX_t19 hMk, by rw [MX_l19 hMk]; exact vp_n (by omega) (by omega), ?_⟩
      rw [n_cl (by omega), nI_1]
      have := zI_s (m + 19) 0 k S
      rw [Nat.zero_add] at this
      rw [this]
      exact nm_e (nm_e (ih (k + 1) (by omega)))
  refine ⟨65, ?_⟩
  have := key 64 0 (by omega)
  rw [zI_0] at this
  exact this
def sGr (x g p : Nat) (S : Sg) : Sg := zI (x + 9) 0 49 (sFI (sFI (sFI S 129 (x + 8) 1) 130 (x + 8) (nI g)) 131 (x + 8) (nI p))
def tGr (m g p : Nat) (T : Sg) : Sg := zI (m + 19) 0 64 (sFI (sFI (sFI T 725 m 1) 726 m (nI g)) 727 m (nI p))
theorem Mid_grid {x m n nn a : Nat} {st : Nat → Nat} {op oa ob oc : Nat → Int32} {N : Nat} {th ra rb rc : Nat → Nat} {F : Nat} {fa : Nat → Nat} {L : List FrT} {left took g p : Nat} {S T : Sg} (h : Mid x m n nn a st op oa ob oc N th ra rb rc F fa L left took S T) (hg : g < 8) (hp : p < 8) : Mid x m n nn a st op oa ob oc N th ra rb rc F fa L left took (sGr x g p S) (tGr m g p T) := by
  have hS := h.1.1
  have sI : ∀ k' a', fI (sGr x g p S) k' a' = if k' = 131 ∧ a' = x + 8 then nI p else if k' = 130 ∧ a' = x + 8 then nI g else if k' = 129 ∧ a' = x + 8 then 1 else fI S k' a' := by
    intro k' a'; unfold sGr; simp only [zI_at, gs_FI]
  have sO : tg (sGr x g p S) = tg S ∧ ln (sGr x g p S) = ln S ∧ fL (sGr x g p S) = fL S ∧ fR (sGr x g p S) = fR S ∧ aL (sGr x g p S) = aL S ∧ aR (sGr x g p S) = aR S ∧ sz (sGr x g p S) = sz S := ⟨rfl, rfl, rfl, rfl, rfl, rfl, rfl⟩
  have sA : ∀ q i, aI (sGr x g p S) q i = if q = x + 9 ∧ 0 ≤ i ∧ i < 0 + 49 then 0 else aI S q i := fun _ _ => rfl
  have tI : ∀ k', fI (tGr m g p T) k' m = if k' = 727 ∧ m = m then nI p else if k' = 726 ∧ m = m then nI g else if k' = 725 ∧ m = m then 1 else fI T k' m := by
    intro k'; unfold tGr; simp only [zI_at, gs_FI]
  have tO : tg (tGr m g p T) = tg T ∧ ln (tGr m g p T) = ln T ∧ fL (tGr m g p T) = fL T ∧ fR (tGr m g p T) = fR T ∧ aL (tGr m g p T) = aL T ∧ aR (tGr m g p T) = aR T := ⟨rfl, rfl, rfl, rfl, rfl, rfl⟩
  have tA : ∀ q i, aI (tGr m g p T) q i = if q = m + 19 ∧ 0 ≤ i ∧ i < 0 + 64 then 0 else aI T q i := fun _ _ => rfl
  have hS' : SX x (sGr x g p S) := hS
  generalize sGr x g p S = S' at *
  generalize tGr m g p T = T' at *
  obtain ⟨g1, g2, g3, g4, g5, g6, g7⟩ := sO
  obtain ⟨t1, t2, t3, t4, t5, t6⟩ := tO
  have nI' : ∀ k' a', (k' < 129 ∨ 131 < k') → fI S' k' a' = fI S k' a' := fun k' a' w => by rw [sI, if_neg (by omega), if_neg (by omega), if_neg (by omega)]
  have nT : ∀ k', k' ≠ 725 → k' ≠ 726 → k' ≠ 727 → fI T' k' m = fI T k' m := fun k' w1 w2 w3 => by rw [tI, if_neg (by omega), if_neg (by omega), if_neg (by omega)]
  have nA : ∀ q, q ≠ x + 9 → aI S' q = aI S q := fun q w => funext fun i => by rw [sA, if_neg (by omega)]
  have mA : ∀ k, k ≠ 19 → aI T' (m + k) = aI T (m + k) := fun k w => funext fun i => by rw [tA, if_neg (by omega)]
  obtain ⟨hTh, hNu, hHa, hRo, hGr⟩ := h.2.1
  refine Mid_H h hS' ⟨fun q _ => ⟨by rw [g1], by rw [g2]⟩, fun k q _ hk => ⟨nI' k q (by unfold hK at hk; omega), by rw [g3], by rw [g4]⟩, fun q i _ hq => by rw [nA q hq], fun i => by rw [g5], fun i => by rw [g6]⟩ ⟨t1, t2, t4, fun k _ w2 w3 w4 => nT k w2 w3 w4, fun k => by rw [t3], fun k hk => mA k (by simp at hk; omega), by rw [t5], by rw [t5]⟩ ?_ h.2.2.2.2.2.1.2.2.2.1 ⟨?_, ?_, ?_, ?_, ?_⟩
  · have := h.2.2.2.2.2.2.2
    unfold fre at this ⊢; rw [g1, g7]; exact this
  · exact RTh_keep hTh (fun q hq => ⟨by rw [g1]; exact hq, nI' _ _ (by omega), by rw [g3]⟩) (nT _ (by omega) (by omega) (by omega)) (mA 14 (by omega)) (by rw [t5])
  · exact RNu_keep hNu (by rw [g5]) (by rw [t5])
  · exact RHa_keep hHa (by rw [g6]) (mA 13 (by omega))
  · exact RRo_keep hRo (by rw [g6]) (fun q hq => ⟨by rw [g1]; exact hq, fun k _ _ => ⟨nI' _ _ (by omega), by rw [g4]⟩⟩) (fun q hq _ _ => ⟨by rw [g1]; exact hq, by rw [g2], by rw [g5]⟩) (fun q hq _ => ⟨by rw [g1]; exact hq, by rw [g2], by rw [g6]⟩) (mA 16 (by omega)) (mA 17 (by omega)) (by rw [t5])
  · have e1 : fI S' 129 (x + 8) = 1 := by rw [sI, if_neg (by omega), if_neg (by omega), if_pos ⟨rfl, rfl⟩]
    have e2 : fI S' 130 (x + 8) = nI g := by rw [sI, if_neg (by omega), if_pos ⟨rfl, rfl⟩]
    have e3 : fI S' 131 (x + 8) = nI p := by rw [sI, if_pos ⟨rfl, rfl⟩]
    have f1 : fI T' 725 m = 1 := by rw [tI, if_neg (by omega), if_neg (by omega), if_pos ⟨rfl, rfl⟩]
    have f2 : fI T' 726 m = nI g := by rw [tI, if_neg (by omega), if_pos ⟨rfl, rfl⟩]
    have f3 : fI T' 727 m = nI p := by rw [tI, if_pos ⟨rfl, rfl⟩]
    refine ⟨e1.trans f1.symm, Or.inr f1, ⟨g, p, by omega, by omega, e2, f2, e3, f3, fun w => ?_⟩, fun r c hr hc => ?_⟩
    · rw [f1] at w; exact absurd w (by decide)
    · rw [sA, if_pos ⟨rfl, by omega, by omega⟩, tA, if_pos ⟨rfl, by omega, by omega⟩]
theorem Mid_cell {x m n nn a : Nat} {st : Nat → Nat} {op oa ob oc : Nat → Int32} {N : Nat} {th ra rb rc : Nat → Nat} {F : Nat} {fa : Nat → Nat} {L : List FrT} {left took g p : Nat} {v : Int32} {S T : Sg} (h : Mid x m n nn a st op oa ob oc N th ra rb rc F fa L left took S T) (hg : g < 7) (hp : p < 7) : Mid x m n nn a st op oa ob oc N th ra rb rc F fa L left took (sAI S (x + 9) (g * 7 + p) v) (sAI T (m + 19) (8 * g + p) v) := by
  have hS := h.1.1
  have sO := gs_AI S (x + 9) (g * 7 + p) v
  have tO := gs_AI T (m + 19) (8 * g + p) v
  have hS' : SX x (sAI S (x + 9) (g * 7 + p) v) := hS
  generalize sAI S (x + 9) (g * 7 + p) v = S' at *
  generalize sAI T (m + 19) (8 * g + p) v = T' at *
  obtain ⟨g1, g2, g0, g3, g4, g5, g6, g7, sA⟩ := sO
  obtain ⟨t1, t2, t0, t3, t4, t5, t6, -, tA⟩ := tO
  have nA : ∀ q, q ≠ x + 9 → aI S' q = aI S q := fun q w => funext fun i => by rw [sA, if_neg (by omega)]
  have mA : ∀ k, k ≠ 19 → aI T' (m + k) = aI T (m + k) := fun k w => funext fun i => by rw [tA, if_neg (by omega)]
  obtain ⟨hTh, hNu, hHa, hRo, hGr⟩ := h.2.1
  refine Mid_H h hS' ⟨fun q _ => ⟨by rw [g1], by rw [g2]⟩, fun k q _ hk => ⟨by rw [g0], by rw [g3], by rw [g4]⟩, fun q i _ hq => by rw [nA q hq], fun i => by rw [g5], fun i => by rw [g6]⟩ ⟨t1, t2, t4, fun k _ w2 w3 w4 => by rw [t0], fun k => by rw [t3], fun k hk => mA k (by simp at hk; omega), by rw [t5], by rw [t5]⟩ ?_ h.2.2.2.2.2.1.2.2.2.1 ⟨?_, ?_, ?_, ?_, ?_⟩
  · have := h.2.2.2.2.2.2.2
    unfold fre at this ⊢; rw [g1, g7]; exact this
  · exact RTh_keep hTh (fun q hq => ⟨by rw [g1]; exact hq, by rw [g0], by rw [g3]⟩) (by rw [t0]) (mA 14 (by omega)) (by rw [t5])
  · exact RNu_keep hNu (by rw [g5]) (by rw [t5])
  · exact RHa_keep hHa (by rw [g6]) (mA 13 (by omega))
  · exact RRo_keep hRo (by rw [g6]) (fun q hq => ⟨by rw [g1]; exact hq, fun k _ _ => ⟨by rw [g0], by rw [g4]⟩⟩) (fun q hq _ _ => ⟨by rw [g1]; exact hq, by rw [g2], by rw [g5]⟩) (fun q hq _ => ⟨by rw [g1]; exact hq, by rw [g2], by rw [g6]⟩) (mA 16 (by omega)) (mA 17 (by omega)) (by rw [t5])
  · obtain ⟨q1, q2, q3, q4⟩ := hGr
    unfold RGr
    rw [g0, t0]
    refine ⟨q1, q2, q3, fun r c hr hc => ?_⟩
    rw [sA, tA]
    by_cases z : r = g ∧ c = p
    · rw [if_pos ⟨rfl, by rw [z.1, z.2]⟩, if_pos ⟨rfl, by rw [z.1, z.2]⟩]
    · rw [if_neg (fun w => z (by omega)), if_neg (fun w => z (by omega))]
      exact q4 r c hr hc
