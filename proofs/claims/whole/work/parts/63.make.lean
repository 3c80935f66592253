/-! MAKE -/
def RRoX (x m N ri : Nat) (th ra rb rc : Nat → Nat) (S T : Sg) : Prop := (∀ i, i < 64 → i ≠ ri → (aR S (x + 7) i = none ∧ aI T (m + 16) i = -1) ∨ (aR S (x + 7) i = some (ra i) ∧ rb i ≠ x + 5 ∧ rb i ≠ x + 11 ∧ rc i ≠ x + 6 ∧ RRo1 m N th i (ra i) (rb i) (rc i) S T)) ∧ ∀ i j, i < 64 → j < 64 → i ≠ j → (i = ri ∨ aR S (x + 7) i ≠ none) → (j = ri ∨ aR S (x + 7) j ≠ none) → ra i ≠ ra j ∧ rb i ≠ rb j ∧ rc i ≠ rc j
def RW (x ri a b c : Nat) (S : Sg) : Prop := aR S (x + 7) ri = some a ∧ b ≠ x + 5 ∧ b ≠ x + 11 ∧ c ≠ x + 6 ∧ tg S a = 6 ∧ fI S 320 a = nI (ri / 8) ∧ fR S 321 a = some b ∧ tg S b = 14 ∧ fR S 322 a = some c ∧ tg S c = 18 ∧ (ri < 56 → ln S b = 63 ∧ ln S c = 0) ∧ (56 ≤ ri → ln S b = 0 ∧ ln S c = 63)
def sE (a b c : Nat) (k w : Int32) (S : Sg) : Sg := zR c 0 (ln S c) (zL b 0 (ln S b) (sFI (sFI S 323 a k) 324 a w))
def tMk (m ri : Nat) (k w : Int32) (T : Sg) : Sg := zL (m + 18) (64 * ri) 64 (sAI (sAI T (m + 16) ri k) (m + 17) ri w)
theorem r_empty {a b c : Nat} {k w : Int32} {S : Sg} {Q : Sg → Prop} (hb : ln S b < 2147483648) (hc : ln S c < 2147483648) (h1 : fR S 321 a = some b) (tb : tg S b = 14) (h2 : fR S 322 a = some c) (tc : tg S c = 18) (hw : w = 0 ∨ w = 1) (hQ : Q (sE a b c k w S)) : wX5_empty a k w S Q := by
  unfold wX5_empty
  intro S1 e1
  refine ⟨hw, ?_⟩
  intro S3 e3
  have f3 : fR S3 = fR S ∧ tg S3 = tg S ∧ ln S3 = ln S := by rw [e3, e1]; simp only [gs_FI]; exact ⟨trivial, trivial, trivial⟩
  obtain ⟨f3, t3, l3⟩ := f3
  rw [f3, h1]
  refine r_fillL (n := ln S b) hb (by rw [t3]; exact tb) (by rw [l3]) ?_
  unfold sE at hQ
  rw [e1] at e3
  rw [← e3] at hQ
  have key : ∀ d j, j + d = ln S c → wX5_empty_b20 (d + 1) a (nI j) (zR c 0 j (zL b 0 (ln S b) S3)) Q := by
    intro d
    induction d with
    | zero =>
      intro j hj
      unfold wX5_empty_b20
      refine ⟨c, by simp only [zR_at, zL_at]; rw [f3]; exact h2, by simp only [zR_at, zL_at]; rw [t3]; exact tc, ?_⟩
      have : ln (zR c 0 j (zL b 0 (ln S b) S3)) c = ln S c := by simp only [zR_at, zL_at]; rw [l3]
      rw [this, if_pos (by rw [n_le hc (by omega)]; omega), show j = ln S c by omega]
      exact hQ
    | succ d ih =>
      intro j hj
      unfold wX5_empty_b20
      refine ⟨c, by simp only [zR_at, zL_at]; rw [f3]; exact h2, by simp only [zR_at, zL_at]; rw [t3]; exact tc, ?_⟩
      have : ln (zR c 0 j (zL b 0 (ln S b) S3)) c = ln S c := by simp only [zR_at, zL_at]; rw [l3]
      rw [this, if_neg (by rw [n_le hc (by omega)]; omega)]
      refine ⟨vp_n (by omega) hc, ?_⟩
      rw [n_cl (by omega), nI_1]
      have z := zR_s c 0 j (zL b 0 (ln S b) S3)
      rw [Nat.zero_add] at z
      rw [z]
      exact nm_e (nm_e (ih (j + 1) (by omega)))
  refine ⟨ln S c + 1, ?_⟩
  have := key (ln S c) 0 (by omega)
  rw [zR_0] at this
  exact this
theorem r_makes {m p ri jb : Nat} {X ocp w : Int32} {T : Sg} {Q : Int32 → Sg → Prop} (hM : MX m T) (hp : p < 2000) (hri : ri < 64) (e3 : aI T (m + 3) p &&& 7 = nI jb) (hjb : jb < 8) (hX : (aL T (m + 12) jb).toInt32 = X) (e4 : aI T (m + 4) p = ocp) (hw : w = if ri < 56 then 0 else if ocp &&& 1 = 1 then 1 else 0) (h : if 0 ≤ X then Q 0 (tMk m ri (X &&& 63) w T) else Q 8 T) : wX11_makes m (nI p) (nI ri) T Q := by
  unfold wX11_makes
  refine ⟨m + 3, MX_r706 hM, MX_t3 hM, by rw [MX_l3 hM]; exact vp_n hp (by omega), ?_⟩
  rw [n_cl (by omega)]
  refine r_mIntOf hM e3 hjb ?_
  rw [hX]
  by_cases c : 0 ≤ X
  · rw [if_pos c] at h ⊢
    refine ⟨m + 16, MX_r722 hM, MX_t16 hM, by rw [MX_l16 hM]; exact vp_n hri (by omega), ?_⟩
    rw [n_cl (by omega)]
    intro S8 e8
    have hM8 : MX m S8 := by rw [e8]; simp only [MX_sAI]; exact hM
    have b56 : ∀ q2 : Int32, vp_nar .boolean q2 = w → wX11_makes_b56 m (nI ri) (some (m + 17)) (nI ri) q2 S8 Q := by
      intro q2 eq2
      unfold wX11_makes_b56
      refine ⟨m + 17, rfl, MX_t17 hM8, by rw [MX_l17 hM8]; exact vp_n hri (by omega), ?_⟩
      rw [n_cl (by omega), eq2]
      intro S12 e12
      have hM12 : MX m S12 := by rw [e12]; simp only [MX_sAI]; exact hM8
      unfold tMk at h
      rw [e8] at e12
      rw [← e12] at h
      have key : ∀ d j, j + d = 64 → wX11_makes_b60 (d + 1) m (nI ri) (nI j) (zL (m + 18) (64 * ri) j S12) Q := by
        intro d
        induction d with
        | zero =>
          intro j hj
          unfold wX11_makes_b60
          rw [if_pos (by rw [show (64 : Int32) = nI 64 from rfl, n_le (by omega) (by omega)]; omega), show j = 64 by omega]
          exact h
        | succ d ih =>
          intro j hj
          unfold wX11_makes_b60
          rw [if_neg (by rw [show (64 : Int32) = nI 64 from rfl, n_le (by omega) (by omega)]; omega), ix64']
          have hMk : MX m (zL (m + 18) (64 * ri) j S12) := hM12
          refine ⟨m + 18, MX_r724 hMk, MX_t18 hMk, by rw [MX_l18 hMk]; exact vp_n (by omega) (by omega), ?_⟩
          rw [n_cl (by omega), nI_1, zL_s]
          exact nm_e (nm_e (ih (j + 1) (by omega)))
      refine ⟨65, ?_⟩
      have := key 64 0 (by omega)
      rw [zL_0] at this
      exact this
    by_cases c1 : ri < 56
    · rw [if_pos c1] at hw
      rw [if_pos (by rw [show (56 : Int32) = nI 56 from rfl, n_lt (by omega) (by omega)]; exact c1), MX_r723 hM8]
      unfold wX11_makes_b55
      exact b56 0 (by rw [hw]; decide)
    · rw [if_neg c1] at hw
      rw [if_neg (by rw [show (56 : Int32) = nI 56 from rfl, n_lt (by omega) (by omega)]; exact c1)]
      have g4 : aI S8 (m + 4) p = ocp := by rw [e8]; simp only [gs_AI]; rw [if_neg (by omega)]; exact e4
      refine ⟨m + 4, MX_r707 hM8, MX_t4 hM8, by rw [MX_l4 hM8]; exact vp_n hp (by omega), ?_⟩
      rw [g4, MX_r723 hM8]
      by_cases c2 : ocp &&& 1 = 1
      · rw [if_pos c2] at hw ⊢
        exact b56 1 (by rw [hw]; decide)
      · rw [if_neg c2] at hw ⊢
        unfold wX11_makes_b55
        exact b56 0 (by rw [hw]; decide)
  · rw [if_neg c] at h ⊢; exact h
theorem sE_at {a b c : Nat} {k w : Int32} {S : Sg} : tg (sE a b c k w S) = tg S ∧ ln (sE a b c k w S) = ln S ∧ fL (sE a b c k w S) = fL S ∧ fR (sE a b c k w S) = fR S ∧ aI (sE a b c k w S) = aI S ∧ sz (sE a b c k w S) = sz S ∧ (∀ k' q, fI (sE a b c k w S) k' q = if k' = 324 ∧ q = a then w else if k' = 323 ∧ q = a then k else fI S k' q) ∧ (∀ q i, aL (sE a b c k w S) q i = if q = b ∧ 0 ≤ i ∧ i < 0 + ln S b then 0 else aL S q i) ∧ ∀ q i, aR (sE a b c k w S) q i = if q = c ∧ 0 ≤ i ∧ i < 0 + ln S c then none else aR S q i := by
  refine ⟨rfl, rfl, rfl, rfl, rfl, rfl, fun k' q => ?_, fun _ _ => rfl, fun _ _ => rfl⟩
  unfold sE
  simp only [zR_at, zL_at, gs_FI]
theorem tMk_at {m ri : Nat} {k w : Int32} {T : Sg} : tg (tMk m ri k w T) = tg T ∧ ln (tMk m ri k w T) = ln T ∧ fI (tMk m ri k w T) = fI T ∧ fL (tMk m ri k w T) = fL T ∧ fR (tMk m ri k w T) = fR T ∧ (∀ q i, aI (tMk m ri k w T) q i = if q = m + 17 ∧ i = ri then w else if q = m + 16 ∧ i = ri then k else aI T q i) ∧ (∀ q i, aL (tMk m ri k w T) q i = if q = m + 18 ∧ 64 * ri ≤ i ∧ i < 64 * ri + 64 then 0 else aL T q i) := by
  refine ⟨rfl, rfl, rfl, rfl, rfl, fun q i => ?_, fun _ _ => rfl⟩
  unfold tMk
  simp only [zL_at, gs_AI]
theorem Mid_make {x m n nn a : Nat} {st : Nat → Nat} {op oa ob oc : Nat → Int32} {N : Nat} {th ra rb rc ra' rb' rc' : Nat → Nat} {F : Nat} {fa : Nat → Nat} {L : List FrT} {left took ri k : Nat} {w : Int32} {S Sb T : Sg} (h : Mid x m n nn a st op oa ob oc N th ra rb rc F fa L left took S T) (hri : ri < 64) (hk : k ≤ 63) (hw : w = 0 ∨ w = 1) (hSb : SX x Sb) (hfb : fre Sb) (hag : HAg x S Sb) (hTh : RTh m N th Sb T) (hNu : RNu x m Sb T) (hHa : RHa x m N th Sb T) (hGr : RGr x m Sb T) (hRo : RRoX x m N ri th ra' rb' rc' Sb T) (hRW : RW x ri (ra' ri) (rb' ri) (rc' ri) Sb) : Mid x m n nn a st op oa ob oc N th ra' rb' rc' F fa L left took (sE (ra' ri) (rb' ri) (rc' ri) (nI k) w Sb) (tMk m ri (nI k) w T) := by
  obtain ⟨w1, w2, w3, w4, r1, r2, r3, r4, r5, r6, r10, r11⟩ := hRW
  have c2 : rc' ri ≠ x + 2 := fun e => by rw [e, SX_t2 hSb] at r6; exact absurd r6 (by decide)
  have c7 : rc' ri ≠ x + 7 := fun e => by rw [e, SX_t7 hSb] at r6; exact absurd r6 (by decide)
  obtain ⟨g1, g2, g3, g4, g5, g7, sI, sL, sR⟩ := sE_at (a := ra' ri) (b := rb' ri) (c := rc' ri) (k := nI k) (w := w) (S := Sb)
  obtain ⟨t1, t2, t0, t3, t4, tA, tL⟩ := tMk_at (m := m) (ri := ri) (k := nI k) (w := w) (T := T)
  have hS' : SX x (sE (ra' ri) (rb' ri) (rc' ri) (nI k) w Sb) := hSb
  generalize sE (ra' ri) (rb' ri) (rc' ri) (nI k) w Sb = S' at *
  generalize tMk m ri (nI k) w T = T' at *
  have nI' : ∀ k' q, k' ≠ 323 → k' ≠ 324 → fI S' k' q = fI Sb k' q := fun k' q y1 y2 => by rw [sI, if_neg (by omega), if_neg (by omega)]
  have nIq : ∀ k' q, q ≠ ra' ri → fI S' k' q = fI Sb k' q := fun k' q y => by rw [sI, if_neg (fun z => y z.2), if_neg (fun z => y z.2)]
  have nL' : ∀ q, q ≠ rb' ri → aL S' q = aL Sb q := fun q y => funext fun i => by rw [sL, if_neg (fun z => y z.1)]
  have nR' : ∀ q, q ≠ rc' ri → aR S' q = aR Sb q := fun q y => funext fun i => by rw [sR, if_neg (fun z => y z.1)]
  have mA : ∀ k', k' ≠ 16 → k' ≠ 17 → aI T' (m + k') = aI T (m + k') := fun k' y1 y2 => funext fun i => by rw [tA, if_neg (by omega), if_neg (by omega)]
  have mL : ∀ k', k' ≠ 18 → aL T' (m + k') = aL T (m + k') := fun k' y => funext fun i => by rw [tL, if_neg (by omega)]
  have n7 := nR' (x + 7) (fun e => c7 e.symm)
  have ag2 : HAg x Sb S' := by
    refine ⟨fun q _ => ⟨by rw [g1], by rw [g2]⟩, fun k' q _ hk' => ⟨nI' k' q (by unfold hK at hk'; omega) (by unfold hK at hk'; omega), by rw [g3], by rw [g4]⟩, fun q i _ _ => by rw [g5], fun i => by rw [nL' _ (fun e => w3 e.symm)], fun i => by rw [nR' _ (fun e => c2 e.symm)]⟩
  refine Mid_H h hS' (HAg_tr hag ag2) ⟨t1, t2, t4, fun k _ _ _ _ => by rw [t0], fun k => by rw [t3], fun k hk => mA k (by simp at hk; omega) (by simp at hk; omega), mL 26 (by omega), mL 30 (by omega)⟩ ?_ h.2.2.2.2.2.1.2.2.2.1 ⟨?_, ?_, ?_, ⟨fun i hi => ?_, ?_⟩, ?_⟩
  · unfold fre at hfb ⊢; rw [g1, g7]; exact hfb
  · exact RTh_keep hTh (fun q hq => ⟨by rw [g1]; exact hq, nI' _ _ (by omega) (by omega), by rw [g3]⟩) (by rw [t0]) (mA 14 (by omega) (by omega)) (mL 15 (by omega))
  · exact RNu_keep hNu (nL' _ (fun e => w2 e.symm)) (mL 12 (by omega))
  · exact RHa_keep hHa (nR' _ (fun e => w4 e.symm)) (mA 13 (by omega) (by omega))
  · by_cases z : i = ri
    · subst z
      have i323 : fI S' 323 (ra' i) = nI k := by rw [sI, if_neg (by omega), if_pos ⟨rfl, rfl⟩]
      have i324 : fI S' 324 (ra' i) = w := by rw [sI, if_pos ⟨rfl, rfl⟩]
      have a16 : aI T' (m + 16) i = nI k := by rw [tA, if_neg (by omega), if_pos ⟨rfl, rfl⟩]
      have a17 : aI T' (m + 17) i = w := by rw [tA, if_pos ⟨rfl, rfl⟩]
      refine Or.inr ⟨by rw [n7]; exact w1, w2, w3, w4, by rw [g1]; exact r1, (nI' _ _ (by omega) (by omega)).trans r2, by rw [g4]; exact r3, by rw [g1]; exact r4, by rw [g4]; exact r5, by rw [g1]; exact r6, ⟨k, hk, i323, a16⟩, i324.trans a17.symm, by rw [a17]; exact hw, fun y => ?_, fun y => ?_⟩
      · obtain ⟨u1, u2⟩ := r10 y
        refine ⟨by rw [g2]; exact u1, by rw [g2]; exact u2, fun j hj => ?_⟩
        rw [sL, if_pos ⟨rfl, by omega, by rw [u1]; omega⟩, tL, if_pos ⟨rfl, by omega, by omega⟩]
      · obtain ⟨u1, u2⟩ := r11 y
        refine ⟨by rw [g2]; exact u1, by rw [g2]; exact u2, fun j hj => ⟨0, ?_, Or.inl ⟨?_, rfl⟩⟩⟩
        · rw [tL, if_pos ⟨rfl, by omega, by omega⟩]; rfl
        · rw [sR, if_pos ⟨rfl, by omega, by rw [u2]; omega⟩]
    · have b16 : aI T' (m + 16) i = aI T (m + 16) i := by rw [tA, if_neg (by omega), if_neg (by omega)]
      have b17 : aI T' (m + 17) i = aI T (m + 17) i := by rw [tA, if_neg (by omega), if_neg (by omega)]
      rcases hRo.1 i hi z with y | ⟨y1, y2, y3, y4, y5⟩
      · exact Or.inl ⟨by rw [n7]; exact y.1, b16.trans y.2⟩
      · obtain ⟨d1, d2, d3⟩ := hRo.2 i ri hi hri z (Or.inr (by rw [y1]; intro e; cases e)) (Or.inl rfl)
        refine Or.inr ⟨by rw [n7]; exact y1, y2, y3, y4, RRo1_keep y5 (fun q => ⟨by rw [g1]; exact q, fun k _ _ => ⟨nIq _ _ d1, by rw [g4]⟩⟩) (fun q => ⟨by rw [g1]; exact q, by rw [g2], nL' _ d2⟩) (fun q => ⟨by rw [g1]; exact q, by rw [g2], nR' _ d3⟩) b16 b17 (fun j hj => by rw [tL, if_neg (by omega)])⟩
  · intro i j hi hj hne h1 h2
    rw [n7] at h1 h2
    exact hRo.2 i j hi hj hne (Or.inr h1) (Or.inr h2)
  · exact RGr_keep hGr (fun k _ _ => nI' _ _ (by omega) (by omega)) (by rw [g5]) (fun k _ _ => by rw [t0]) (mA 19 (by omega) (by omega))
