/-! TELL; the throws -/
theorem n_ne {i k : Nat} (hi : i < 2147483648) (hk : k < 2147483648) (h : i ≠ k) : ¬ nI i = nI k := fun e => h ((n_eq hi hk).mp e)
theorem r_reckons {m p j jb jc : Nat} {o b : Int32} {T : Sg} {Q : Int32 → Sg → Prop} (hM : MX m T) (hp : p < 2000) (e1 : aI T (m + 1) p = o) (e2 : aI T (m + 2) p &&& 7 = nI j) (e3 : aI T (m + 3) p = b) (e3' : b &&& 7 = nI jb) (e4 : aI T (m + 4) p &&& 7 = nI jc) (hj : j < 8) (hjb : jb < 8) (hjc : jc < 8) (h : if o = 0 then (if (500 : Int32) ≤ fI T 754 m then Q 0 T else vp_in (fI T 754 m) 500 ∧ Q 0 (sFI (sAL T (m + 30) (fI T 754 m).toNatClampNeg (aL T (m + 12) j)) 754 m (fI T 754 m + 1))) else if o = 1 then Q 0 (sAL T (m + 12) j b.toInt64) else if o = 2 then Q 0 (sAL T (m + 12) j (aL T (m + 12) jb + aL T (m + 12) jc)) else if o = 3 then Q 0 (sAL T (m + 12) j (aL T (m + 12) jb - aL T (m + 12) jc)) else if o = 4 then Q 0 (sAL T (m + 12) j (aL T (m + 12) jb * aL T (m + 12) jc)) else wX11_divides m (nI p) (nI j) (aL T (m + 12) jb) (aL T (m + 12) jc) T (fun r S => Q r S)) : wX11_reckons m (nI p) T Q := by
  have ep : (nI p).toNatClampNeg = p := n_cl (by omega)
  have ej : (nI j).toNatClampNeg = j := n_cl (by omega)
  have ejb : (nI jb).toNatClampNeg = jb := n_cl (by omega)
  have ejc : (nI jc).toNatClampNeg = jc := n_cl (by omega)
  have v12 : ∀ i, i < 8 → vp_in (nI i) (ln T (m + 12)) := fun i hi => by rw [MX_l12 hM]; exact vp_n hi (by omega)
  unfold wX11_reckons
  refine ⟨m + 2, MX_r705 hM, MX_t2 hM, by rw [MX_l2 hM]; exact vp_n hp (by omega), ?_⟩
  rw [ep, e2]
  refine nm_e ⟨m + 3, MX_r706 hM, MX_t3 hM, by rw [MX_l3 hM]; exact vp_n hp (by omega), m + 12, MX_r717 hM, MX_t12 hM, ?_⟩
  rw [e3, e3']
  refine ⟨v12 jb hjb, nm_e ⟨m + 4, MX_r707 hM, MX_t4 hM, by rw [MX_l4 hM]; exact vp_n hp (by omega), ?_⟩⟩
  rw [e4]
  refine ⟨v12 jc hjc, nm_e ⟨m + 1, MX_r704 hM, MX_t1 hM, by rw [MX_l1 hM]; exact vp_n hp (by omega), ?_⟩⟩
  rw [e1, ejb, ejc, ej]
  by_cases c0 : o = 0
  · rw [if_pos c0] at h ⊢
    by_cases c : (500 : Int32) ≤ fI T 754 m
    · rw [if_pos c] at h ⊢; exact h
    · rw [if_neg c] at h ⊢
      obtain ⟨h1, h2⟩ := h
      refine ⟨v12 j hj, m + 30, MX_r753 hM, MX_t30 hM, by rw [MX_l30 hM]; exact h1, ?_⟩
      intro S20 e20
      have g : fI S20 754 m = fI T 754 m := by rw [e20]; simp only [gs_AL]
      rw [g, e20]
      exact nm_e h2
  rw [if_neg c0] at h ⊢
  by_cases c1 : o = 1
  · rw [if_pos c1] at h ⊢
    exact ⟨by rw [MX_l3 hM]; exact vp_n hp (by omega), v12 j hj, nm_e h⟩
  rw [if_neg c1] at h ⊢
  by_cases c2 : o = 2
  · rw [if_pos c2] at h ⊢
    exact ⟨v12 j hj, nm_e h⟩
  rw [if_neg c2] at h ⊢
  by_cases c3 : o = 3
  · rw [if_pos c3] at h ⊢
    exact ⟨v12 j hj, nm_e h⟩
  rw [if_neg c3] at h ⊢
  by_cases c4 : o = 4
  · rw [if_pos c4] at h ⊢
    exact ⟨v12 j hj, nm_e h⟩
  rw [if_neg c4] at h ⊢
  exact h
theorem Mid_tell {x m n nn a : Nat} {st : Nat → Nat} {op oa ob oc : Nat → Int32} {N : Nat} {th ra rb rc : Nat → Nat} {F : Nat} {fa : Nat → Nat} {L : List FrT} {left took o : Nat} {v : Int64} {S T : Sg} (h : Mid x m n nn a st op oa ob oc N th ra rb rc F fa L left took S T) (ho : o < 500) (h261 : fI S 261 (x + 10) = nI o) (h754 : fI T 754 m = nI o) : Mid x m n nn a st op oa ob oc N th ra rb rc F fa L left took (sFI (sAL S (x + 11) o v) 261 (x + 10) (nI (o + 1))) (sFI (sAL T (m + 30) o v) 754 m (nI (o + 1))) := by
  obtain ⟨h1, h2, ⟨h3, h3', h3''⟩, h4, h5, h6, h7, h8⟩ := h
  have hS := h1.1
  have cs : CAg x S (sFI (sAL S (x + 11) o v) 261 (x + 10) (nI (o + 1))) := CAg_tr CAg_AL (CAg_FI (by unfold cK; omega))
  have ct : TCA m T (sFI (sAL T (m + 30) o v) 754 m (nI (o + 1))) := TCA_tr (TCA_AL (by omega)) (TCA_FI (by decide))
  have hS' : SX x (sFI (sAL S (x + 11) o v) 261 (x + 10) (nI (o + 1))) := (SX_sFI _ _ _).mpr ((SX_sAL _ _ _).mpr hS)
  have ni : ∀ k q, k ≠ 261 → fI (sFI (sAL S (x + 11) o v) 261 (x + 10) (nI (o + 1))) k q = fI S k q := fun k q hk => by simp only [gs_FI, gs_AL]; rw [if_neg (by omega)]
  have n1 : fI (sFI (sAL S (x + 11) o v) 261 (x + 10) (nI (o + 1))) 261 (x + 10) = nI (o + 1) := by simp only [gs_FI]; rw [if_pos ⟨trivial, trivial⟩]
  have nt : ∀ k, k ≠ 754 → fI (sFI (sAL T (m + 30) o v) 754 m (nI (o + 1))) k m = fI T k m := fun k hk => by simp only [gs_FI, gs_AL]; rw [if_neg (by omega)]
  have t1 : fI (sFI (sAL T (m + 30) o v) 754 m (nI (o + 1))) 754 m = nI (o + 1) := by simp only [gs_FI]; rw [if_pos ⟨trivial, trivial⟩]
  have gs : tg (sFI (sAL S (x + 11) o v) 261 (x + 10) (nI (o + 1))) = tg S ∧ fL (sFI (sAL S (x + 11) o v) 261 (x + 10) (nI (o + 1))) = fL S ∧ fR (sFI (sAL S (x + 11) o v) 261 (x + 10) (nI (o + 1))) = fR S ∧ aI (sFI (sAL S (x + 11) o v) 261 (x + 10) (nI (o + 1))) = aI S ∧ sz (sFI (sAL S (x + 11) o v) 261 (x + 10) (nI (o + 1))) = sz S ∧ ∀ i, aL (sFI (sAL S (x + 11) o v) 261 (x + 10) (nI (o + 1))) (x + 11) i = if i = o then v else aL S (x + 11) i := by
    refine ⟨by simp only [gs_FI, gs_AL], by simp only [gs_FI, gs_AL], by simp only [gs_FI, gs_AL], by simp only [gs_FI, gs_AL], by simp only [gs_FI, gs_AL], fun i => ?_⟩
    simp only [gs_FI, gs_AL, true_and]
  have gt : fL (sFI (sAL T (m + 30) o v) 754 m (nI (o + 1))) = fL T ∧ aI (sFI (sAL T (m + 30) o v) 754 m (nI (o + 1))) = aI T ∧ (∀ i, aL (sFI (sAL T (m + 30) o v) 754 m (nI (o + 1))) (m + 30) i = if i = o then v else aL T (m + 30) i) ∧ ∀ i, aL (sFI (sAL T (m + 30) o v) 754 m (nI (o + 1))) (m + 26) i = aL T (m + 26) i := by
    refine ⟨by simp only [gs_FI, gs_AL], by simp only [gs_FI, gs_AL], fun i => ?_, fun i => ?_⟩
    · simp only [gs_FI, gs_AL, true_and]
    · simp only [gs_FI, gs_AL]; rw [if_neg (by omega)]
  generalize sFI (sAL S (x + 11) o v) 261 (x + 10) (nI (o + 1)) = S' at *
  generalize sFI (sAL T (m + 30) o v) 754 m (nI (o + 1)) = T' at *
  obtain ⟨g1, g3, g4, g5, g8, g6⟩ := gs
  obtain ⟨k3, k5, k6, k7⟩ := gt
  refine ⟨St_C h1 hS' cs ct, Ho_C h2 hS cs ct, ⟨RFa_keep h3 (fun q hq => ⟨by rw [g1]; exact hq, ni _ _ (by omega), by rw [g4]⟩) ⟨by rw [k5], by rw [k5]⟩, h3', (nt 745 (by omega)).trans h3''⟩, ?_, ?_, ?_, ?_, ?_⟩
  · obtain ⟨c1, c2, c3, c4, c5, ⟨o', o1, o2, o3, o4⟩, ⟨q, q1, q2, q3, q4⟩, c8, c9⟩ := h4
    have eo : o' = o := by rw [h261] at o2; exact ((n_eq (by omega) (by omega)).mp o2).symm
    subst eo
    refine ⟨(ni _ _ (by omega)).trans c1, by rw [g3]; exact c2, by rw [g4]; exact c3, by rw [k3]; exact c4, (nt _ (by omega)).trans c5, ⟨o' + 1, by omega, n1, t1, fun i hi => ?_⟩, ⟨q, q1, (ni _ _ (by omega)).trans q2, (nt _ (by omega)).trans q3, fun i hi => by rw [g5, k5]; exact q4 i hi⟩, ?_, ?_⟩
    · rw [g6, k6]
      by_cases z : i = o'
      · rw [if_pos z, if_pos z]
      · rw [if_neg z, if_neg z]; exact o4 i (by omega)
    · rw [ni _ _ (by omega), nt _ (by omega)]; exact c8
    · rw [ni _ _ (by omega), nt _ (by omega)]; exact c9
  · obtain ⟨c1, c2, c3, c4, c5, c6, c7, c8⟩ := h5
    exact ⟨c1, c2, (ni _ _ (by omega)).trans c3, (nt _ (by omega)).trans c4, (nt _ (by omega)).trans c5, (ni _ _ (by omega)).trans c6, (nt _ (by omega)).trans c7, c8⟩
  · obtain ⟨c1, c2, c3, c4, c5⟩ := h6
    refine ⟨(ni _ _ (by omega)).trans c1, (nt _ (by omega)).trans c2, c3, c4, ?_⟩
    rw [ni _ _ (by omega), nt _ (by omega)]; exact c5
  · exact StkR_keep (Nat.le_refl _) (fun _ _ _ => rfl) L (fun g hg => ⟨by rw [g1], fun k _ _ => ⟨ni _ _ (by omega), by rw [g3], by rw [g4]⟩⟩) (fun i _ => ⟨fun k _ _ => by rw [k5], k7 i⟩) h7
  · unfold fre; rw [g1, g8]; exact h8
theorem step_tell {x m n nn a : Nat} {st : Nat → Nat} {op oa ob oc : Nat → Int32} {N : Nat} {th ra rb rc : Nat → Nat} {F : Nat} {fa : Nat → Nat} {f : FrT} {L : List FrT} {p left took : Nat} {S T0 : Sg} (h0 : TK x m n nn a st op oa ob oc N th ra rb rc F fa f L p left took S T0) (ho : op p = 0) : StepS x m n nn a st op oa ob oc N th ra rb rc F fa f L p left took S := by
  obtain ⟨hp, hn⟩ := TK_p h0
  obtain ⟨s1, s2, s3, s4, s5, s6, s7, s8, s9, s10, -⟩ := St_st h0.1.1 hp
  have hS := h0.1.1.1
  have h582 := h0.2.1.2.1
  obtain ⟨j, hj, ej⟩ := and7_of (oa p)
  obtain ⟨jb, hjb, ejb⟩ := and7_of (ob p)
  obtain ⟨jc, hjc, ejc⟩ := and7_of (oc p)
  obtain ⟨o, o1, o2, -, -⟩ := h0.1.2.2.2.1.2.2.2.2.2.1
  have h754 : ∀ T, TK x m n nn a st op oa ob oc N th ra rb rc F fa f L p left took S T → fI T 754 m = nI o := by
    intro T hT
    obtain ⟨o', o1', o2', o3', -⟩ := hT.1.2.2.2.1.2.2.2.2.2.1
    rw [o2] at o2'
    rw [(n_eq (by omega) (by omega)).mp o2']; exact o3'
  have cls : ∀ Q : Sg → Prop, wX4_tell (x + 10) (aL S (x + 5) j) S (fun (S8 : Sg) => ∀ S9 : Sg, S9 = sFI S8 582 (x + 13) ((fI S8 582 (x + 13)) + (1 : Int32)) → Q S9) → wX9_workStep (x + 13) (some f.1) (some (st p)) S Q := by
    intro Q hQ
    unfold wX9_workStep
    refine ⟨st p, rfl, s2, ?_⟩
    rw [s5, ho, if_pos rfl]
    refine ⟨x + 4, SX_r577 hS, SX_t4 hS, ?_⟩
    rw [s6]
    exact r_numberOf hS ej hj ⟨x + 10, SX_r578 hS, SX_t10 hS, hQ⟩
  have ref : ∀ T, TK x m n nn a st op oa ob oc N th ra rb rc F fa f L p left took S T → ∀ (T1 : Sg), (∀ Q : Int32 → Sg → Prop, Q 0 T1 → (if (500 : Int32) ≤ fI T 754 m then Q 0 T else vp_in (fI T 754 m) 500 ∧ Q 0 (sFI (sAL T (m + 30) (fI T 754 m).toNatClampNeg (aL T (m + 12) j)) 754 m (fI T 754 m + 1)))) → ∀ Q : Sg → Prop, Q (sFI T1 738 m (nI (p + 1))) → goB m (nI p) (op p) T Q := by
    intro T hT T1 h1 Q hQ
    unfold goB
    rw [ho, if_neg (by decide), if_neg (by decide)]
    obtain ⟨-, -, -, -, -, f1, f2, f3, f4⟩ := hT.1.1
    refine r_reckons hT.1.1.2.1 (by omega) (by rw [f1]) (by rw [f2]; exact ej) (by rw [f3]) ejb (by rw [f4]; exact ejc) hj hjb hjc ?_
    rw [ho, if_pos rfl]
    exact h1 (fun r S => wX11_goOn m (nI p) r S (fun S => Q S)) (r_goOn0 rfl hQ)
  by_cases c : o = 500
  · refine StepS_on (S1 := S) (N' := N) (th' := th) (ra' := ra) (rb' := rb) (rc' := rc) (F' := F) (fa' := fa) (fun Q hQ => cls Q ?_) (fun T hT => ⟨T, ref T hT T (fun Q hQ => ?_), hT.1, hT.2.1.1, hT.2.1.2.2.2.2, hT.2.1.2.2.2.1⟩)
    · unfold wX4_tell
      rw [o2, if_neg (n_neg (by omega))]
      refine ⟨x + 11, SX_r256 hS, SX_t11 hS, ?_⟩
      rw [SX_l11 hS, if_pos (by rw [n_le (by omega) (by omega)]; omega)]
      dsimp only
      rw [h582, nI_1]
      exact nm_e hQ
    · rw [h754 T hT, if_pos (by rw [show (500 : Int32) = nI 500 from rfl, n_le (by omega) (by omega)]; omega)]
      exact hQ
  · have ho5 : o < 500 := by omega
    refine StepS_on (S1 := sFI (sAL S (x + 11) o (aL S (x + 5) j)) 261 (x + 10) (nI (o + 1))) (N' := N) (th' := th) (ra' := ra) (rb' := rb) (rc' := rc) (F' := F) (fa' := fa) (fun Q hQ => cls Q ?_) (fun T hT => ⟨sFI (sAL T (m + 30) o (aL S (x + 5) j)) 754 m (nI (o + 1)), ref T hT _ (fun Q hQ => ?_), Mid_tell hT.1 ho5 o2 (h754 T hT), ?_, ?_, ?_⟩)
    · unfold wX4_tell
      rw [o2, if_neg (n_neg (by omega))]
      refine ⟨x + 11, SX_r256 hS, SX_t11 hS, ?_⟩
      rw [SX_l11 hS, if_neg (by rw [n_le (by omega) (by omega)]; omega), n_cl (by omega)]
      refine ⟨vp_n ho5 (by omega), ?_⟩
      intro S5 e5
      have g5 : fI S5 261 (x + 10) = nI o := by rw [e5]; simp only [gs_AL]; exact o2
      rw [g5, nI_1]
      intro S6 e6
      have g6 : fI S6 582 (x + 13) = nI p := by rw [e6, e5]; simp only [gs_FI, gs_AL]; rw [if_neg (by omega)]; exact h582
      rw [g6, nI_1, e6, e5]
      exact nm_e hQ
    · rw [h754 T hT, if_neg (by rw [show (500 : Int32) = nI 500 from rfl, n_le (by omega) (by omega)]; omega), n_cl (by omega), nI_1]
      refine ⟨vp_n ho5 (by omega), ?_⟩
      rw [← hT.1.2.1.2.1 j hj]
      exact hQ
    · simp only [gs_FI, gs_AL]; rw [if_neg (by omega)]; exact hT.2.1.1
    · simp only [gs_FI, gs_AL]; exact hT.2.1.2.2.2.2
    · simp only [gs_FI, gs_AL]; rw [if_neg (by omega)]; exact hT.2.1.2.2.2.1
