/-! a trial's FINISH begins -/
def sFn (x q qn k : Nat) (cc : Int32) (v : Int64) (o : Option Nat) (be p : Nat) (S : Sg) : Sg := sFI (sFI (sFI (sFI (sFR (sFL (sFI (sFI (sAI S (x + 12) qn (nI k)) 262 (x + 10) (nI (qn + 1))) 70 q cc) 71 q v) 72 q o) 68 q 2) 67 q (nI be)) 582 (x + 13) (nI p)) 584 (x + 13) 0
def tFn (m d qn k : Nat) (wc : Int32) (v : Int64) (j : Int32) (p : Nat) (T : Sg) : Sg := sFI (sFI (sAI (sAI (sAL (sAI (sAI T (m + 23) d 2) (m + 25) d wc) (m + 26) d v) (m + 27) d j) (m + 31) qn (nI k)) 756 m (nI (qn + 1))) 738 m (nI p)
theorem finish_sim {x m n nn a : Nat} {st : Nat → Nat} {op oa ob oc : Nat → Int32} {N : Nat} {th ra rb rc : Nat → Nat} {F : Nat} {fa : Nat → Nat} {q r g : Nat} {L : List FrT} {left took k e : Nat} {S T0 : Sg} (h0 : MC x m n nn a st op oa ob oc N th ra rb rc F fa ((q, r, some k, g) :: L) left took S T0) (h25 : op k = 25) (hg : g ≤ 1) (he : (b_at op oc n).2.2.1 k = some e) :
    ∃ S', (∀ Q : Sg → Prop, Q S' → wX9_settleTrial_b85 (x + 13) (some q) S Q) ∧ ∀ T, MC x m n nn a st op oa ob oc N th ra rb rc F fa ((q, r, some k, g) :: L) left took S T → ∃ T', (∀ Q : Int32 → Sg → Prop, Q 0 T' → wX11_comesOfTrial_b149 m (nI L.length) (nI k) T Q) ∧ MW x m n nn a st op oa ob oc N th ra rb rc F fa ((q, r, some k, 2) :: L) (e + 1) left took S' T' := by
  have hB : kd op (some k) ≠ 0 := kd_isB.mpr (Or.inl h25)
  have hkd : kd op (some k) = 1 := by unfold kd; dsimp only; rw [h25]; rfl
  have hS := h0.1.1.1
  obtain ⟨c1, c2, c3, c4, c5, c6, c7, c8, c9, c10, c11, -, -, -, -, -, -, c12, c13, c14⟩ := fr_blk (k := k) h0.1.1 h0.1.2.2.2.2.2.2.1.1 rfl hB
  dsimp only at c3 c4 c5 c6 c12 c13 c14
  have s448 := (St_st h0.1.1 c1).2.2.2.1
  have hd : L.length + 1 ≤ 200 := h0.1.2.2.2.2.1.2.2.2.2.2.2.2
  have hen : e < n := b_vn.2.1 e he
  have q13 : q ≠ x + 13 := fun e => by rw [e, SX_t13 hS] at c3; exact absurd c3 (by decide)
  have q10 : q ≠ x + 10 := fun e => by rw [e, SX_t10 hS] at c3; exact absurd c3 (by decide)
  have hct : ctL op ((q, r, some k, g) :: L) = 1 + ctL op L := by
    show (if kd op (some k) = 1 ∧ g ≤ 1 then 1 else 0) + ctL op L = _
    rw [hkd, if_pos ⟨rfl, hg⟩]
  obtain ⟨qn, n1, n2, -⟩ := h0.1.2.2.2.1.2.2.2.2.2.2.1
  have hqn : qn < 1000 := by
    have w1 := h0.1.2.2.2.2.1.1
    have w2 := h0.1.2.2.2.2.1.2.1
    rw [hct] at n1
    omega
  refine ⟨sFn x q qn k (fI S 584 (x + 13)) (fL S 585 (x + 13)) (fR S 586 (x + 13)) (bE (rH op oc n r) (b_at op oc n) k) (e + 1) S, fun Q hQ => ?_, fun T hT => ⟨tFn m L.length qn k (fI T 740 m) (fL T 741 m) (fI T 742 m) (e + 1) T, fun Q hQ => ?_, ?_⟩⟩
  · unfold wX9_settleTrial_b85
    refine ⟨q, rfl, c3, st k, c6, c7, ?_⟩
    rw [c10, he, show opI (some e) = nI e from rfl, if_neg (n_neg (by omega))]
    unfold wX9_beginFinish
    refine ⟨q, rfl, c3, st k, c6, c7, x + 10, SX_r578 hS, SX_t10 hS, ?_⟩
    rw [s448]
    unfold wX4_noteFinish
    rw [n2, if_neg (n_neg (by omega))]
    refine ⟨x + 12, SX_r257 hS, SX_t12 hS, ?_⟩
    rw [SX_l12 hS, if_neg (by rw [n_le (by omega) (by omega)]; omega)]
    refine ⟨vp_n (by omega) (by omega), ?_⟩
    rw [n_cl (by omega)]
    intro S5 e5 S6 e6
    have g262 : fI S5 262 (x + 10) = nI qn := by rw [e5]; simp only [gs_AI]; exact n2
    rw [g262, nI_1] at e6
    have i6 : ∀ k' a', k' ≠ 262 → fI S6 k' a' = fI S k' a' := fun k' a' hk' => by rw [e6, e5]; simp only [gs_FI, gs_AI]; rw [if_neg (by omega)]
    have o6 : tg S6 = tg S ∧ fL S6 = fL S ∧ fR S6 = fR S := by rw [e6, e5]; simp only [gs_FI, gs_AI]; exact ⟨trivial, trivial, trivial⟩
    intro S7 e7 S8 e8 S9 e9
    rw [i6 584 _ (by omega)] at e7
    have g8 : fL S7 585 (x + 13) = fL S 585 (x + 13) := by rw [e7]; simp only [gs_FI]; rw [o6.2.1]
    rw [g8] at e8
    have g9 : fR S8 586 (x + 13) = fR S 586 (x + 13) := by rw [e8, e7]; simp only [gs_FI, gs_FL]; rw [o6.2.2]
    rw [g9] at e9
    have i9 : ∀ k' a', k' ≠ 262 → k' ≠ 70 → fI S9 k' a' = fI S k' a' := fun k' a' hk' hk2 => by rw [e9, e8, e7]; simp only [gs_FR, gs_FI, gs_FL]; rw [if_neg (by omega)]; exact i6 _ _ hk'
    have r9 : ∀ k' a', k' ≠ 72 → fR S9 k' a' = fR S k' a' := fun k' a' hk' => by rw [e9, e8, e7]; simp only [gs_FR, gs_FI, gs_FL]; rw [if_neg (by omega), o6.2.2]
    have t9 : tg S9 = tg S := by rw [e9, e8, e7]; simp only [gs_FR, gs_FI, gs_FL]; exact o6.1
    refine ⟨st k, (r9 64 q (by omega)).trans c6, by rw [t9]; exact c7, ?_⟩
    refine r_blockEnd (k := k) (s := b_at op oc n) (hi := rH op oc n r) ((r9 64 q (by omega)).trans c6) (by rw [t9]; exact c7) ((i9 _ _ (by omega) (by omega)).trans c11) (fun e he => by have := b_vn.2.2 e he; omega) ((i9 _ _ (by omega) (by omega)).trans c5) ?_
    rw [i9 455 (st k) (by omega) (by omega), c10, he, show opI (some e) = nI e from rfl, nI_1]
    unfold wX9_beginPart
    refine ⟨q, rfl, by rw [t9]; exact c3, ?_⟩
    intro S10 e10 S11 e11 S12 e12 S13 e13
    unfold sFn at hQ
    rw [e13, e12, e11, e10, e9, e8, e7, e6, e5]; exact hQ
  · have hM := hT.1.1.2.1
    obtain ⟨-, -, -, -, -, -, -, -, -, -, -, d1, d2, d3, d4, -⟩ := fr_blk (k := k) hT.1.1 hT.1.2.2.2.2.2.2.1.1 rfl hB
    have n3 : fI T 756 m = nI qn := by
      obtain ⟨qn', w1, n2', n3', -⟩ := hT.1.2.2.2.1.2.2.2.2.2.2.1
      rw [hct] at w1
      have w2 := hT.1.2.2.2.2.1.1
      have w3 := hT.1.2.2.2.2.1.2.1
      have : qn = qn' := (n_eq (by omega) (by omega)).mp (n2.symm.trans n2')
      rw [this]; exact n3'
    unfold wX11_comesOfTrial_b149
    refine ⟨m + 7, MX_r711 hM, MX_t7 hM, by rw [MX_l7 hM]; exact vp_n (by omega) (by omega), ?_⟩
    rw [n_cl (by omega), d4, he, show opI (some e) = nI e from rfl, if_pos (Int32.not_lt.mp (n_neg (by omega)))]
    refine ⟨m + 23, MX_r732 hM, MX_t23 hM, by rw [MX_l23 hM]; exact vp_n (by omega) (by omega), ?_⟩
    rw [n_cl (by omega)]
    intro S14 e14
    have hM14 : MX m S14 := by rw [e14]; simp only [MX_sAI]; exact hM
    refine ⟨m + 25, MX_r734 hM14, MX_t25 hM14, by rw [MX_l25 hM14]; exact vp_n (by omega) (by omega), ?_⟩
    intro S17 e17
    have hM17 : MX m S17 := by rw [e17]; simp only [MX_sAI]; exact hM14
    refine ⟨m + 26, MX_r735 hM17, MX_t26 hM17, by rw [MX_l26 hM17]; exact vp_n (by omega) (by omega), ?_⟩
    intro S20 e20
    have hM20 : MX m S20 := by rw [e20]; simp only [MX_sAL]; exact hM17
    refine ⟨m + 27, MX_r736 hM20, MX_t27 hM20, by rw [MX_l27 hM20]; exact vp_n (by omega) (by omega), ?_⟩
    intro S23 e23
    have hM23 : MX m S23 := by rw [e23]; simp only [MX_sAI]; exact hM20
    have f14 : fI S14 740 m = fI T 740 m := by rw [e14]; simp only [gs_AI]
    have f17 : fL S17 741 m = fL T 741 m := by rw [e17, e14]; simp only [gs_AI]
    have f20 : fI S20 742 m = fI T 742 m := by rw [e20, e17, e14]; simp only [gs_AI, gs_AL]
    have f23 : fI S23 756 m = nI qn := by rw [e23, e20, e17, e14]; simp only [gs_AI, gs_AL]; exact n3
    refine ⟨m + 31, MX_r755 hM23, MX_t31 hM23, by rw [f23, MX_l31 hM23]; exact vp_n (by omega) (by omega), ?_⟩
    rw [f23, n_cl (by omega)]
    intro S26 e26 S27 e27
    have f26 : fI S26 756 m = nI qn := by rw [e26]; simp only [gs_AI]; exact f23
    rw [f26, nI_1] at e27
    have hM27 : MX m S27 := by rw [e27, e26]; simp only [MX_sAI, MX_sFI]; exact hM23
    refine ⟨by rw [MX_l7 hM27]; exact vp_n (by omega) (by omega), ?_⟩
    have g7 : aI S27 (m + 7) k = nI e := by
      rw [e27, e26, e23, e20, e17, e14]; simp only [gs_FI, gs_AI, gs_AL]
      rw [if_neg (by omega), if_neg (by omega), if_neg (by omega), if_neg (by omega), d4, he]; rfl
    rw [g7, nI_1]
    intro S30 e30
    rw [f14] at e17
    rw [f17] at e20
    rw [f20] at e23
    unfold tFn at hQ
    rw [e30, e27, e26, e23, e20, e17, e14]; exact hQ
  · obtain ⟨hMid, hCm⟩ := hT
    obtain ⟨h1, h2, ⟨h3, h3', h3''⟩, h4, h5, h6, h7, h8⟩ := hMid
    have h739 := hCm.2.1
    have h580 := hCm.2.2.1
    have hCV := hCm.1
    have tgS : tg (sFn x q qn k (fI S 584 (x + 13)) (fL S 585 (x + 13)) (fR S 586 (x + 13)) (bE (rH op oc n r) (b_at op oc n) k) (e + 1) S) = tg S ∧ aL (sFn x q qn k (fI S 584 (x + 13)) (fL S 585 (x + 13)) (fR S 586 (x + 13)) (bE (rH op oc n r) (b_at op oc n) k) (e + 1) S) = aL S ∧ sz (sFn x q qn k (fI S 584 (x + 13)) (fL S 585 (x + 13)) (fR S 586 (x + 13)) (bE (rH op oc n r) (b_at op oc n) k) (e + 1) S) = sz S := by
      unfold sFn; simp only [gs_FI, gs_FR, gs_FL, gs_AI]; exact ⟨trivial, trivial, trivial⟩
    have sI : ∀ k' a', fI (sFn x q qn k (fI S 584 (x + 13)) (fL S 585 (x + 13)) (fR S 586 (x + 13)) (bE (rH op oc n r) (b_at op oc n) k) (e + 1) S) k' a' = if k' = 584 ∧ a' = x + 13 then 0 else if k' = 582 ∧ a' = x + 13 then nI (e + 1) else if k' = 67 ∧ a' = q then nI (bE (rH op oc n r) (b_at op oc n) k) else if k' = 68 ∧ a' = q then 2 else if k' = 70 ∧ a' = q then fI S 584 (x + 13) else if k' = 262 ∧ a' = x + 10 then nI (qn + 1) else fI S k' a' := by
      intro k' a'; unfold sFn; simp only [gs_FI, gs_FR, gs_FL, gs_AI]
    have sR : ∀ k' a', fR (sFn x q qn k (fI S 584 (x + 13)) (fL S 585 (x + 13)) (fR S 586 (x + 13)) (bE (rH op oc n r) (b_at op oc n) k) (e + 1) S) k' a' = if k' = 72 ∧ a' = q then fR S 586 (x + 13) else fR S k' a' := by
      intro k' a'; unfold sFn; simp only [gs_FI, gs_FR, gs_FL, gs_AI]
    have sL : ∀ k' a', fL (sFn x q qn k (fI S 584 (x + 13)) (fL S 585 (x + 13)) (fR S 586 (x + 13)) (bE (rH op oc n r) (b_at op oc n) k) (e + 1) S) k' a' = if k' = 71 ∧ a' = q then fL S 585 (x + 13) else fL S k' a' := by
      intro k' a'; unfold sFn; simp only [gs_FI, gs_FR, gs_FL, gs_AI]
    have sA : ∀ a' i, aI (sFn x q qn k (fI S 584 (x + 13)) (fL S 585 (x + 13)) (fR S 586 (x + 13)) (bE (rH op oc n r) (b_at op oc n) k) (e + 1) S) a' i = if a' = x + 12 ∧ i = qn then nI k else aI S a' i := by
      intro a' i; unfold sFn; simp only [gs_FI, gs_FR, gs_FL, gs_AI]
    have cS : CAg x S (sFn x q qn k (fI S 584 (x + 13)) (fL S 585 (x + 13)) (fR S 586 (x + 13)) (bE (rH op oc n r) (b_at op oc n) k) (e + 1) S) := by
      unfold sFn
      exact CAg_tr CAg_AI (CAg_tr (CAg_FI (by unfold cK; omega)) (CAg_tr (CAg_FI (by unfold cK; omega)) (CAg_tr (CAg_FL (by unfold cK; omega)) (CAg_tr (CAg_FR (by unfold cK; omega)) (CAg_tr (CAg_FI (by unfold cK; omega)) (CAg_tr (CAg_FI (by unfold cK; omega)) (CAg_tr (CAg_FI (by unfold cK; omega)) (CAg_FI (by unfold cK; omega)))))))))
    have hS' : SX x (sFn x q qn k (fI S 584 (x + 13)) (fL S 585 (x + 13)) (fR S 586 (x + 13)) (bE (rH op oc n r) (b_at op oc n) k) (e + 1) S) := by
      unfold sFn
      simp only [SX_sFI]
      exact (SX_sFR (by decide)).mpr ((SX_sFL _ _ _).mpr ((SX_sFI _ _ _).mpr ((SX_sFI _ _ _).mpr ((SX_sAI _ _ _).mpr hS))))
    have tI : ∀ k', fI (tFn m L.length qn k (fI T 740 m) (fL T 741 m) (fI T 742 m) (e + 1) T) k' m = if k' = 738 ∧ m = m then nI (e + 1) else if k' = 756 ∧ m = m then nI (qn + 1) else fI T k' m := by
      intro k'; unfold tFn; simp only [gs_FI, gs_AI, gs_AL]
    have tA : ∀ a' i, aI (tFn m L.length qn k (fI T 740 m) (fL T 741 m) (fI T 742 m) (e + 1) T) a' i = if a' = m + 31 ∧ i = qn then nI k else if a' = m + 27 ∧ i = L.length then fI T 742 m else if a' = m + 25 ∧ i = L.length then fI T 740 m else if a' = m + 23 ∧ i = L.length then 2 else aI T a' i := by
      intro a' i; unfold tFn; simp only [gs_FI, gs_AI, gs_AL]
    have tL : ∀ a' i, aL (tFn m L.length qn k (fI T 740 m) (fL T 741 m) (fI T 742 m) (e + 1) T) a' i = if a' = m + 26 ∧ i = L.length then fL T 741 m else aL T a' i := by
      intro a' i; unfold tFn; simp only [gs_FI, gs_AI, gs_AL]
    have tgT : fL (tFn m L.length qn k (fI T 740 m) (fL T 741 m) (fI T 742 m) (e + 1) T) = fL T := by
      unfold tFn; simp only [gs_FI, gs_AI, gs_AL]
    have cT : TCA m T (tFn m L.length qn k (fI T 740 m) (fL T 741 m) (fI T 742 m) (e + 1) T) := by
      unfold tFn
      exact TCA_tr (TCA_AI (by omega)) (TCA_tr (TCA_AI (by omega)) (TCA_tr (TCA_AL (by omega)) (TCA_tr (TCA_AI (by omega)) (TCA_tr (TCA_AI (by omega)) (TCA_tr (TCA_FI (by decide)) (TCA_FI (by decide)))))))
    generalize sFn x q qn k (fI S 584 (x + 13)) (fL S 585 (x + 13)) (fR S 586 (x + 13)) (bE (rH op oc n r) (b_at op oc n) k) (e + 1) S = S' at *
    generalize tFn m L.length qn k (fI T 740 m) (fL T 741 m) (fI T 742 m) (e + 1) T = T' at *
    obtain ⟨g1, g4, g5⟩ := tgS
    have nI' : ∀ k' a', k' ≠ 584 → k' ≠ 582 → k' ≠ 67 → k' ≠ 68 → k' ≠ 70 → k' ≠ 262 → fI S' k' a' = fI S k' a' := fun k' a' w1 w2 w3 w4 w5 w6 => by rw [sI, if_neg (by omega), if_neg (by omega), if_neg (by omega), if_neg (by omega), if_neg (by omega), if_neg (by omega)]
    have nq : ∀ k' a', a' ≠ q → a' ≠ x + 10 → a' ≠ x + 13 → fI S' k' a' = fI S k' a' := fun k' a' w1 w2 w3 => by rw [sI, if_neg (by omega), if_neg (by omega), if_neg (by omega), if_neg (by omega), if_neg (by omega), if_neg (by omega)]
    have nR : ∀ k' a', (k' ≠ 72 ∨ a' ≠ q) → fR S' k' a' = fR S k' a' := fun k' a' w => by rw [sR, if_neg (by omega)]
    have nL : ∀ k' a', (k' ≠ 71 ∨ a' ≠ q) → fL S' k' a' = fL S k' a' := fun k' a' w => by rw [sL, if_neg (by omega)]
    have nT : ∀ k', k' ≠ 738 → k' ≠ 756 → fI T' k' m = fI T k' m := fun k' w1 w2 => by rw [tI, if_neg (by omega), if_neg (by omega)]
    have nA : ∀ a' i, a' ≠ m + 31 → (a' ≠ m + 27 ∧ a' ≠ m + 25 ∧ a' ≠ m + 23 ∨ i ≠ L.length) → aI T' a' i = aI T a' i := fun a' i w1 w => by rw [tA, if_neg (by omega), if_neg (by omega), if_neg (by omega), if_neg (by omega)]
    have nA' : ∀ k', k' ≠ 23 → k' ≠ 25 → k' ≠ 27 → k' ≠ 31 → aI T' (m + k') = aI T (m + k') := fun k' w1 w2 w3 w4 => funext fun i => nA _ i (by omega) (by omega)
    have hR := bR_of c12
    have part := bR_part (g := 2) hR c14 (by omega) (fun w => by omega) (fun _ => ⟨e, he⟩)
    have e1 : fS op oc n (q, r, some k, 2) = e + 1 := by
      unfold fS; dsimp only; rw [if_neg hB]; unfold pS; rw [if_neg (by decide), if_neg (by decide), he]; rfl
    have e2 : fE op oc n (q, r, some k, 2) = bE (rH op oc n r) (b_at op oc n) k := by
      unfold fE; dsimp only; rw [if_neg hB]; rfl
    have hFR := h7.1
    refine ⟨⟨St_C h1 hS' cS cT, Ho_C h2 hS cS cT, ⟨RFa_keep h3 (fun a' ha' => ?_) ⟨nA' 28 (by omega) (by omega) (by omega) (by omega), nA' 29 (by omega) (by omega) (by omega) (by omega)⟩, h3', (nT 745 (by omega) (by omega)).trans h3''⟩, ?_, ?_, ?_, ?_, ?_⟩, ?_, ?_, ?_, ?_, ?_, (q, r, some k, 2), L, rfl, ?_, ?_⟩
    · have w1 : a' ≠ q := fun e => by rw [e, c3] at ha'; exact absurd ha' (by decide)
      exact ⟨by rw [g1]; exact ha', nI' _ _ (by omega) (by omega) (by omega) (by omega) (by omega) (by omega), nR _ _ (by omega)⟩
    · obtain ⟨d1, d2, d3, d4, d5, ⟨o, o1, o2, o3, o4⟩, ⟨w, w1, w2, w3, w4⟩, d8, d9⟩ := h4
      rw [hct] at w1
      have k1 := h5.1
      have k2 := h5.2.1
      have ew : qn = w := (n_eq (by omega) (by omega)).mp (n2.symm.trans w2)
      subst ew
      refine ⟨(nI' _ _ (by omega) (by omega) (by omega) (by omega) (by omega) (by omega)).trans d1, (nL _ _ (by omega)).trans d2, (nR _ _ (by omega)).trans d3, by rw [tgT]; exact d4, (nT _ (by omega) (by omega)).trans d5, ⟨o, o1, (nI' _ _ (by omega) (by omega) (by omega) (by omega) (by omega) (by omega)).trans o2, (nT _ (by omega) (by omega)).trans o3, fun i hi => by rw [g4, tL, if_neg (by omega)]; exact o4 i hi⟩, ⟨qn + 1, ?_, ?_, ?_, fun i hi => ?_⟩, ?_, ?_⟩
      · have : ctL op ((q, r, some k, 2) :: L) = ctL op L := by
          show (if kd op (some k) = 1 ∧ 2 ≤ 1 then 1 else 0) + ctL op L = _
          rw [if_neg (by omega), Nat.zero_add]
        rw [this]; omega
      · rw [sI, if_neg (by omega), if_neg (by omega), if_neg (by omega), if_neg (by omega), if_neg (by omega), if_pos ⟨rfl, rfl⟩]
      · rw [tI, if_neg (by omega), if_pos ⟨rfl, rfl⟩]
      · rw [sA, tA]
        by_cases z : i = qn
        · rw [if_pos ⟨rfl, z⟩, if_pos ⟨rfl, z⟩]
        · rw [if_neg (by omega), if_neg (by omega), if_neg (by omega), if_neg (by omega), if_neg (by omega)]
          exact w4 i (by omega)
      · rw [nI' 263 _ (by omega) (by omega) (by omega) (by omega) (by omega) (by omega), nT 758 (by omega) (by omega)]; exact d8
      · rw [nI' 264 _ (by omega) (by omega) (by omega) (by omega) (by omega) (by omega), nT 757 (by omega) (by omega)]; exact d9
    · obtain ⟨d1, d2, d3, d4, d5, d6, d7, d8⟩ := h5
      exact ⟨d1, d2, (nI' _ _ (by omega) (by omega) (by omega) (by omega) (by omega) (by omega)).trans d3, (nT _ (by omega) (by omega)).trans d4, (nT _ (by omega) (by omega)).trans d5, (nI' _ _ (by omega) (by omega) (by omega) (by omega) (by omega) (by omega)).trans d6, (nT _ (by omega) (by omega)).trans d7, d8⟩
    · obtain ⟨d1, d2, d3, d4, d5⟩ := h6
      refine ⟨(nI' _ _ (by omega) (by omega) (by omega) (by omega) (by omega) (by omega)).trans d1, (nT _ (by omega) (by omega)).trans d2, d3, d4, ?_⟩
      rw [nI' 645 _ (by omega) (by omega) (by omega) (by omega) (by omega) (by omega), nT 748 (by omega) (by omega)]; exact d5
    · refine StkR_top (f := (q, r, some k, g)) h7 rfl rfl rfl ?_ (fun g hg => ?_) (fun i hi => ⟨fun k' _ _ => nA _ _ (by omega) (by omega), by rw [tL, if_neg (by omega)]⟩)
      · obtain ⟨⟨a1, a2, a3, a4, a5⟩, ⟨b1, b2, b3, b4, b5⟩, cc, dd, ee, gg, kk⟩ := hFR
        dsimp only at a1 a2 a3 a4 a5 b1 b2 b3 b4 b5 cc dd ee gg kk
        refine ⟨⟨by rw [g1]; exact a1, (nR _ _ (by omega)).trans a2, (nI' _ _ (by omega) (by omega) (by omega) (by omega) (by omega) (by omega)).trans a3, ?_, ?_⟩, ⟨b1, Nat.le_refl 2, (nA _ _ (by omega) (by omega)).trans b3, ?_, fun _ => hkd⟩, fun z => absurd z hB, fun z => (by cases z), fun k' hk' => ?_, fun z => absurd z (by show ¬ 2 = 1; omega), fun _ => ?_⟩
        · rw [e2]; show fI S' 67 q = _
          rw [sI, if_neg (by omega), if_neg (by omega), if_pos ⟨rfl, rfl⟩]
        · show fI S' 68 q = nI 2
          rw [sI, if_neg (by omega), if_neg (by omega), if_neg (by omega), if_pos ⟨rfl, rfl⟩]; rfl
        · show aI T' (m + 23) L.length = nI 2
          rw [tA, if_neg (by omega), if_neg (by omega), if_neg (by omega), if_pos ⟨rfl, rfl⟩]; rfl
        · have hk'' : some k = some k' := hk'
          cases hk''
          obtain ⟨v1, v2, v3, v4, v5, v6, v7⟩ := ee k rfl
          exact ⟨v1, (nR _ _ (by omega)).trans v2, (nA _ _ (by omega) (by omega)).trans v3, v4, v5, fun z => absurd z (by show ¬ 2 = 1; omega), fun _ => ⟨e, he⟩⟩
        · show CV F fa (fI S' 70 q) (fL S' 71 q) (fR S' 72 q) (aI T' (m + 25) L.length) (aL T' (m + 26) L.length) (aI T' (m + 27) L.length)
          rw [sI, if_neg (by omega), if_neg (by omega), if_neg (by omega), if_neg (by omega), if_pos ⟨rfl, rfl⟩, sL, if_pos ⟨rfl, rfl⟩, sR, if_pos ⟨rfl, rfl⟩, tA, if_neg (by omega), if_neg (by omega), if_pos ⟨rfl, rfl⟩, tL, if_pos ⟨rfl, rfl⟩, tA, if_neg (by omega), if_pos ⟨rfl, rfl⟩]
          exact hCV
      · have w1 := StkR_tg _ h7 g (List.mem_cons_of_mem _ hg)
        have w2 : g.1 ≠ q := h7.2.1 g hg
        have w3 : g.1 ≠ x + 13 := fun e => by rw [e, SX_t13 hS] at w1; exact absurd w1 (by decide)
        have w4 : g.1 ≠ x + 10 := fun e => by rw [e, SX_t10 hS] at w1; exact absurd w1 (by decide)
        exact ⟨by rw [g1], fun k' _ _ => ⟨nq _ _ w2 w4 w3, nL _ _ (Or.inr w2), nR _ _ (Or.inr w2)⟩⟩
    · unfold fre; rw [g1, g5]; exact h8
    · rw [sI, if_pos ⟨rfl, rfl⟩]
    · rw [sI, if_neg (by omega), if_pos ⟨rfl, rfl⟩]
    · rw [tI, if_pos ⟨rfl, rfl⟩]
    · exact (nT _ (by omega) (by omega)).trans h739
    · rw [nR _ _ (by omega)]; exact h580
    · rw [e1]; exact Nat.le_refl _
    · rw [e2, ← e1]
      have := part.2.1
      unfold pS pE at this
      rw [if_neg (by decide), if_neg (by decide), if_neg (by decide), if_neg (by decide), he] at this
      rw [e1]; exact this
