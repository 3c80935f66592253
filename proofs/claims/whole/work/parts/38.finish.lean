/-! a trial's FINISH begins -/
def sFn (x q qn k : Nat) (cc : Int32) (v : Int64) (o : Option Nat) (be p : Nat) (S : Sg) : Sg := sFI (sFI (sFI (sFI (sFR (sFL (sFI (sFI (sAI S (x + 12) qn (nI k)) 262 (x + 10) (nI (qn + 1))) 70 q cc) 71 q v) 72 q o) 68 q 2) 67 q (nI be)) 582 (x + 13) (nI p)) 584 (x + 13) 0
def tFn (m d qn k : Nat) (wc : Int32) (v : Int64) (j : Int32) (p : Nat) (T : Sg) : Sg := sFI (sFI (sAI (sAI (sAL (sAI (sAI T (m + 23) d 2) (m + 25) d wc) (m + 26) d v) (m + 27) d j) (m + 31) qn (nI k)) 756 m (nI (qn + 1))) 738 m (nI p)
theorem finish_sim {x m n nn a : Nat} {st : Nat → Nat} {op oa ob oc : Nat → Int32} {N : Nat} {th ra rb rc : Nat → Nat} {F : Nat} {fa : Nat → Nat} {q r g : Nat} {L : List FrT} {left took k e : Nat} {S T0 : Sg} (h0 : MC x m n nn a st op oa ob oc N th ra rb rc F fa ((q, r, some k, g) :: L) left took S T0) (h25 : op k = 25) (hg : g ≤ 1) (he : (b_at op oc n).2.2.1 k = some e) :
    ∃ S', (∀ Q : Sg → Prop, Q S' → wX9_settleTrial_b85 (x + 13) (some q) S Q) ∧ ∀ T, MC x m n nn a st op oa ob oc N th ra rb rc F fa ((q, r, some k, g) :: L) left took S T → ∃ T', (∀ Q : Int32 → Sg → Prop, Q 0 T' → wX11_comesOfTrial_b149 m (nI L.length) (nI k) T Q) ∧ MW x m n nn a st op oa ob oc N th ra rb rc F fa ((q, r, some k, 2) :: L) (e + 1) left took S' T' := by
  have hB : kd op (some k) ≠ 0 := kd_isB.mpr (Or.inl h25)
  have hkd : kd op (some k) = 1 := by unfold kd; dsimp only; rw [h25]; rfl
  have hS := h0.1.1.1
  obtain ⟨c1, c2, c3, c4, c5, c6, c7, c8, c9, c10, c11, -, -, -, -, -, -, c12, c13, c14⟩ := fr_blk (k := k) h0.1.1 h0.1.2.2.2.2.2.2.1.1 rfl hB
  dsimp only at c3 c4 c5 c6 c12 c13 c14
  have s448 := (St_st h0.1.1 c1).2.2.2.1
  have hd : L.length + 1 ≤ 200 := h0.1.2.2.2.2.1.2.2.2.2.2.2.2
  have hen : e < n := b_vn.2.1 e he
  have q13 : q ≠ x + 13 := fun e => by rw [e, SX_t13 hS] at c3; exact absurd c3 (by decide)
  have q10 : q ≠ x + 10 := fun e => by rw [e, SX_t10 hS] at c3; exact absurd c3 (by decide)
  have hct : ctL op ((q, r, some k, g) :: L) = 1 + ctL op L := by
    show (if kd op (some k) = 1 ∧ g ≤ 1 then 1 else 0) + ctL op L = _
    rw [hkd, if_pos ⟨rfl, hg⟩]
  obtain ⟨qn, n1, n2, -⟩ := h0.1.2.2.2.1.2.2.2.2.2.2.1
  have hqn : qn < 1000 := by
    have w1 := h0.1.2.2.2.2.1.1
    have w2 := h0.1.2.2.2.2.1.2.1
    rw [hct] at n1
    omega
  refine ⟨sFn x q qn k (fI S 584 (x + 13)) (fL S 585 (x + 13)) (fR S 586 (x + 13)) (bE (rH op oc n r) (b_at op oc n) k) (e + 1) S, fun Q hQ => ?_, fun T hT => ⟨tFn m L.length qn k (fI T 740 m) (fL T 741 m) (fI T 742 m) (e + 1) T, fun Q hQ => ?_, ?_⟩⟩
  · unfold wX9_settleTrial_b85
    refine ⟨q, rfl, c3, st k, c6, c7, ?_⟩
    rw [c10, he, show opI (some e) = nI e from rfl, if_neg (n_neg (by omega))]
    unfold wX9_beginFinish
    refine ⟨q, rfl, c3, st k, c6, c7, x + 10, SX_r578 hS, SX_t10 hS, ?_⟩
    rw [s448]
    unfold wX4_noteFinish
    rw [n2, if_neg (n_neg (by omega))]
    refine ⟨x + 12, SX_r257 hS, SX_t12 hS, ?_⟩
    rw [SX_l12 hS, if_neg (by rw [n_le (by omega) (by omega)]; omega)]
    refine ⟨vp_n (by omega) (by omega), ?_⟩
    rw [n_cl (by omega)]
    intro S5 e5 S6 e6
    have g262 : fI S5 262 (x + 10) = nI qn := by rw [e5]; simp only [gs_AI]; exact n2
    rw [g262, nI_1] at e6
    have i6 : ∀ k' a', k' ≠ 262 → fI S6 k' a' = fI S k' a' := fun k' a' hk' => by rw [e6, e5]; simp only [gs_FI, gs_AI]; rw [if_neg (by omega)]
    have o6 : tg S6 = tg S ∧ fL S6 = fL S ∧ fR S6 = fR S := by rw [e6, e5]; simp only [gs_FI, gs_AI]; exact ⟨trivial, trivial, trivial⟩
    intro S7 e7 S8 e8 S9 e9
    rw [i6 584 _ (by omega)] at e7
    have g8 : fL S7 585 (x + 13) = fL S 585 (x + 13) := by rw [e7]; simp only [gs_FI]; rw [o6.2.1]
    rw [g8] at e8
    have g9 : fR S8 586 (x + 13) = fR S 586 (x + 13) := by rw [e8, e7]; simp only [gs_FI, gs_FL]; rw [o6.2.2]
    rw [g9] at e9
    have i9 : ∀ k' a', k' ≠ 262 → k' ≠ 70 → fI S9 k' a' = fI S k' a' := fun k' a' hk' hk2 => by rw [e9, e8, e7]; simp only [gs_FR, gs_FI, gs_FL]; rw [if_neg (by omega)]; exact i6 _ _ hk'
    have r9 : ∀ k' a', k' ≠ 72 → fR S9 k' a' = fR S k' a' := fun k' a' hk' => by rw [e9, e8, e7]; simp only [gs_FR, gs_FI, gs_FL]; rw [if_neg (by omega), o6.2.2]
    have t9 : tg S9 = tg S := by rw [e9, e8, e7]; simp only [gs_FR, gs_FI, gs_FL]; exact o6.1
    refine ⟨st k, (r9 64 q (by omega)).trans c6, by rw [t9]; exact c7, ?_⟩
    refine r_blockEnd (k := k) (s := b_at op oc n) (hi := rH op oc n r) ((r9 64 q (by omega)).trans c6) (by rw [t9]; exact c7) ((i9 _ _ (by omega) (by omega)).trans c11) (fun e he => by have := b_vn.2.2 e he; omega) ((i9 _ _ (by omega) (by omega)).trans c5) ?_
    rw [i9 455 (st k) (by omega) (by omega), c10, he, show opI (some e) = nI e from rfl, nI_1]
    unfold wX9_beginPart
    refine ⟨q, rfl, by rw [t9]; exact c3, ?_⟩
    intro S10 e10 S11 e11 S12 e12 S13 e13
    unfold sFn at hQ
    rw [e13, e12, e11, e10, e9, e8, e7, e6, e5]; exact hQ
  · have hM := hT.1.1.2.1
    obtain ⟨-, -, -, -, -, -, -, -, -, -, -, d1, d2, d3, d4, -⟩ := fr_blk (k := k) hT.1.1 hT.1.2.2.2.2.2.2.1.1 rfl hB
    obtain ⟨qn', -, n2', n3', -⟩ := hT.1.2.2.2.1.2.2.2.2.2.2.1
    sorry
  · sorry
