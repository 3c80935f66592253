/-! a trial's TAKER begins -/
theorem StkR_top {x m n : Nat} {st : Nat → Nat} {op oc : Nat → Int32} {F : Nat} {fa : Nat → Nat} {f f' : FrT} {L : List FrT} {S S' T T' : Sg} (h : StkR x m n st op oc F fa S T (f :: L)) (e1 : f'.1 = f.1) (e2 : f'.2.1 = f.2.1) (e3 : f'.2.2.1 = f.2.2.1) (hf : FR1 x m n st op oc F fa L.length (L.head?.map (·.1)) f' S' T') (hs : ∀ g ∈ L, sameF g.1 S S') (ht : ∀ i, i < L.length → sameT m i T T') : StkR x m n st op oc F fa S' T' (f' :: L) := by
  obtain ⟨q1, q2, q3, q4⟩ := h
  refine ⟨hf, fun g hg => by rw [e1]; exact q2 g hg, ?_, StkR_keep (Nat.le_refl _) (fun _ _ _ => rfl) L hs ht q4⟩
  cases L with
  | nil =>
    have q3 : f.2.2.1 = none := q3
    exact e3.trans q3
  | cons g L' =>
    obtain ⟨k, l1, l2, l3, l4⟩ := q3
    exact ⟨k, e3.trans l1, l2, l3, fun z => e2.trans (l4 z)⟩
theorem r_blockEnd {k hi q b : Nat} {s : bS} {S : Sg} {Q : Int32 → Sg → Prop} (h64 : fR S 64 q = some b) (hb : tg S b = 8) (h456 : fI S 456 b = opI (s.2.2.2 k)) (hv : ∀ e, s.2.2.2 k = some e → e < 2000) (h66 : fI S 66 q = nI hi) (hQ : Q (nI (bE hi s k)) S) : wX1_blockEnd q S Q := by
  unfold wX1_blockEnd
  refine ⟨b, h64, hb, ?_⟩
  rw [h456]
  cases z : s.2.2.2 k with
  | none =>
    rw [if_pos (by decide), h66]
    unfold bE at hQ; rw [z] at hQ; exact hQ
  | some e =>
    rw [show opI (some e) = nI e from rfl, if_neg (n_neg (by have := hv e z; omega))]
    unfold bE at hQ; rw [z] at hQ; exact hQ
theorem r_takerEnd {k hi q b : Nat} {s : bS} {S : Sg} {Q : Int32 → Sg → Prop} (h64 : fR S 64 q = some b) (hb : tg S b = 8) (h455 : fI S 455 b = opI (s.2.2.1 k)) (h456 : fI S 456 b = opI (s.2.2.2 k)) (hv2 : ∀ e, s.2.2.1 k = some e → e < 2000) (hv : ∀ e, s.2.2.2 k = some e → e < 2000) (h66 : fI S 66 q = nI hi) (hQ : Q (nI (tE hi s k)) S) : wX1_takerEnd q S Q := by
  unfold wX1_takerEnd
  refine ⟨b, h64, hb, ?_⟩
  rw [h455]
  cases z : s.2.2.1 k with
  | none =>
    rw [if_pos (by decide)]
    unfold tE at hQ; rw [z] at hQ
    exact r_blockEnd h64 hb h456 hv h66 hQ
  | some e =>
    rw [show opI (some e) = nI e from rfl, if_neg (n_neg (by have := hv2 e z; omega))]
    unfold tE at hQ; rw [z] at hQ; exact hQ
theorem r_bodyEnd {k hi q b : Nat} {s : bS} {S : Sg} {Q : Int32 → Sg → Prop} (h64 : fR S 64 q = some b) (hb : tg S b = 8) (h454 : fI S 454 b = opI (s.2.1 k)) (h455 : fI S 455 b = opI (s.2.2.1 k)) (h456 : fI S 456 b = opI (s.2.2.2 k)) (hv1 : ∀ e, s.2.1 k = some e → e < 2000) (hv2 : ∀ e, s.2.2.1 k = some e → e < 2000) (hv : ∀ e, s.2.2.2 k = some e → e < 2000) (h66 : fI S 66 q = nI hi) (hQ : Q (nI (pE hi s k 0)) S) : wX1_bodyEnd q S Q := by
  unfold wX1_bodyEnd
  refine ⟨b, h64, hb, ?_⟩
  rw [h454]
  cases z : s.2.1 k with
  | none =>
    rw [if_pos (by decide)]
    unfold pE at hQ; rw [if_pos rfl, z] at hQ
    exact r_takerEnd h64 hb h455 h456 hv2 hv h66 hQ
  | some e =>
    rw [show opI (some e) = nI e from rfl, if_neg (n_neg (by have := hv1 e z; omega))]
    unfold pE at hQ; rw [if_pos rfl, z] at hQ; exact hQ
def sTk (x q : Nat) (v : Int32) (o : Option Nat) (te p : Nat) (S : Sg) : Sg := sFI (sFI (sFI (sFI (sFR (sFI S 264 (x + 10) v) 69 q o) 68 q 1) 67 q (nI te)) 582 (x + 13) (nI p)) 584 (x + 13) 0
def tTk (m d : Nat) (j v : Int32) (p : Nat) (T : Sg) : Sg := sFI (sFI (sAI (sAI T (m + 23) d 1) (m + 24) d j) 757 m v) 738 m (nI p)
theorem taker_sim {x m n nn a : Nat} {st : Nat → Nat} {op oa ob oc : Nat → Int32} {N : Nat} {th ra rb rc : Nat → Nat} {F : Nat} {fa : Nat → Nat} {q r : Nat} {L : List FrT} {left took k p : Nat} {S T0 : Sg} (h0 : MC x m n nn a st op oa ob oc N th ra rb rc F fa ((q, r, some k, 0) :: L) left took S T0) (h25 : op k = 25) (hp : (b_at op oc n).2.1 k = some p) (hc : fI S 584 (x + 13) = 2) :
    ∃ S', (∀ Q : Sg → Prop, Q S' → wX9_beginTaker (x + 13) (some q) S Q) ∧ ∀ T, MC x m n nn a st op oa ob oc N th ra rb rc F fa ((q, r, some k, 0) :: L) left took S T → (∀ Q : Int32 → Sg → Prop, Q 0 (tTk m L.length (fI T 742 m) (fI T 757 m + 1) (p + 1) T) → ∃ a45 : Nat, (fR T 732 m) = some a45 ∧ tg T a45 = 13 ∧ vp_in (nI L.length) (ln T a45) ∧ ∀ S47 : Sg, S47 = sAI T a45 (nI L.length).toNatClampNeg (1 : Int32) → ∃ a48 : Nat, (fR S47 733 m) = some a48 ∧ tg S47 a48 = 13 ∧ vp_in (nI L.length) (ln S47 a48) ∧ ∀ S50 : Sg, S50 = sAI S47 a48 (nI L.length).toNatClampNeg (fI S47 742 m) → ∀ S51 : Sg, S51 = sFI S50 757 m ((fI S50 757 m) + (1 : Int32)) → ∃ a52 : Nat, (fR S51 710 m) = some a52 ∧ tg S51 a52 = 13 ∧ vp_in (nI k) (ln S51 a52) ∧ ∀ S54 : Sg, S54 = sFI S51 738 m ((aI S51 a52 (nI k).toNatClampNeg) + (1 : Int32)) → Q (0 : Int32) S54) ∧ MW x m n nn a st op oa ob oc N th ra rb rc F fa ((q, r, some k, 1) :: L) (p + 1) left took S' (tTk m L.length (fI T 742 m) (fI T 757 m + 1) (p + 1) T) := by
  have hB : kd op (some k) ≠ 0 := kd_isB.mpr (Or.inl h25)
  have hkd : kd op (some k) = 1 := by unfold kd; dsimp only; rw [h25]; rfl
  have hS := h0.1.1.1
  obtain ⟨c1, c2, c3, c4, c5, c6, c7, c8, c9, c10, c11, -, -, -, -, -, -, c12, c13, c14⟩ := fr_blk (k := k) h0.1.1 h0.1.2.2.2.2.2.2.1.1 rfl hB
  dsimp only at c3 c4 c5 c6 c12 c13 c14
  have hd : L.length + 1 ≤ 200 := h0.1.2.2.2.2.1.2.2.2.2.2.2.2
  have hpn : p < n := b_vn.1 p hp
  have q13 : q ≠ x + 13 := fun e => by rw [e, SX_t13 hS] at c3; exact absurd c3 (by decide)
  have q10 : q ≠ x + 10 := fun e => by rw [e, SX_t10 hS] at c3; exact absurd c3 (by decide)
  refine ⟨sTk x q (fI S 264 (x + 10) + 1) (fR S 586 (x + 13)) (tE (rH op oc n r) (b_at op oc n) k) (p + 1) S, fun Q hQ => ?_, fun T hT => ⟨fun Q hQ => ?_, ?_⟩⟩
  · unfold wX9_beginTaker
    refine ⟨x + 10, SX_r578 hS, SX_t10 hS, ?_⟩
    intro S2 e2
    refine ⟨q, rfl, by rw [e2]; simp only [gs_FI]; exact c3, ?_⟩
    intro S4 e4
    have g586 : fR S2 586 (x + 13) = fR S 586 (x + 13) := by rw [e2]; simp only [gs_FI]
    rw [g586] at e4
    have i4 : ∀ k' a', k' ≠ 264 → fI S4 k' a' = fI S k' a' := fun k' a' hk' => by rw [e4, e2]; simp only [gs_FR, gs_FI]; rw [if_neg (by omega)]
    have r4 : ∀ k' a', k' ≠ 69 → fR S4 k' a' = fR S k' a' := fun k' a' hk' => by rw [e4, e2]; simp only [gs_FR, gs_FI]; rw [if_neg (by omega)]
    have t4 : tg S4 = tg S := by rw [e4, e2]; simp only [gs_FR, gs_FI]
    refine ⟨st k, (r4 64 q (by omega)).trans c6, by rw [t4]; exact c7, ?_⟩
    refine r_takerEnd (k := k) (s := b_at op oc n) (hi := rH op oc n r) ((r4 64 q (by omega)).trans c6) (by rw [t4]; exact c7) ((i4 _ _ (by omega)).trans c10) ((i4 _ _ (by omega)).trans c11) (fun e he => by have := b_vn.2.1 e he; omega) (fun e he => by have := b_vn.2.2 e he; omega) ((i4 _ _ (by omega)).trans c5) ?_
    rw [i4 454 (st k) (by omega), c9, hp, show opI (some p) = nI p from rfl, nI_1]
    unfold wX9_beginPart
    refine ⟨q, rfl, by rw [t4]; exact c3, ?_⟩
    intro S5 e5 S6 e6 S7 e7 S8 e8
    unfold sTk at hQ
    rw [e8, e7, e6, e5, e4, e2]; exact hQ
  · have hM := hT.1.1.2.1
    obtain ⟨-, -, -, -, -, -, -, -, -, -, -, d1, d2, d3, -⟩ := fr_blk (k := k) hT.1.1 hT.1.2.2.2.2.2.2.1.1 rfl hB
    refine ⟨m + 23, MX_r732 hM, MX_t23 hM, by rw [MX_l23 hM]; exact vp_n (by omega) (by omega), ?_⟩
    intro S47 e47
    have hM47 : MX m S47 := by rw [e47]; simp only [MX_sAI]; exact hM
    refine ⟨m + 24, MX_r733 hM47, MX_t24 hM47, by rw [MX_l24 hM47]; exact vp_n (by omega) (by omega), ?_⟩
    intro S50 e50 S51 e51
    have hM51 : MX m S51 := by rw [e51, e50]; simp only [MX_sAI, MX_sFI]; exact hM47
    refine ⟨m + 6, MX_r710 hM51, MX_t6 hM51, by rw [MX_l6 hM51]; exact vp_n (by omega) (by omega), ?_⟩
    have g6 : aI S51 (m + 6) k = nI p := by
      rw [e51, e50, e47]; simp only [gs_FI, gs_AI]
      rw [if_neg (by omega), if_neg (by omega), d3, hp]; rfl
    have g742 : fI S47 742 m = fI T 742 m := by rw [e47]; simp only [gs_AI]
    have g757 : fI S50 757 m = fI T 757 m := by rw [e50, e47]; simp only [gs_AI]
    rw [n_cl (by omega), g6, nI_1]
    intro S54 e54
    rw [n_cl (by omega)] at e47 e50
    rw [g742] at e50
    rw [g757] at e51
    unfold tTk at hQ
    rw [e54, e51, e50, e47]; exact hQ
  · obtain ⟨hMid, hCm⟩ := hT
    obtain ⟨h1, h2, ⟨h3, h3', h3''⟩, h4, h5, h6, h7, h8⟩ := hMid
    obtain ⟨j, j1, j2, j3, j4⟩ : ∃ j, 1 ≤ j ∧ j ≤ F ∧ fR S 586 (x + 13) = some (fa j) ∧ fI T 742 m = nI j := by
      rcases hCm.1 with ⟨w, -⟩ | ⟨-, -, w⟩ | ⟨w, -⟩ | ⟨w, -⟩ | ⟨w, -⟩
      · rw [hc] at w; exact absurd w (by decide)
      · exact w
      · rw [hc] at w; exact absurd w (by decide)
      · rw [hc] at w; exact absurd w (by decide)
      · rw [hc] at w; exact absurd w (by decide)
    have h739 := hCm.2.1
    have h580 := hCm.2.2.1
    have tgS : tg (sTk x q (fI S 264 (x + 10) + 1) (fR S 586 (x + 13)) (tE (rH op oc n r) (b_at op oc n) k) (p + 1) S) = tg S ∧ fL (sTk x q (fI S 264 (x + 10) + 1) (fR S 586 (x + 13)) (tE (rH op oc n r) (b_at op oc n) k) (p + 1) S) = fL S ∧ aI (sTk x q (fI S 264 (x + 10) + 1) (fR S 586 (x + 13)) (tE (rH op oc n r) (b_at op oc n) k) (p + 1) S) = aI S ∧ aL (sTk x q (fI S 264 (x + 10) + 1) (fR S 586 (x + 13)) (tE (rH op oc n r) (b_at op oc n) k) (p + 1) S) = aL S ∧ sz (sTk x q (fI S 264 (x + 10) + 1) (fR S 586 (x + 13)) (tE (rH op oc n r) (b_at op oc n) k) (p + 1) S) = sz S := by
      unfold sTk; simp only [gs_FI, gs_FR]; exact ⟨trivial, trivial, trivial, trivial, trivial⟩
    have sI : ∀ k' a', fI (sTk x q (fI S 264 (x + 10) + 1) (fR S 586 (x + 13)) (tE (rH op oc n r) (b_at op oc n) k) (p + 1) S) k' a' = if k' = 584 ∧ a' = x + 13 then 0 else if k' = 582 ∧ a' = x + 13 then nI (p + 1) else if k' = 67 ∧ a' = q then nI (tE (rH op oc n r) (b_at op oc n) k) else if k' = 68 ∧ a' = q then 1 else if k' = 264 ∧ a' = x + 10 then fI S 264 (x + 10) + 1 else fI S k' a' := by
      intro k' a'; unfold sTk; simp only [gs_FI, gs_FR]
    have sR : ∀ k' a', fR (sTk x q (fI S 264 (x + 10) + 1) (fR S 586 (x + 13)) (tE (rH op oc n r) (b_at op oc n) k) (p + 1) S) k' a' = if k' = 69 ∧ a' = q then fR S 586 (x + 13) else fR S k' a' := by
      intro k' a'; unfold sTk; simp only [gs_FI, gs_FR]
    have cS : CAg x S (sTk x q (fI S 264 (x + 10) + 1) (fR S 586 (x + 13)) (tE (rH op oc n r) (b_at op oc n) k) (p + 1) S) := by
      unfold sTk
      exact CAg_tr (CAg_FI (by unfold cK; omega)) (CAg_tr (CAg_FR (by unfold cK; omega)) (CAg_tr (CAg_FI (by unfold cK; omega)) (CAg_tr (CAg_FI (by unfold cK; omega)) (CAg_tr (CAg_FI (by unfold cK; omega)) (CAg_FI (by unfold cK; omega))))))
    have hS' : SX x (sTk x q (fI S 264 (x + 10) + 1) (fR S 586 (x + 13)) (tE (rH op oc n r) (b_at op oc n) k) (p + 1) S) := by
      unfold sTk
      simp only [SX_sFI]
      exact (SX_sFR (by decide)).mpr ((SX_sFI _ _ _).mpr hS)
    have tI : ∀ k', fI (tTk m L.length (fI T 742 m) (fI T 757 m + 1) (p + 1) T) k' m = if k' = 738 ∧ m = m then nI (p + 1) else if k' = 757 ∧ m = m then fI T 757 m + 1 else fI T k' m := by
      intro k'; unfold tTk; simp only [gs_FI, gs_AI]
    have tA : ∀ a' i, aI (tTk m L.length (fI T 742 m) (fI T 757 m + 1) (p + 1) T) a' i = if a' = m + 24 ∧ i = L.length then fI T 742 m else if a' = m + 23 ∧ i = L.length then 1 else aI T a' i := by
      intro a' i; unfold tTk; simp only [gs_FI, gs_AI]
    have tgT : fL (tTk m L.length (fI T 742 m) (fI T 757 m + 1) (p + 1) T) = fL T ∧ aL (tTk m L.length (fI T 742 m) (fI T 757 m + 1) (p + 1) T) = aL T := by
      unfold tTk; simp only [gs_FI, gs_AI]; exact ⟨trivial, trivial⟩
    have cT : TCA m T (tTk m L.length (fI T 742 m) (fI T 757 m + 1) (p + 1) T) := by
      unfold tTk
      exact TCA_tr (TCA_AI (by omega)) (TCA_tr (TCA_AI (by omega)) (TCA_tr (TCA_FI (by decide)) (TCA_FI (by decide))))
    generalize sTk x q (fI S 264 (x + 10) + 1) (fR S 586 (x + 13)) (tE (rH op oc n r) (b_at op oc n) k) (p + 1) S = S' at *
    generalize tTk m L.length (fI T 742 m) (fI T 757 m + 1) (p + 1) T = T' at *
    obtain ⟨g1, g2, g3, g4, g5⟩ := tgS
    obtain ⟨t1, t2⟩ := tgT
    have nI' : ∀ k' a', k' ≠ 584 → k' ≠ 582 → k' ≠ 67 → k' ≠ 68 → k' ≠ 264 → fI S' k' a' = fI S k' a' := fun k' a' w1 w2 w3 w4 w5 => by rw [sI, if_neg (by omega), if_neg (by omega), if_neg (by omega), if_neg (by omega), if_neg (by omega)]
    have nq : ∀ k' a', a' ≠ q → a' ≠ x + 10 → a' ≠ x + 13 → fI S' k' a' = fI S k' a' := fun k' a' w1 w2 w3 => by rw [sI, if_neg (by omega), if_neg (by omega), if_neg (by omega), if_neg (by omega), if_neg (by omega)]
    have nR : ∀ k' a', (k' ≠ 69 ∨ a' ≠ q) → fR S' k' a' = fR S k' a' := fun k' a' w => by rw [sR, if_neg (by omega)]
    have nT : ∀ k', k' ≠ 738 → k' ≠ 757 → fI T' k' m = fI T k' m := fun k' w1 w2 => by rw [tI, if_neg (by omega), if_neg (by omega)]
    have nA : ∀ a' i, (a' ≠ m + 24 ∧ a' ≠ m + 23 ∨ i ≠ L.length) → aI T' a' i = aI T a' i := fun a' i w => by rw [tA, if_neg (by omega), if_neg (by omega)]
    have nA' : ∀ k', k' ≠ 23 → k' ≠ 24 → aI T' (m + k') = aI T (m + k') := fun k' w1 w2 => funext fun i => nA _ i (by omega)
    have hR := bR_of c12
    have part := bR_part (g := 1) hR c14 (by omega) (fun _ => ⟨p, hp⟩) (fun w => by omega)
    have e1 : fS op oc n (q, r, some k, 1) = p + 1 := by
      unfold fS; dsimp only; rw [if_neg hB]; unfold pS; rw [if_neg (by decide), if_pos rfl, hp]; rfl
    have e2 : fE op oc n (q, r, some k, 1) = tE (rH op oc n r) (b_at op oc n) k := by
      unfold fE; dsimp only; rw [if_neg hB]; rfl
    have hFR := h7.1
    refine ⟨⟨St_C h1 hS' cS cT, Ho_C h2 hS cS cT, ⟨RFa_keep h3 (fun a' ha' => ?_) ⟨nA' 28 (by omega) (by omega), nA' 29 (by omega) (by omega)⟩, h3', (nT 745 (by omega) (by omega)).trans h3''⟩, ?_, ?_, ?_, ?_, ?_⟩, ?_, ?_, ?_, ?_, ?_, (q, r, some k, 1), L, rfl, ?_, ?_⟩
    · have w1 : a' ≠ q := fun e => by rw [e, c3] at ha'; exact absurd ha' (by decide)
      exact ⟨by rw [g1]; exact ha', nI' _ _ (by omega) (by omega) (by omega) (by omega) (by omega), nR _ _ (by omega)⟩
    · obtain ⟨d1, d2, d3, d4, d5, ⟨o, o1, o2, o3, o4⟩, ⟨w, w1, w2, w3, w4⟩, d8, d9⟩ := h4
      refine ⟨(nI' _ _ (by omega) (by omega) (by omega) (by omega) (by omega)).trans d1, by rw [g2]; exact d2, (nR _ _ (by omega)).trans d3, by rw [t1]; exact d4, (nT _ (by omega) (by omega)).trans d5, ⟨o, o1, (nI' _ _ (by omega) (by omega) (by omega) (by omega) (by omega)).trans o2, (nT _ (by omega) (by omega)).trans o3, fun i hi => by rw [g4, t2]; exact o4 i hi⟩, ⟨w, ?_, (nI' _ _ (by omega) (by omega) (by omega) (by omega) (by omega)).trans w2, (nT _ (by omega) (by omega)).trans w3, fun i hi => by rw [g3, nA' 31 (by omega) (by omega)]; exact w4 i hi⟩, ?_, ?_⟩
      · have : ctL op ((q, r, some k, 1) :: L) = ctL op ((q, r, some k, 0) :: L) := by
          unfold ctL; dsimp only; rw [hkd, if_pos ⟨rfl, by omega⟩, if_pos ⟨rfl, by omega⟩]
        rw [this]; exact w1
      · rw [nI' 263 _ (by omega) (by omega) (by omega) (by omega) (by omega), nT 758 (by omega) (by omega)]; exact d8
      · rw [sI, if_neg (by omega), if_neg (by omega), if_neg (by omega), if_neg (by omega), if_pos ⟨rfl, rfl⟩, tI, if_neg (by omega), if_pos ⟨rfl, rfl⟩, d9]
    · obtain ⟨d1, d2, d3, d4, d5, d6, d7, d8⟩ := h5
      exact ⟨d1, d2, (nI' _ _ (by omega) (by omega) (by omega) (by omega) (by omega)).trans d3, (nT _ (by omega) (by omega)).trans d4, (nT _ (by omega) (by omega)).trans d5, (nI' _ _ (by omega) (by omega) (by omega) (by omega) (by omega)).trans d6, (nT _ (by omega) (by omega)).trans d7, d8⟩
    · obtain ⟨d1, d2, d3, d4, d5⟩ := h6
      refine ⟨(nI' _ _ (by omega) (by omega) (by omega) (by omega) (by omega)).trans d1, (nT _ (by omega) (by omega)).trans d2, d3, d4, ?_⟩
      rw [nI' 645 _ (by omega) (by omega) (by omega) (by omega) (by omega), nT 748 (by omega) (by omega)]; exact d5
    · refine StkR_top (f := (q, r, some k, 0)) h7 rfl rfl rfl ?_ (fun g hg => ?_) (fun i hi => ⟨fun k' _ _ => nA _ _ (by omega), by rw [t2]⟩)
      · obtain ⟨⟨a1, a2, a3, a4, a5⟩, ⟨b1, b2, b3, b4, b5⟩, cc, dd, ee, gg, kk⟩ := hFR
        dsimp only at a1 a2 a3 a4 a5 b1 b2 b3 b4 b5 cc dd ee gg kk
        refine ⟨⟨by rw [g1]; exact a1, (nR _ _ (by omega)).trans a2, (nI' _ _ (by omega) (by omega) (by omega) (by omega) (by omega)).trans a3, ?_, ?_⟩, ⟨b1, by show 1 ≤ 2; omega, (nA _ _ (by omega)).trans b3, ?_, fun _ => hkd⟩, fun z => absurd z hB, fun z => (by cases z), fun k' hk' => ?_, fun _ => ⟨j, j1, j2, ?_, ?_⟩, fun z => absurd z (by show ¬ 1 = 2; omega)⟩
        · rw [e2]; show fI S' 67 q = _
          rw [sI, if_neg (by omega), if_neg (by omega), if_pos ⟨rfl, rfl⟩]
        · show fI S' 68 q = nI 1
          rw [sI, if_neg (by omega), if_neg (by omega), if_neg (by omega), if_pos ⟨rfl, rfl⟩]; rfl
        · show aI T' (m + 23) L.length = nI 1
          rw [tA, if_neg (by omega), if_pos ⟨rfl, rfl⟩]; rfl
        · have hk'' : some k = some k' := hk'
          cases hk''
          obtain ⟨v1, v2, v3, v4, v5, v6, v7⟩ := ee k rfl
          exact ⟨v1, (nR _ _ (by omega)).trans v2, (nA _ _ (by omega)).trans v3, v4, v5, fun _ => ⟨p, hp⟩, fun z => absurd z (by show ¬ 1 = 2; omega)⟩
        · show fR S' 69 q = _
          rw [sR, if_pos ⟨rfl, rfl⟩]; exact j3
        · rw [tA, if_pos ⟨rfl, rfl⟩]; exact j4
      · have w1 := StkR_tg _ h7 g (List.mem_cons_of_mem _ hg)
        have w2 : g.1 ≠ q := h7.2.1 g hg
        have w3 : g.1 ≠ x + 13 := fun e => by rw [e, SX_t13 hS] at w1; exact absurd w1 (by decide)
        have w4 : g.1 ≠ x + 10 := fun e => by rw [e, SX_t10 hS] at w1; exact absurd w1 (by decide)
        exact ⟨by rw [g1], fun k' _ _ => ⟨nq _ _ w2 w4 w3, by rw [g2], nR _ _ (Or.inr w2)⟩⟩
    · unfold fre; rw [g1, g5]; exact h8
    · rw [sI, if_pos ⟨rfl, rfl⟩]
    · rw [sI, if_neg (by omega), if_pos ⟨rfl, rfl⟩]
    · rw [tI, if_pos ⟨rfl, rfl⟩]
    · exact (nT _ (by omega) (by omega)).trans h739
    · rw [nR _ _ (by omega)]; exact h580
    · rw [e1]; exact Nat.le_refl _
    · rw [e2, ← e1]
      have := part.2.1
      unfold pS pE at this
      rw [if_neg (by decide), if_pos rfl, if_neg (by decide), if_pos rfl, hp] at this
      rw [e1]; exact this
