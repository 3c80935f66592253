theorem sEnt_at {x q d p : Nat} {v : Int32} {S : Sg} : fI (sEnt x q d p v S) 584 (x + 13) = 0 ∧ fI (sEnt x q d p v S) 582 (x + 13) = nI p ∧ fR (sEnt x q d p v S) 580 (x + 13) = some q ∧ (∀ k a, k ≠ 584 → k ≠ 582 → k ≠ 263 → k ≠ 581 → fI (sEnt x q d p v S) k a = fI S k a) ∧ aL (sEnt x q d p v S) = aL S ∧ (SX x S → SX x (sEnt x q d p v S)) := by
  refine ⟨?_, ?_, ?_, fun k a w1 w2 w3 w4 => ?_, ?_, fun hS => ?_⟩
  · unfold sEnt; simp only [gs_FI]; rw [if_pos ⟨trivial, trivial⟩]
  · unfold sEnt; simp only [gs_FI]; rw [if_neg (by omega), if_pos ⟨trivial, trivial⟩]
  · unfold sEnt; simp only [gs_FI, gs_FR]; rw [if_pos ⟨trivial, trivial⟩]
  · unfold sEnt; simp only [gs_FI, gs_FR]; rw [if_neg (by omega), if_neg (by omega), if_neg (by omega), if_neg (by omega)]
  · unfold sEnt; simp only [gs_FI, gs_FR]
  · unfold sEnt
    simp only [SX_sFI]
    exact (SX_sFR (by decide)).mpr ((SX_sFI _ _ _).mpr ((SX_sFI _ _ _).mpr hS))
theorem tEnt_at {m d : Nat} {kind k e v : Int32} {T : Sg} : fI (tEnt m d kind k e v T) 739 m = fI T 739 m ∧ fI (tEnt m d kind k e v T) 737 m = nI (d + 1) ∧ (∀ k', k' < 20 → aI (tEnt m d kind k e v T) (m + k') = aI T (m + k')) ∧ aL (tEnt m d kind k e v T) = aL T ∧ (MX m T → MX m (tEnt m d kind k e v T)) := by
  refine ⟨?_, ?_, fun k' w => funext fun i => ?_, ?_, fun hM => ?_⟩
  · unfold tEnt; simp only [gs_FI, gs_AI]; rw [if_neg (by omega), if_neg (by omega)]
  · unfold tEnt; simp only [gs_FI]; rw [if_neg (by omega), if_pos ⟨trivial, trivial⟩]
  · unfold tEnt; simp only [gs_FI, gs_AI]; rw [if_neg (by omega), if_neg (by omega), if_neg (by omega), if_neg (by omega), if_neg (by omega)]
  · unfold tEnt; simp only [gs_FI, gs_AI]
  · unfold tEnt; simp only [MX_sFI, MX_sAI]; exact hM
theorem ctl_le (op : Nat → Int32) (f : FrT) (L : List FrT) : ctL op (f :: L) ≤ ctL op L + 1 := by
  show (if _ then 1 else 0) + ctL op L ≤ _
  split <;> omega
theorem ctl_0 {op : Nat → Int32} {q r g : Nat} {o : Option Nat} (L : List FrT) (h : kd op o = 0) : ctL op ((q, r, o, g) :: L) = ctL op L := by
  show (if kd op o = 1 ∧ g ≤ 1 then 1 else 0) + ctL op L = _
  rw [if_neg (by rw [h]; omega), Nat.zero_add]
/-- the new frame of a block -/
theorem blk_push {x m n nn a : Nat} {st : Nat → Nat} {op oa ob oc : Nat → Int32} {N : Nat} {th ra rb rc : Nat → Nat} {F : Nat} {fa : Nat → Nat} {f : FrT} {L : List FrT} {p left took : Nat} {S T : Sg} (h0 : TK x m n nn a st op oa ob oc N th ra rb rc F fa f L p left took S T) (hB : isB (op p)) (hd : L.length + 1 < 200) (v e : Int32) : Mid x m n nn a st op oa ob oc N th ra rb rc F fa ((sz S, f.2.1, some p, 0) :: f :: L) left took (sEnt x (sz S) (L.length + 1) (p + 1) v (sBk (some (st p)) (some f.1) (nI (rH op oc n f.2.1)) (nI (pE (rH op oc n f.2.1) (b_at op oc n) p 0)) S)) (tEnt m (L.length + 1) (nI (kd op (some p))) (nI p) e v T) := by
  obtain ⟨hp, hn⟩ := TK_p h0
  have hf : fre S := h0.1.2.2.2.2.2.2.2
  have hstk := h0.1.2.2.2.2.2.2.1
  have hkd : kd op (some p) ≠ 0 := kd_isB.mpr hB
  obtain ⟨p1, p2, p3, p4, p5⟩ := fr_part hstk.1
  have hp12 := h0.2.2.1
  obtain ⟨b1, b2, b3, b4, b5⟩ := sBk_at (b := some (st p)) (ar := some f.1) (re := nI (rH op oc n f.2.1)) (u := nI (pE (rH op oc n f.2.1) (b_at op oc n) p 0)) (S := S)
  have eX := sBk_ext (b := some (st p)) (ar := some f.1) (re := nI (rH op oc n f.2.1)) (u := nI (pE (rH op oc n f.2.1) (b_at op oc n) p 0)) (S := S)
  have hM9 := Mid_ext h0.1 eX
  generalize sBk (some (st p)) (some f.1) (nI (rH op oc n f.2.1)) (nI (pE (rH op oc n f.2.1) (b_at op oc n) p 0)) S = S9 at *
  refine push_Mid (L := f :: L) hM9 (by rw [List.length_cons]; exact hd) (by obtain ⟨w, u1, u2⟩ := h0.2.2.2.2.2; have := ctl_le op (sz S, f.2.1, some p, 0) (f :: L); exact ⟨w, by omega, u2⟩) eX.2.1 b5 b1 ?_ b3 hstk.1.2.1.1 (fun w => by cases w) (fun k w => ?_) (fun w => absurd w hkd) (fun g hg => fre_ne hf (by rw [StkR_tg _ hstk g hg]; decide)) ⟨p, rfl, hp12.1, hp12.2, fun _ => rfl⟩
  · rw [b2]
    unfold fE; dsimp only; rw [if_neg hkd]
  · cases w
    exact ⟨hp, b4, rfl, by rcases hB with h | h | h; exact Or.inl h; exact Or.inr (Or.inl h); exact Or.inr (Or.inr (Or.inl h)), fun _ => ⟨by omega, by omega⟩⟩
/-- working on in the block -/
theorem blk_in {x m n nn a : Nat} {st : Nat → Nat} {op oa ob oc : Nat → Int32} {N : Nat} {th ra rb rc : Nat → Nat} {F : Nat} {fa : Nat → Nat} {f : FrT} {L : List FrT} {p left took : Nat} {S T : Sg} (h0 : TK x m n nn a st op oa ob oc N th ra rb rc F fa f L p left took S T) (hB : isB (op p)) (hd : L.length + 1 < 200) (v e : Int32) : MW x m n nn a st op oa ob oc N th ra rb rc F fa ((sz S, f.2.1, some p, 0) :: f :: L) (p + 1) left took (sEnt x (sz S) (L.length + 1) (p + 1) v (sBk (some (st p)) (some f.1) (nI (rH op oc n f.2.1)) (nI (pE (rH op oc n f.2.1) (b_at op oc n) p 0)) S)) (sFI (tEnt m (L.length + 1) (nI (kd op (some p))) (nI p) e v T) 738 m (nI (p + 1))) := by
  have hM := blk_push h0 hB hd v e
  obtain ⟨s1, s2, s3, -⟩ := sEnt_at (x := x) (q := sz S) (d := L.length + 1) (p := p + 1) (v := v) (S := sBk (some (st p)) (some f.1) (nI (rH op oc n f.2.1)) (nI (pE (rH op oc n f.2.1) (b_at op oc n) p 0)) S)
  have hkd : kd op (some p) ≠ 0 := kd_isB.mpr hB
  refine ⟨Mid_W hM WS_rf (WT_FI (by unfold tK; omega)), s1, s2, ?_, ?_, s3, _, _, rfl, ?_⟩
  · simp only [gs_FI]; rw [if_pos ⟨trivial, trivial⟩]
  · simp only [gs_FI]; rw [if_neg (by omega)]
    exact tEnt_at.1.trans h0.2.1.2.2.2.1
  · have hstk := hM.2.2.2.2.2.2.1
    obtain ⟨p1, p2, -⟩ := fr_part hstk.1
    have e1 : fS op oc n (sz S, f.2.1, some p, 0) = p + 1 := by
      unfold fS; dsimp only; rw [if_neg hkd]; rfl
    rw [e1] at p2 ⊢
    exact ⟨Nat.le_refl _, p2⟩
/-- the reference's side of a block -/
theorem r_block {x m n nn a : Nat} {st : Nat → Nat} {op oa ob oc : Nat → Int32} {N : Nat} {th ra rb rc : Nat → Nat} {F : Nat} {fa : Nat → Nat} {f : FrT} {L : List FrT} {p left took : Nat} {S T : Sg} (h0 : TK x m n nn a st op oa ob oc N th ra rb rc F fa f L p left took S T) (hB : isB (op p)) {Q : Sg → Prop} (g0 : L.length + 1 = 200 → Q (tStop m 4 T)) (g1 : L.length + 1 < 200 → ∀ T1, T1 = tEnt m (L.length + 1) (nI (kd op (some p))) (nI p) 0 (mxd (L.length + 1) (fI T 758 m)) T → (op p = 29 → wX11_looks m (nI p) T1 (fun S => Q S)) ∧ (op p = 25 → Q (sFI T1 738 m (nI (p + 1)))) ∧ (op p = 30 → (0 ≤ lg_cmp (aL T1 (m + 12) (oa p &&& 7).toNatClampNeg) (aL T1 (m + 12) (ob p &&& 7).toNatClampNeg) → Q (sFI (sFI T1 738 m (nI (bH (rH op oc n f.2.1) (b_at op oc n) p))) 737 m (nI (L.length + 1)))) ∧ (¬ 0 ≤ lg_cmp (aL T1 (m + 12) (oa p &&& 7).toNatClampNeg) (aL T1 (m + 12) (ob p &&& 7).toNatClampNeg) → Q (sFI T1 738 m (nI (p + 1)))))) : goB m (nI p) (op p) T Q := by
  obtain ⟨hp, hn⟩ := TK_p h0
  have hM := h0.1.1.2.1
  have h737 : fI T 737 m = nI (L.length + 1) := h0.1.2.2.2.2.1.2.2.2.2.2.2.1
  have hd : L.length + 1 ≤ 200 := h0.1.2.2.2.2.1.2.2.2.2.2.2.2
  have hstk := h0.1.2.2.2.2.2.2.1
  obtain ⟨p1, p2, p3, p4, p5⟩ := fr_part hstk.1
  have hp12 := h0.2.2.1
  obtain ⟨-, -, -, w4⟩ := St_bW h0.1.1 hstk.1.2.1.1 (by omega : rL op oc n f.2.1 ≤ p) (by omega) hB
  have e2 : aI T (m + 2) p = oa p := by rw [h0.1.1.2.2.2.2.2.2.1]
  have e3 : aI T (m + 3) p = ob p := by rw [h0.1.1.2.2.2.2.2.2.2.1]
  -- going in
  have into : ∀ T1, T1 = tEnt m (L.length + 1) (nI (kd op (some p))) (nI p) 0 (mxd (L.length + 1) (fI T 758 m)) T → Q (sFI T1 738 m (nI (p + 1))) → wX11_block_b81 m (nI p) T1 Q := by
    intro T1 e1 hQ
    have hM1 : MX m T1 := by rw [e1]; exact tEnt_at.2.2.2.2 hM
    unfold wX11_block_b81 wX11_block_b86
    rw [if_neg (by decide)]
    unfold wX11_block_b104
    refine ⟨m, rfl, MX_t0 hM1, ?_⟩
    rw [nI_1]
    intro S13 e13
    rw [if_neg (by decide)]
    intro S16 e16
    rw [show ∀ z : Int32, z - 0 = z from fun z => by simp, sFI_id rfl] at e16
    rw [e16, e13]; exact hQ
  have fin : ∀ q1 : Int32, q1 = nI (kd op (some p)) → wX11_block_b22 m (nI p) (op p) (some m) q1 T Q := by
    intro q1 eq1
    subst eq1
    unfold wX11_block_b22
    refine ⟨m, rfl, MX_t0 hM, ?_⟩
    refine r_opens hM h737 hd (fun hd' => ?_) (fun hd' => ?_)
    · rw [if_neg (by decide)]
      obtain ⟨g29, g25, g30⟩ := g1 hd' _ rfl
      by_cases c29 : op p = 29
      · rw [if_pos c29]; exact g29 c29
      rw [if_neg c29]
      by_cases c25 : op p = 25
      · rw [if_pos c25]; exact into _ rfl (g25 c25)
      rw [if_neg c25]
      have c30 : op p = 30 := by unfold isB at hB; rcases hB with h | h | h; exact absurd h c25; exact absurd h c29; exact h
      obtain ⟨k1, k2⟩ := g30 c30
      obtain ⟨j, hj, ej⟩ := and7_of (oa p)
      obtain ⟨i, hi, ei⟩ := and7_of (ob p)
      obtain ⟨-, t737, tA, -, tM⟩ := tEnt_at (m := m) (d := L.length + 1) (kind := nI (kd op (some p))) (k := nI p) (e := 0) (v := mxd (L.length + 1) (fI T 758 m)) (T := T)
      have hM1 := tM hM
      have into' := into _ rfl
      generalize tEnt m (L.length + 1) (nI (kd op (some p))) (nI p) 0 (mxd (L.length + 1) (fI T 758 m)) T = T1 at *
      have f2 : aI T1 (m + 2) p = oa p := by rw [tA 2 (by omega)]; exact e2
      have f3 : aI T1 (m + 3) p = ob p := by rw [tA 3 (by omega)]; exact e3
      have f8 : aI T1 (m + 8) p = nI (bH (rH op oc n f.2.1) (b_at op oc n) p) := by rw [tA 8 (by omega)]; exact w4
      refine ⟨m + 2, MX_r705 hM1, MX_t2 hM1, by rw [MX_l2 hM1]; exact vp_n (by omega) (by omega), ?_⟩
      rw [n_cl (by omega), f2, ej]
      refine ⟨m + 12, MX_r717 hM1, MX_t12 hM1, by rw [MX_l12 hM1]; exact vp_n (by omega) (by omega), m + 3, MX_r706 hM1, MX_t3 hM1, by rw [MX_l3 hM1]; exact vp_n (by omega) (by omega), ?_⟩
      rw [f3, ei]
      refine ⟨by rw [MX_l12 hM1]; exact vp_n (by omega) (by omega), ?_⟩
      rw [ej, ei] at k1 k2
      by_cases z : 0 ≤ lg_cmp (aL T1 (m + 12) (nI j).toNatClampNeg) (aL T1 (m + 12) (nI i).toNatClampNeg)
      · rw [if_pos z]
        unfold wX11_block_b86
        rw [if_pos rfl]
        refine ⟨m + 8, MX_r712 hM1, MX_t8 hM1, by rw [MX_l8 hM1]; exact vp_n (by omega) (by omega), ?_⟩
        unfold wX11_block_b104
        refine ⟨m, rfl, MX_t0 hM1, ?_⟩
        rw [n_cl (by omega), f8]
        intro S13 e13
        have g13 : fI S13 737 m = nI (L.length + 1 + 1) := by rw [e13]; simp only [gs_FI]; rw [if_neg (by omega)]; exact t737
        rw [if_pos rfl, g13, nI_s1]
        intro S15 e15
        rw [e15, e13]
        exact k1 z
      · rw [if_neg z]
        exact into' (k2 z)
    · rw [if_pos rfl]
      exact g0 hd'
  unfold goB
  unfold isB at hB
  rcases hB with h | h | h
  · have hk : nI (kd op (some p)) = 1 := by unfold kd; dsimp only; rw [h]; rfl
    have := fin 1 hk.symm
    rw [h] at this ⊢
    rw [if_pos (by decide), if_pos rfl]
    unfold wX11_block
    rw [if_pos rfl]
    exact this
  · have hk : nI (kd op (some p)) = 2 := by unfold kd; dsimp only; rw [h]; rfl
    have := fin 2 hk.symm
    rw [h] at this ⊢
    rw [if_pos (by decide), if_neg (by decide), if_pos rfl]
    unfold wX11_block
    rw [if_neg (by decide), if_pos rfl]
    exact this
  · have hk : nI (kd op (some p)) = 3 := by unfold kd; dsimp only; rw [h]; rfl
    have := fin 3 hk.symm
    rw [h] at this ⊢
    rw [if_pos (by decide), if_neg (by decide), if_neg (by decide), if_pos rfl]
    unfold wX11_block
    rw [if_neg (by decide), if_neg (by decide)]
    exact this
