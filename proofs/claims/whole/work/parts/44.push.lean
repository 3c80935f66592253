/-! a block or a routine is opened -/
def mxd (d : Nat) (v : Int32) : Int32 := if nI (d + 1) ≤ v then v else nI (d + 1)
def sEnt (x q d p : Nat) (v : Int32) (S : Sg) : Sg := sFI (sFI (sFR (sFI (sFI S 581 (x + 13) (nI (d + 1))) 263 (x + 10) v) 580 (x + 13) (some q)) 582 (x + 13) (nI p)) 584 (x + 13) 0
def tEnt (m d : Nat) (kind k e v : Int32) (T : Sg) : Sg := sFI (sFI (sAI (sAI (sAI (sAI (sAI T (m + 20) d kind) (m + 21) d k) (m + 22) d e) (m + 23) d 0) (m + 24) d 0) 737 m (nI (d + 1))) 758 m v
theorem mxd_c (d : Nat) (v : Int32) : (if v < nI (d + 1) then nI (d + 1) else v) = mxd d v := by
  unfold mxd
  by_cases c : nI (d + 1) ≤ v
  · rw [if_pos c, if_neg (fun w => by rw [Int32.lt_iff_toInt_lt] at w; rw [Int32.le_iff_toInt_le] at c; omega)]
  · rw [if_neg c, if_pos (by rw [Int32.le_iff_toInt_le] at c; rw [Int32.lt_iff_toInt_lt]; omega)]
theorem r_enter {x q d p : Nat} {S : Sg} {Q : Int32 → Sg → Prop} (hS : SX x S) (h581 : fI S 581 (x + 13) = nI d) (hd : d ≤ 200) (h1 : d < 200 → Q 1 (sEnt x q d p (mxd d (fI S 263 (x + 10))) S)) (h0 : d = 200 → Q 0 (sStop x 4 S)) : wX9_enter (x + 13) (some q) (nI p) S Q := by
  unfold wX9_enter
  by_cases c : d < 200
  · rw [h581, if_pos (by rw [show (200 : Int32) = nI 200 from rfl, n_lt (by omega) (by omega)]; exact c), nI_1]
    intro S2 e2
    have hS2 : SX x S2 := by rw [e2]; exact (SX_sFI _ _ _).mpr hS
    have g1 : fI S2 581 (x + 13) = nI (d + 1) := by rw [e2]; simp only [gs_FI]; rw [if_pos ⟨trivial, trivial⟩]
    have g2 : fI S2 263 (x + 10) = fI S 263 (x + 10) := by rw [e2]; simp only [gs_FI]; rw [if_neg (by omega)]
    refine ⟨x + 10, SX_r578 hS2, SX_t10 hS2, ?_⟩
    rw [g1, g2, mxd_c]
    intro S4 e4 S5 e5 S6 e6 S7 e7
    have := h1 c
    unfold sEnt at this
    rw [e7, e6, e5, e4, e2]
    exact this
  · rw [h581, if_neg (by rw [show (200 : Int32) = nI 200 from rfl, n_lt (by omega) (by omega)]; exact c)]
    exact r_stop hS (h0 (by omega))
theorem r_opens {m d : Nat} {kind k e : Int32} {T : Sg} {Q : Int32 → Sg → Prop} (hM : MX m T) (h737 : fI T 737 m = nI d) (hd : d ≤ 200) (h1 : d < 200 → Q 1 (tEnt m d kind k e (mxd d (fI T 758 m)) T)) (h0 : d = 200 → Q 0 (tStop m 4 T)) : wX11_opens m kind k e T Q := by
  unfold wX11_opens
  by_cases c : d < 200
  · rw [h737, if_neg (by rw [show (200 : Int32) = nI 200 from rfl, n_eq (by omega) (by omega)]; omega)]
    have e0 : (nI d).toNatClampNeg = d := n_cl (by omega)
    refine ⟨m + 20, MX_r729 hM, MX_t20 hM, by rw [MX_l20 hM]; exact vp_n (by omega) (by omega), ?_⟩
    rw [e0]
    intro S4 e4
    have hM4 : MX m S4 := by rw [e4]; simp only [MX_sAI]; exact hM
    have g4 : fI S4 737 m = nI d := by rw [e4]; simp only [gs_AI]; exact h737
    rw [g4, e0]
    refine ⟨m + 21, MX_r730 hM4, MX_t21 hM4, by rw [MX_l21 hM4]; exact vp_n (by omega) (by omega), ?_⟩
    intro S7 e7
    have hM7 : MX m S7 := by rw [e7]; simp only [MX_sAI]; exact hM4
    have g7 : fI S7 737 m = nI d := by rw [e7]; simp only [gs_AI]; exact g4
    rw [g7, e0]
    refine ⟨m + 22, MX_r731 hM7, MX_t22 hM7, by rw [MX_l22 hM7]; exact vp_n (by omega) (by omega), ?_⟩
    intro S10 e10
    have hM10 : MX m S10 := by rw [e10]; simp only [MX_sAI]; exact hM7
    have g10 : fI S10 737 m = nI d := by rw [e10]; simp only [gs_AI]; exact g7
    rw [g10, e0]
    refine ⟨m + 23, MX_r732 hM10, MX_t23 hM10, by rw [MX_l23 hM10]; exact vp_n (by omega) (by omega), ?_⟩
    intro S13 e13
    have hM13 : MX m S13 := by rw [e13]; simp only [MX_sAI]; exact hM10
    have g13 : fI S13 737 m = nI d := by rw [e13]; simp only [gs_AI]; exact g10
    rw [g13, e0]
    refine ⟨m + 24, MX_r733 hM13, MX_t24 hM13, by rw [MX_l24 hM13]; exact vp_n (by omega) (by omega), ?_⟩
    intro S16 e16
    have g16 : fI S16 737 m = nI d := by rw [e16]; simp only [gs_AI]; exact g13
    have v16 : fI S16 758 m = fI T 758 m := by rw [e16, e13, e10, e7, e4]; simp only [gs_AI]
    rw [g16, nI_1]
    intro S17 e17
    have g17 : fI S17 737 m = nI (d + 1) := by rw [e17]; simp only [gs_FI]; rw [if_pos ⟨trivial, trivial⟩]
    have v17 : fI S17 758 m = fI T 758 m := by rw [e17]; simp only [gs_FI]; rw [if_neg (by omega)]; exact v16
    have := h1 c
    unfold tEnt mxd at this
    rw [g17, v17]
    by_cases z : nI (d + 1) ≤ fI T 758 m
    · rw [if_pos z] at this ⊢
      intro S19 e19
      rw [e19, e17, e16, e13, e10, e7, e4]; exact this
    · rw [if_neg z] at this ⊢
      intro S19 e19
      rw [e19, e17, e16, e13, e10, e7, e4]; exact this
  · rw [h737, if_pos (by rw [show (200 : Int32) = nI 200 from rfl, n_eq (by omega) (by omega)]; omega)]
    exact r_mstop (h0 (by omega))
theorem push_Mid {x m n nn a : Nat} {st : Nat → Nat} {op oa ob oc : Nat → Int32} {N : Nat} {th ra rb rc : Nat → Nat} {F : Nat} {fa : Nat → Nat} {L : List FrT} {left took q r p : Nat} {o : Option Nat} {kv e v : Int32} {S T : Sg} (h : Mid x m n nn a st op oa ob oc N th ra rb rc F fa L left took S T) (hd : L.length < 200) (hw : ∃ w, w + ctL op ((q, r, o, 0) :: L) ≤ took ∧ fI T 756 m = nI w)
    (hq : tg S q = 2) (h65 : fR S 65 q = L.head?.map (·.1)) (h66 : fI S 66 q = nI (rH op oc n r)) (h67 : fI S 67 q = nI (fE op oc n (q, r, o, 0))) (h68 : fI S 68 q = 0) (hr : r < (mk_l op oc n).length) (ho : o = none → fR S 64 q = some (x + 14))
    (hk : ∀ k, o = some k → k < n ∧ fR S 64 q = some (st k) ∧ kv = nI k ∧ (op k = 25 ∨ op k = 29 ∨ op k = 30 ∨ op k = 35) ∧ (kd op (some k) ≠ 0 → rL op oc n r ≤ k ∧ k < rH op oc n r)) (he : kd op o = 0 → e = nI (rH op oc n r)) (hne : ∀ g ∈ L, g.1 ≠ q) (hl : lnk op oc n (q, r, o, 0) L) :
    Mid x m n nn a st op oa ob oc N th ra rb rc F fa ((q, r, o, 0) :: L) left took (sEnt x q L.length p v S) (tEnt m L.length (nI (kd op o)) kv e v T) := by
  obtain ⟨h1, h2, ⟨h3, h3', h3''⟩, h4, h5, h6, h7, h8⟩ := h
  have hS := h1.1
  have q13 : q ≠ x + 13 := fun e => by rw [e, SX_t13 hS] at hq; exact absurd hq (by decide)
  have q10 : q ≠ x + 10 := fun e => by rw [e, SX_t10 hS] at hq; exact absurd hq (by decide)
  have cS : CAg x S (sEnt x q L.length p v S) := by
    unfold sEnt
    exact CAg_tr (CAg_FI (by unfold cK; omega)) (CAg_tr (CAg_FI (by unfold cK; omega)) (CAg_tr (CAg_FR (by unfold cK; omega)) (CAg_tr (CAg_FI (by unfold cK; omega)) (CAg_FI (by unfold cK; omega)))))
  have cT : TCA m T (tEnt m L.length (nI (kd op o)) kv e v T) := by
    unfold tEnt
    exact TCA_tr (TCA_AI (by omega)) (TCA_tr (TCA_AI (by omega)) (TCA_tr (TCA_AI (by omega)) (TCA_tr (TCA_AI (by omega)) (TCA_tr (TCA_AI (by omega)) (TCA_tr (TCA_FI (by decide)) (TCA_FI (by decide)))))))
  have hS' : SX x (sEnt x q L.length p v S) := by
    unfold sEnt
    simp only [SX_sFI]
    exact (SX_sFR (by decide)).mpr ((SX_sFI _ _ _).mpr ((SX_sFI _ _ _).mpr hS))
  have sI : ∀ k' a', fI (sEnt x q L.length p v S) k' a' = if k' = 584 ∧ a' = x + 13 then 0 else if k' = 582 ∧ a' = x + 13 then nI p else if k' = 263 ∧ a' = x + 10 then v else if k' = 581 ∧ a' = x + 13 then nI (L.length + 1) else fI S k' a' := by
    intro k' a'; unfold sEnt; simp only [gs_FI, gs_FR]
  have sR : ∀ k' a', fR (sEnt x q L.length p v S) k' a' = if k' = 580 ∧ a' = x + 13 then some q else fR S k' a' := by
    intro k' a'; unfold sEnt; simp only [gs_FI, gs_FR]
  have sO : tg (sEnt x q L.length p v S) = tg S ∧ fL (sEnt x q L.length p v S) = fL S ∧ aI (sEnt x q L.length p v S) = aI S ∧ aL (sEnt x q L.length p v S) = aL S ∧ sz (sEnt x q L.length p v S) = sz S := by
    unfold sEnt; simp only [gs_FI, gs_FR]; exact ⟨trivial, trivial, trivial, trivial, trivial⟩
  have tI : ∀ k', fI (tEnt m L.length (nI (kd op o)) kv e v T) k' m = if k' = 758 ∧ m = m then v else if k' = 737 ∧ m = m then nI (L.length + 1) else fI T k' m := by
    intro k'; unfold tEnt; simp only [gs_FI, gs_AI]
  have tA : ∀ a' i, aI (tEnt m L.length (nI (kd op o)) kv e v T) a' i = if a' = m + 24 ∧ i = L.length then 0 else if a' = m + 23 ∧ i = L.length then 0 else if a' = m + 22 ∧ i = L.length then e else if a' = m + 21 ∧ i = L.length then kv else if a' = m + 20 ∧ i = L.length then nI (kd op o) else aI T a' i := by
    intro a' i; unfold tEnt; simp only [gs_FI, gs_AI]
  have tO : fL (tEnt m L.length (nI (kd op o)) kv e v T) = fL T ∧ aL (tEnt m L.length (nI (kd op o)) kv e v T) = aL T := by
    unfold tEnt; simp only [gs_FI, gs_AI]; exact ⟨trivial, trivial⟩
  generalize sEnt x q L.length p v S = S' at *
  generalize tEnt m L.length (nI (kd op o)) kv e v T = T' at *
  obtain ⟨g1, g2, g3, g4, g5⟩ := sO
  obtain ⟨t1, t2⟩ := tO
  have nI' : ∀ k' a', k' ≠ 584 → k' ≠ 582 → k' ≠ 263 → k' ≠ 581 → fI S' k' a' = fI S k' a' := fun k' a' w1 w2 w3 w4 => by rw [sI, if_neg (by omega), if_neg (by omega), if_neg (by omega), if_neg (by omega)]
  have nR : ∀ k' a', k' ≠ 580 → fR S' k' a' = fR S k' a' := fun k' a' w => by rw [sR, if_neg (by omega)]
  have nT : ∀ k', k' ≠ 758 → k' ≠ 737 → fI T' k' m = fI T k' m := fun k' w1 w2 => by rw [tI, if_neg (by omega), if_neg (by omega)]
  have nA : ∀ k' i, (k' < 20 ∨ 24 < k' ∨ i ≠ L.length) → aI T' (m + k') i = aI T (m + k') i := fun k' i w => by rw [tA, if_neg (by omega), if_neg (by omega), if_neg (by omega), if_neg (by omega), if_neg (by omega)]
  have nA' : ∀ k', (k' < 20 ∨ 24 < k') → aI T' (m + k') = aI T (m + k') := fun k' w => funext fun i => nA _ i (by omega)
  have a20 : aI T' (m + 20) L.length = nI (kd op o) := by rw [tA, if_neg (by omega), if_neg (by omega), if_neg (by omega), if_neg (by omega), if_pos ⟨rfl, rfl⟩]
  have a21 : aI T' (m + 21) L.length = kv := by rw [tA, if_neg (by omega), if_neg (by omega), if_neg (by omega), if_pos ⟨rfl, rfl⟩]
  have a22 : aI T' (m + 22) L.length = e := by rw [tA, if_neg (by omega), if_neg (by omega), if_pos ⟨rfl, rfl⟩]
  have a23 : aI T' (m + 23) L.length = 0 := by rw [tA, if_neg (by omega), if_pos ⟨rfl, rfl⟩]
  have i581 : fI S' 581 (x + 13) = nI (L.length + 1) := by rw [sI, if_neg (by omega), if_neg (by omega), if_neg (by omega), if_pos ⟨rfl, rfl⟩]
  have i263 : fI S' 263 (x + 10) = v := by rw [sI, if_neg (by omega), if_neg (by omega), if_pos ⟨rfl, rfl⟩]
  have j737 : fI T' 737 m = nI (L.length + 1) := by rw [tI, if_neg (by omega), if_pos ⟨rfl, rfl⟩]
  have j758 : fI T' 758 m = v := by rw [tI, if_pos ⟨rfl, rfl⟩]
  clear sI tI tA sR
  refine ⟨St_C h1 hS' cS cT, Ho_C h2 hS cS cT, ⟨RFa_keep h3 (fun a' ha' => ⟨by rw [g1]; exact ha', nI' _ _ (by omega) (by omega) (by omega) (by omega), nR _ _ (by omega)⟩) ⟨nA' 28 (by omega), nA' 29 (by omega)⟩, h3', (nT 745 (by omega) (by omega)).trans h3''⟩, ?_, ?_, ?_, ?_, ?_⟩
  · obtain ⟨d1, d2, d3, d4, d5, ⟨o', o1, o2, o3, o4⟩, ⟨w, w1, w2, w3, w4⟩, d8, d9⟩ := h4
    obtain ⟨w', w5, w6⟩ := hw
    have hnn : took ≤ 1000 := by have := h5.1; have := h5.2.1; omega
    have ew : w = w' := by rw [w3] at w6; exact (n_eq (by omega) (by omega)).mp w6
    subst ew
    refine ⟨(nI' _ _ (by omega) (by omega) (by omega) (by omega)).trans d1, by rw [g2]; exact d2, (nR _ _ (by omega)).trans d3, by rw [t1]; exact d4, (nT _ (by omega) (by omega)).trans d5, ⟨o', o1, (nI' _ _ (by omega) (by omega) (by omega) (by omega)).trans o2, (nT _ (by omega) (by omega)).trans o3, fun i hi => by rw [g4, t2]; exact o4 i hi⟩, ⟨w, ?_, (nI' _ _ (by omega) (by omega) (by omega) (by omega)).trans w2, (nT _ (by omega) (by omega)).trans w3, fun i hi => by rw [g3, nA' 31 (by omega)]; exact w4 i hi⟩, i263.trans j758.symm, ?_⟩
    · exact w5
    · rw [nI' 264 _ (by omega) (by omega) (by omega) (by omega), nT 757 (by omega) (by omega)]; exact d9
  · obtain ⟨d1, d2, d3, d4, d5, d6, d7, d8⟩ := h5
    exact ⟨d1, d2, (nI' _ _ (by omega) (by omega) (by omega) (by omega)).trans d3, (nT _ (by omega) (by omega)).trans d4, (nT _ (by omega) (by omega)).trans d5, i581, j737, by show L.length + 1 ≤ 200; omega⟩
  · obtain ⟨c1, c2, c3, c4, c5⟩ := h6
    refine ⟨(nI' _ _ (by omega) (by omega) (by omega) (by omega)).trans c1, (nT _ (by omega) (by omega)).trans c2, c3, c4, ?_⟩
    rw [nI' 645 _ (by omega) (by omega) (by omega) (by omega), nT _ (by omega) (by omega)]; exact c5
  · refine ⟨⟨⟨by rw [g1]; exact hq, (nR _ _ (by omega)).trans h65, (nI' _ _ (by omega) (by omega) (by omega) (by omega)).trans h66, (nI' _ _ (by omega) (by omega) (by omega) (by omega)).trans h67, (nI' _ _ (by omega) (by omega) (by omega) (by omega)).trans h68⟩, ⟨hr, by dsimp only; omega, a20, a23, fun w => absurd rfl w⟩, fun w => a22.trans (he w), fun w => (nR _ _ (by omega)).trans (ho w), fun k w => ?_, fun w => ?_, fun w => ?_⟩, hne, hl, StkR_keep (Nat.le_refl _) (fun _ _ _ => rfl) L (fun g _ => ⟨by rw [g1], fun k _ _ => ⟨nI' _ _ (by omega) (by omega) (by omega) (by omega), by rw [g2], nR _ _ (by omega)⟩⟩) (fun i hi => ⟨fun k _ _ => nA k i (by omega), by rw [t2]⟩) h7⟩
    · obtain ⟨k1, k2, k3, k4, k5⟩ := hk k w
      refine ⟨k1, (nR _ _ (by omega)).trans k2, a21.trans k3, k4, k5, fun z => ?_, fun z => ?_⟩
      · exact absurd (show (0 : Nat) = 1 from z) (by decide)
      · exact absurd (show (0 : Nat) = 2 from z) (by decide)
    · exact absurd (show (0 : Nat) = 1 from w) (by decide)
    · exact absurd (show (0 : Nat) = 2 from w) (by decide)
  · unfold fre; rw [g1, g5]; exact h8
