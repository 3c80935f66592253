def cv (K w : Int32) : Int32 := if w = 0 then (if K = 0 then 1 else 0) else if w = 2 then (if K = 2 then 1 else 0) else (if K = 1 then 1 else if K = 2 then 1 else 0)
theorem cv_01 (K w : Int32) : cv K w = 0 ∨ cv K w = 1 := by
  unfold cv
  split
  · split
    · exact Or.inr rfl
    · exact Or.inl rfl
  · split
    · split
      · exact Or.inr rfl
      · exact Or.inl rfl
    · split
      · exact Or.inr rfl
      · split
        · exact Or.inr rfl
        · exact Or.inl rfl
theorem r_cast {q : Nat} {w : Int32} {S : Sg} {Q : Int32 → Sg → Prop} (h : Q (cv (fI S 512 q) w) S) : wX8_isCastAs q w S Q := by
  unfold wX8_isCastAs
  unfold cv at h
  by_cases c0 : w = 0
  · rw [if_pos c0] at h ⊢
    by_cases d : fI S 512 q = 0
    · rw [if_pos d] at h ⊢; exact h
    · rw [if_neg d] at h ⊢; exact h
  rw [if_neg c0] at h ⊢
  by_cases c2 : w = 2
  · rw [if_pos c2] at h ⊢
    by_cases d : fI S 512 q = 2
    · rw [if_pos d] at h ⊢; exact h
    · rw [if_neg d] at h ⊢; exact h
  rw [if_neg c2] at h ⊢
  unfold wX8_rings
  by_cases d : fI S 512 q = 1
  · rw [if_pos d] at h ⊢; exact ⟨Or.inr rfl, h⟩
  rw [if_neg d] at h ⊢
  by_cases d2 : fI S 512 q = 2
  · rw [if_pos d2] at h ⊢; exact ⟨Or.inr rfl, h⟩
  · rw [if_neg d2] at h ⊢; exact ⟨Or.inl rfl, h⟩
theorem cast_if {K w : Int32} (hK : K = 0 ∨ K = 1 ∨ K = 2) (hw : w = 0 ∨ w = 1 ∨ w = 2 ∨ w = 3) {A B : Prop} (h1 : cv K w = 1 → A) (h0 : cv K w = 0 → B) : (if K < 0 then A else if K = w then A else if K = 2 then (if w = 1 then A else (if K ≤ 0 then B else if w = 3 then A else B)) else (if K ≤ 0 then B else if w = 3 then A else B)) := by
  rcases hK with rfl | rfl | rfl <;> rcases hw with rfl | rfl | rfl | rfl <;> (repeat (first | rw [if_pos (by decide)] | rw [if_neg (by decide)])) <;> first | exact h1 (by decide) | exact h0 (by decide)
theorem and3_cs {i : Int32} : i &&& 3 = 0 ∨ i &&& 3 = 1 ∨ i &&& 3 = 2 ∨ i &&& 3 = 3 := by
  obtain ⟨k, hk, e⟩ := and3_of i
  rw [e]
  have : k = 0 ∨ k = 1 ∨ k = 2 ∨ k = 3 := by omega
  rcases this with rfl | rfl | rfl | rfl
  · exact Or.inl rfl
  · exact Or.inr (Or.inl rfl)
  · exact Or.inr (Or.inr (Or.inl rfl))
  · exact Or.inr (Or.inr (Or.inr rfl))
theorem r_casts {m p jc j : Nat} {y8 ob' : Int32} {T : Sg} {Q : Int32 → Sg → Prop} (hM : MX m T) (hp : p < 2000) (e3 : aI T (m + 3) p = ob') (e4 : aI T (m + 4) p &&& 7 = nI jc) (hjc : jc < 8) (hj : j ≤ 8000) (ey : y8 = nI j) (hk : 1 ≤ j → aI T (m + 14) j = 0 ∨ aI T (m + 14) j = 1 ∨ aI T (m + 14) j = 2) (h1 : (j = 0 ∨ cv (aI T (m + 14) j) (ob' &&& 3) = 1) → Q 0 (sAI T (m + 13) jc y8)) (h0 : 1 ≤ j → cv (aI T (m + 14) j) (ob' &&& 3) = 0 → Q 9 T) : wX11_casts m (nI p) y8 T Q := by
  have b56 : (j = 0 ∨ cv (aI T (m + 14) j) (ob' &&& 3) = 1) → wX11_casts_b56 m (nI p) y8 T Q := by
    intro w
    unfold wX11_casts_b56 wX11_casts_b61
    rw [if_neg (by decide)]
    refine ⟨m + 4, MX_r707 hM, MX_t4 hM, by rw [MX_l4 hM]; exact vp_n hp (by omega), m + 13, MX_r718 hM, MX_t13 hM, ?_⟩
    rw [n_cl (by omega), e4, n_cl (by omega)]
    exact ⟨by rw [MX_l13 hM]; exact vp_n hjc (by omega), nm_e (h1 w)⟩
  have v3 : vp_in (nI p) (ln T (m + 3)) := by rw [MX_l3 hM]; exact vp_n hp (by omega)
  unfold wX11_casts
  by_cases z : y8 = 0
  · rw [if_pos z]
    have j0 : j = 0 := by rw [ey] at z; exact (n_eq (b := 0) (by omega) (by omega)).mp z
    unfold wX11_casts_b14
    refine ⟨m + 3, MX_r706 hM, MX_t3 hM, v3, nm_e ?_⟩
    rw [if_pos (by decide)]
    exact b56 (Or.inl j0)
  · rw [if_neg z]
    have j1 : 1 ≤ j := by
      rcases Nat.eq_zero_or_pos j with w | w
      · rw [w] at ey; exact absurd ey z
      · exact w
    refine ⟨m + 14, MX_r719 hM, MX_t14 hM, by rw [MX_l14 hM, ey]; exact vp_n (by omega) (by omega), ?_⟩
    rw [ey, n_cl (by omega)]
    rw [ey] at b56
    unfold wX11_casts_b14
    refine ⟨m + 3, MX_r706 hM, MX_t3 hM, v3, ?_⟩
    rw [n_cl (by omega), e3]
    refine nm_e ?_
    have b60 : cv (aI T (m + 14) j) (ob' &&& 3) = 0 → wX11_casts_b60 m (nI p) (nI j) T Q := by
      intro w
      unfold wX11_casts_b60 wX11_casts_b61
      rw [if_pos rfl]
      exact h0 j1 w
    unfold wX11_casts_b46
    exact cast_if (hk j1) and3_cs (fun w => b56 (Or.inr w)) b60
theorem step_hand {x m n nn a : Nat} {st : Nat → Nat} {op oa ob oc : Nat → Int32} {N : Nat} {th ra rb rc : Nat → Nat} {F : Nat} {fa : Nat → Nat} {f : FrT} {L : List FrT} {p left took i : Nat} {S T0 : Sg} (h0 : TK x m n nn a st op oa ob oc N th ra rb rc F fa f L p left took S T0) (hi : op p = nI i) (i1 : 14 ≤ i) (i2 : i ≤ 18) : StepS x m n nn a st op oa ob oc N th ra rb rc F fa f L p left took S := by
  obtain ⟨hp, hn⟩ := TK_p h0
  obtain ⟨s1, s2, s3, s4, s5, s6, s7, s8, s9, s10, -⟩ := St_st h0.1.1 hp
  have hS := h0.1.1.1
  have hf : fre S := h0.1.2.2.2.2.2.2.2
  obtain ⟨ja, hja, eja⟩ := and7_of (oa p)
  obtain ⟨jb, hjb, ejb⟩ := and7_of (ob p)
  obtain ⟨jc, hjc, ejc⟩ := and7_of (oc p)
  have cls := fun (Q : Int32 → Sg → Prop) => hand_cls (n := n) (i := i) (Q := Q) hS s2 s5 hi i1 i2 s6 eja hja
  have ref := fun T (hT : TK x m n nn a st op oa ob oc N th ra rb rc F fa f L p left took S T) (Q : Int32 → Sg → Prop) => things_ref (Q := Q) hT hi i1 (by omega) eja ejb ejc hja hjb hjc rfl
  have v13 : ∀ T, TK x m n nn a st op oa ob oc N th ra rb rc F fa f L p left took S T → ∀ k, k < 8 → vp_in (nI k) (ln T (m + 13)) := fun T hT k hk => by rw [MX_l13 hT.1.1.2.1]; exact vp_n hk (by omega)
  have hHa := fun T (hT : TK x m n nn a st op oa ob oc N th ra rb rc F fa f L p left took S T) => hT.1.2.1.2.2.1 ja hja
  have htg : ∀ q, aR S (x + 6) ja = some q → tg S q = 9 := hr_tg h0.1.2.1.1 (hHa T0 h0)
  have v6 : ∀ k, k < 8 → vp_in (nI k) (ln S (x + 6)) := fun k hk => by rw [SX_l6 hS]; exact vp_n hk (by omega)
  -- a hand is set
  have hand : ∀ (j : Nat), j < 8 → ∀ o : Option Nat, (∀ Q : Int32 → Sg → Prop, Q (-1) (sAR S (x + 6) j o) → wX3_workStep (x + 4) (some (st p)) S Q) → (∀ T, TK x m n nn a st op oa ob oc N th ra rb rc F fa f L p left took S T → ∃ v, hrel N th o v ∧ ∀ Q : Int32 → Sg → Prop, Q 0 (sAI T (m + 13) j v) → hB m (nI p) (op p) T Q) → StepS x m n nn a st op oa ob oc N th ra rb rc F fa f L p left took S := by
    intro j hj o h1 h2
    refine StepS_ok (S1 := sAR S (x + 6) j o) (N' := N) (th' := th) (ra' := ra) (rb' := rb) (rc' := rc) h0 hi (by omega) (by omega) ?_ h1 (fun T hT => ?_)
    · simp only [gs_AR]; exact h0.2.1.2.1
    · obtain ⟨v, w1, w2⟩ := h2 T hT
      refine ⟨_, w2, Mid_hand hT.1 hj w1, ?_, ?_, ?_⟩
      · simp only [gs_AR]; exact hT.2.1.1
      · simp only [gs_AR]; exact hT.2.1.2.2.2.2
      · simp only [gs_AI]; exact hT.2.1.2.2.2.1
  by_cases c14 : i = 14
  · obtain ⟨k, hk, ek⟩ := and3_of (ob p)
    have c14' : ∀ Q : Int32 → Sg → Prop, wX3_newThing (nI k) (aL S (x + 5) jc) S (fun (r7 : Option Nat) (S8 : Sg) => ∃ a9 : Nat, (fR S 193 (x + 4)) = some a9 ∧ tg S8 a9 = 18 ∧ vp_in (nI ja) (ln S8 a9) ∧ (∀ v, r7 = some v → tg S8 v = 9) ∧ ∀ S11 : Sg, S11 = sAR S8 a9 ja r7 → Q (-1 : Int32) S11) → wX3_workStep (x + 4) (some (st p)) S Q := by
      intro Q hQ
      refine cls Q ?_
      rw [if_pos c14, s8]
      refine r_numberOf hS ejc hjc ?_
      rw [s7, ek]
      exact hQ
    by_cases c3 : k = 3
    · subst c3
      refine hand ja hja none (fun Q hQ => c14' Q ?_) (fun T hT => ⟨0, Or.inl ⟨rfl, rfl⟩, fun Q hQ => ref T hT Q ?_⟩)
      · unfold wX3_newThing
        rw [if_neg (by decide)]
        exact ⟨x + 6, SX_r193 hS, SX_t6 hS, v6 ja hja, (fun v w => by cases w), nm_e hQ⟩
      · rw [if_pos c14, ek]
        unfold wX11_newThing
        rw [if_pos (show nI 3 = 3 from rfl)]
        exact ⟨v13 T hT ja hja, nm_e hQ⟩
    · have he : Ext 9 S (sTh (nI k) (aL S (x + 5) jc) S) := by unfold sTh; exact Ext_FL (Ext_FI Ext_nw)
      have o6 := he.2.2 (x + 6) (fre_ne hf (by rw [SX_t6 hS]; decide))
      have o13 := he.2.2 (x + 13) (fre_ne hf (by rw [SX_t13 hS]; decide))
      refine StepS_ok (S1 := sAR (sTh (nI k) (aL S (x + 5) jc) S) (x + 6) ja (some (sz S))) (N' := N + 1) (th' := fun j => if j = N + 1 then sz S else th j) h0 hi (by omega) (by omega) ?_ (fun Q hQ => c14' Q ?_) (fun T hT => ⟨sAI (tTh m N (nI k) (aL S (x + 5) jc) T) (m + 13) ja (nI (N + 1)), fun Q hQ => ref T hT Q ?_, Mid_hand (Mid_newTh hT.1 hT.2.2.2.2.1 (by omega)) hja (Or.inr ⟨N + 1, by omega, by omega, ?_, rfl⟩), ?_, ?_, ?_⟩)
      · simp only [gs_AR]; exact (o13.2.2.1 582).1.trans h0.2.1.2.1
      · unfold wX3_newThing
        rw [if_pos (by rw [show (2 : Int32) = nI 2 from rfl, n_le (by omega) (by omega)]; omega)]
        intro S3 e3
        unfold wX8_init
        intro S4 e4 S5 e5
        have e5' : S5 = sTh (nI k) (aL S (x + 5) jc) S := by rw [e5, e4, e3]; rfl
        rw [e5']
        refine ⟨x + 6, SX_r193 hS, o6.1.trans (SX_t6 hS), by rw [o6.2.1]; exact v6 ja hja, fun v w => ?_, nm_e hQ⟩
        cases w
        exact he.2.1
      · rw [if_pos c14, ek]
        have hM := hT.1.1.2.1
        have hN := hT.1.2.1.1.1
        have h721 := hT.1.2.1.1.2.1
        have hN2 : N + 1 ≤ 8000 := by
          have := hT.2.2.2.2.1
          have := hT.1.2.2.2.2.2.1.2.2.1
          have := hT.1.2.2.2.2.1.1
          omega
        unfold wX11_newThing
        rw [if_neg (show ¬ nI k = 3 from n_ne (k := 3) (by omega) (by omega) c3), h721, nI_1]
        intro S2 e2
        have hM2 : MX m S2 := by rw [e2]; simp only [MX_sFI]; exact hM
        have g2 : fI S2 721 m = nI (N + 1) := by rw [e2]; simp only [gs_FI]; rw [if_pos ⟨trivial, trivial⟩]
        rw [g2]
        refine ⟨m + 14, MX_r719 hM2, MX_t14 hM2, by rw [MX_l14 hM2]; exact vp_n (by omega) (by omega), ?_⟩
        rw [n_cl (by omega)]
        intro S5 e5
        have hM5 : MX m S5 := by rw [e5]; simp only [MX_sAI]; exact hM2
        have g5 : fI S5 721 m = nI (N + 1) := by rw [e5]; simp only [gs_AI]; exact g2
        rw [g5]
        refine ⟨m + 15, MX_r720 hM5, MX_t15 hM5, by rw [MX_l15 hM5]; exact vp_n (by omega) (by omega), ?_⟩
        rw [n_cl (by omega)]
        intro S8 e8
        have hM8 : MX m S8 := by rw [e8]; simp only [MX_sAL]; exact hM5
        have g8 : fI S8 721 m = nI (N + 1) := by rw [e8]; simp only [gs_AL]; exact g5
        rw [g8]
        have e8' : S8 = tTh m N (nI k) (aL S (x + 5) jc) T := by rw [e8, e5, e2, hT.1.2.1.2.1 jc hjc]; rfl
        refine ⟨by rw [MX_l13 hM8]; exact vp_n hja (by omega), ?_⟩
        rw [e8']
        exact nm_e hQ
      · exact congrArg some (if_pos rfl).symm
      · simp only [gs_AR]; exact (o13.2.2.1 584).1.trans hT.2.1.1
      · simp only [gs_AR]; exact (o13.2.2.1 580).2.2.trans hT.2.1.2.2.2.2
      · unfold tTh; simp only [gs_AI, gs_AL, gs_FI]; rw [if_neg (by omega)]; exact hT.2.1.2.2.2.1
  by_cases c15 : i = 15
  · refine hand jb hjb (aR S (x + 6) ja) (fun Q hQ => cls Q ?_) (fun T hT => ⟨aI T (m + 13) ja, hHa T hT, fun Q hQ => ref T hT Q ?_⟩)
    · rw [if_neg c14, if_pos c15, s7, ejb, n_cl (by omega)]
      exact ⟨x + 6, SX_r193 hS, SX_t6 hS, v6 jb hjb, htg, nm_e hQ⟩
    · rw [if_neg c14, if_pos c15]; exact hQ
  have b114 : ∀ Q : Int32 → Sg → Prop, Q (-1) (sAR S (x + 6) jc (aR S (x + 6) ja)) → wX3_workHand_b114 (x + 4) (some (st p)) (aR S (x + 6) ja) S Q := by
    intro Q hQ
    unfold wX3_workHand_b114
    refine ⟨st p, rfl, s2, x + 6, SX_r193 hS, SX_t6 hS, ?_⟩
    rw [s8, ejc, n_cl (by omega)]
    exact ⟨v6 jc hjc, htg, nm_e hQ⟩
  have kind : ∀ T, TK x m n nn a st op oa ob oc N th ra rb rc F fa f L p left took S T → ∃ j, j ≤ 8000 ∧ aI T (m + 13) ja = nI j ∧ (aR S (x + 6) ja = none ↔ j = 0) ∧ (1 ≤ j → j ≤ N ∧ aR S (x + 6) ja = some (th j) ∧ (aI T (m + 14) j = 0 ∨ aI T (m + 14) j = 1 ∨ aI T (m + 14) j = 2) ∧ fI S 512 (th j) = aI T (m + 14) j ∧ fL S 513 (th j) = aL T (m + 15) j) := by
    intro T hT
    rcases hHa T hT with ⟨w1, w2⟩ | ⟨j, j1, j2, j3, j4⟩
    · exact ⟨0, by omega, w2, ⟨fun _ => rfl, fun _ => w1⟩, fun w => absurd w (by omega)⟩
    · obtain ⟨b1, b2, b3, b4⟩ := hT.1.2.1.1.2.2.1 j j1 j2
      have := hT.1.2.1.1.1
      exact ⟨j, by omega, j4, ⟨(fun w => by rw [j3] at w; cases w), fun w => by omega⟩, fun _ => ⟨j2, j3, b4, b2, b3⟩⟩
  by_cases c18 : i = 18
  · have rc : ∀ T, TK x m n nn a st op oa ob oc N th ra rb rc F fa f L p left took S T → ∀ Q : Int32 → Sg → Prop, wX11_casts m (nI p) (aI T (m + 13) ja) T (fun r S => Q r S) → hB m (nI p) (op p) T Q := by
      intro T hT Q hQ
      refine ref T hT Q ?_
      rw [if_neg c14, if_neg c15, if_pos c18]; exact hQ
    by_cases ok : aR S (x + 6) ja = none ∨ ∃ q, aR S (x + 6) ja = some q ∧ cv (fI S 512 q) (ob p &&& 3) = 1
    · refine hand jc hjc (aR S (x + 6) ja) (fun Q hQ => cls Q ?_) (fun T hT => ⟨aI T (m + 13) ja, hHa T hT, fun Q hQ => rc T hT Q ?_⟩)
      · rw [if_neg c14, if_neg c15, if_pos c18]
        rcases ok with w | ⟨q, w1, w2⟩
        · rw [if_pos w]; exact b114 Q hQ
        · rw [if_neg (by rw [w1]; exact fun z => by cases z), s7]
          refine ⟨q, w1, htg q w1, r_cast ?_⟩
          rw [w2, if_neg (by decide)]
          exact b114 Q hQ
      · obtain ⟨j, j1, j2, j3, j4⟩ := kind T hT
        obtain ⟨-, -, -, -, -, f1, f2, f3, f4⟩ := hT.1.1
        refine r_casts hT.1.1.2.1 (by omega) (by rw [f3]) (by rw [f4]; exact ejc) hjc j1 j2 (fun w => (j4 w).2.2.1) (fun _ => hQ) (fun w1 w2 => ?_)
        obtain ⟨k1, k2, k3, k4, -⟩ := j4 w1
        rcases ok with w | ⟨q, u1, u2⟩
        · rw [k2] at w; cases w
        · rw [k2] at u1; cases u1
          rw [k4, w2] at u2; exact absurd u2 (by decide)
    · refine StepS_bad (k := 8) h0 hi (by omega) (by omega) (by omega) (fun Q hQ => cls Q ?_) (fun T hT Q hQ => rc T hT Q ?_)
      · rw [if_neg c14, if_neg c15, if_pos c18, if_neg (fun w => ok (Or.inl w)), s7]
        cases e : aR S (x + 6) ja with
        | none => exact absurd (Or.inl e) ok
        | some q =>
          refine ⟨q, rfl, htg q e, r_cast ?_⟩
          rcases cv_01 (fI S 512 q) (ob p &&& 3) with w | w
          · rw [w, if_pos rfl]; exact hQ
          · exact absurd (Or.inr ⟨q, e, w⟩) ok
      · obtain ⟨j, j1, j2, j3, j4⟩ := kind T hT
        obtain ⟨-, -, -, -, -, f1, f2, f3, f4⟩ := hT.1.1
        refine r_casts hT.1.1.2.1 (by omega) (by rw [f3]) (by rw [f4]; exact ejc) hjc j1 j2 (fun w => (j4 w).2.2.1) (fun w => ?_) (fun _ _ => hQ)
        rcases w with w | w
        · exact absurd (Or.inl (j3.mpr w)) ok
        · rcases Nat.eq_zero_or_pos j with z | z
          · exact absurd (Or.inl (j3.mpr z)) ok
          · obtain ⟨k1, k2, k3, k4, -⟩ := j4 z
            exact absurd (Or.inr ⟨th j, k2, by rw [k4]; exact w⟩) ok
  -- MARK, MARK PUT
  have cm : ∀ Q : Int32 → Sg → Prop, wX3_workMark (x + 4) (some (st p)) (aR S (x + 6) ja) S (fun r S => Q r S) → wX3_workStep (x + 4) (some (st p)) S Q := by
    intro Q hQ
    refine cls Q ?_
    rw [if_neg c14, if_neg c15, if_neg c18]; exact hQ
  cases e : aR S (x + 6) ja with
  | none =>
    refine StepS_bad (k := 6) h0 hi (by omega) (by omega) (by omega) (fun Q hQ => cm Q ?_) (fun T hT Q hQ => ref T hT Q ?_)
    · unfold wX3_workMark
      rw [if_pos e]; exact hQ
    · obtain ⟨j, j1, j2, j3, j4⟩ := kind T hT
      rw [if_neg c14, if_neg c15, if_neg c18, if_pos (by rw [j2, j3.mp e]; rfl)]
      exact hQ
  | some q =>
    have kq : ∀ T, TK x m n nn a st op oa ob oc N th ra rb rc F fa f L p left took S T → ∃ j, 1 ≤ j ∧ j ≤ N ∧ q = th j ∧ ¬ aI T (m + 13) ja = 0 ∧ (aI T (m + 13) ja).toNatClampNeg = j ∧ fL S 513 (th j) = aL T (m + 15) j := by
      intro T hT
      obtain ⟨j, j1, j2, j3, j4⟩ := kind T hT
      rcases Nat.eq_zero_or_pos j with z | z
      · have := j3.mpr z; rw [e] at this; cases this
      · obtain ⟨k1, k2, k3, k4, k5⟩ := j4 z
        rw [e] at k2; cases k2
        exact ⟨j, z, k1, rfl, by rw [j2]; exact nI_ne0 (by omega) (by omega), by rw [j2]; exact n_cl (by omega), k5⟩
    by_cases c16 : i = 16
    · refine StepS_num (v := fL S 513 q) h0 hi (by omega) (by omega) hjb (fun Q hQ => cm Q ?_) (fun T hT Q hQ => ref T hT Q ?_)
      · unfold wX3_workMark
        rw [if_neg (by rw [e]; exact fun z => by cases z)]
        refine ⟨st p, rfl, s2, ?_⟩
        rw [s5, hi, c16, if_pos (show nI 16 = 16 from rfl), s7]
        exact ⟨q, e, htg q e, r_setNumber hS ejb hjb hQ⟩
      · obtain ⟨j, j1, j2, rfl, j4, j5, j6⟩ := kq T hT
        rw [if_neg c14, if_neg c15, if_neg c18, if_neg j4, if_pos c16, j5, ← j6]
        exact hQ
    · have c17 : i = 17 := by omega
      obtain ⟨j0, i1', i2', i3', -⟩ := kq T0 h0
      refine StepS_ok (S1 := sFL S 513 q (aL S (x + 5) jb)) h0 hi (by omega) (by omega) ?_ (fun Q hQ => cm Q ?_) (fun T hT => ⟨sAL T (m + 15) j0 (aL S (x + 5) jb), fun Q hQ => ref T hT Q ?_, by rw [i3']; exact Mid_mark hT.1 i1' i2', ?_, ?_, ?_⟩)
      · simp only [gs_FL]; exact h0.2.1.2.1
      · unfold wX3_workMark
        rw [if_neg (by rw [e]; exact fun z => by cases z)]
        refine ⟨st p, rfl, s2, ?_⟩
        rw [s5, hi, c17, if_neg (show ¬ nI 17 = 16 by decide), s7]
        exact r_numberOf hS ejb hjb ⟨q, e, htg q e, nm_e hQ⟩
      · obtain ⟨j, j1, j2, j3, j4, j5, j6⟩ := kq T hT
        have ej : j = j0 := hT.1.2.1.1.2.2.2 j j0 j1 j2 i1' i2' (j3.symm.trans i3')
        rw [if_neg c14, if_neg c15, if_neg c18, if_neg j4, if_neg c16, if_pos c17, j5, ej, ← hT.1.2.1.2.1 jb hjb]
        exact hQ
      · simp only [gs_FL]; exact hT.2.1.1
      · simp only [gs_FL]; exact hT.2.1.2.2.2.2
      · simp only [gs_AL]; exact hT.2.1.2.2.2.1
