theorem hr_some {N : Nat} {th : Nat → Nat} {q : Nat} {v : Int32} (h : hrel N th (some q) v) : ∃ j, 1 ≤ j ∧ j ≤ N ∧ q = th j ∧ v = nI j := by
  rcases h with ⟨h, -⟩ | ⟨j, j1, j2, j3, j4⟩
  · cases h
  · exact ⟨j, j1, j2, Option.some.inj j3, j4⟩
theorem hr_none {N : Nat} {th : Nat → Nat} {v : Int32} (h : hrel N th none v) : v = 0 := by
  rcases h with ⟨-, h⟩ | ⟨j, -, -, h, -⟩
  · exact h
  · cases h
theorem hr_tg {m N : Nat} {th : Nat → Nat} {S T : Sg} {o : Option Nat} {v : Int32} (hTh : RTh m N th S T) (h : hrel N th o v) : ∀ q, o = some q → tg S q = 9 := by
  intro q e
  rw [e] at h
  obtain ⟨j, j1, j2, j3, j4⟩ := hr_some h
  rw [j3]; exact (hTh.2.2.1 j j1 j2).1
/-- the reference's withThings -/
theorem r_things {m p i ja jb jc N : Nat} {ob' : Int32} {y8 : Int32} {T : Sg} {Q : Int32 → Sg → Prop} (hM : MX m T) (hp : p < 2000) (i1 : 14 ≤ i) (i2 : i ≤ 21) (e1 : aI T (m + 1) p = nI i) (e2 : aI T (m + 2) p &&& 7 = nI ja) (e3 : aI T (m + 3) p = ob') (e3' : ob' &&& 7 = nI jb) (e4 : aI T (m + 4) p &&& 7 = nI jc) (hja : ja < 8) (hjb : jb < 8) (hjc : jc < 8) (e8 : aI T (m + 13) ja = y8) (hy : ∃ j, j ≤ 8000 ∧ y8 = nI j) (h : if i = 14 then wX11_newThing m (ob' &&& 3) (aL T (m + 12) jc) T (fun r44 S45 => vp_in (nI ja) (ln S45 (m + 13)) ∧ ∀ S47 : Sg, S47 = sAI S45 (m + 13) ja r44 → Q 0 S47) else if i = 15 then Q 0 (sAI T (m + 13) jb y8) else if i = 18 then wX11_casts m (nI p) y8 T (fun r S => Q r S) else if y8 = 0 then Q 7 T else if i = 16 then Q 0 (sAL T (m + 12) jb (aL T (m + 15) y8.toNatClampNeg)) else if i = 17 then Q 0 (sAL T (m + 15) y8.toNatClampNeg (aL T (m + 12) jb)) else wX11_makesOf m (nI p) (nI i) y8 T (fun r S => Q r S)) : wX11_withThings m (nI p) T Q := by
  obtain ⟨y, hy1, hy2⟩ := hy
  have lt : ∀ k, k < 36 → k ≠ i → ¬ nI i = nI k := fun k hk h => n_ne (by omega) (by omega) (fun e => h e.symm)
  have ep : (nI p).toNatClampNeg = p := n_cl (by omega)
  have eja : (nI ja).toNatClampNeg = ja := n_cl (by omega)
  have ejb : (nI jb).toNatClampNeg = jb := n_cl (by omega)
  have ejc : (nI jc).toNatClampNeg = jc := n_cl (by omega)
  have v3 : vp_in (nI p) (ln T (m + 3)) := by rw [MX_l3 hM]; exact vp_n hp (by omega)
  have v4 : vp_in (nI p) (ln T (m + 4)) := by rw [MX_l4 hM]; exact vp_n hp (by omega)
  have v2 : vp_in (nI p) (ln T (m + 2)) := by rw [MX_l2 hM]; exact vp_n hp (by omega)
  have v12 : ∀ k, k < 8 → vp_in (nI k) (ln T (m + 12)) := fun k hk => by rw [MX_l12 hM]; exact vp_n hk (by omega)
  have v13 : ∀ k, k < 8 → vp_in (nI k) (ln T (m + 13)) := fun k hk => by rw [MX_l13 hM]; exact vp_n hk (by omega)
  have v15 : vp_in y8 (ln T (m + 15)) := by rw [MX_l15 hM, hy2]; exact vp_n (by omega) (by omega)
  unfold wX11_withThings
  refine ⟨m + 1, MX_r704 hM, MX_t1 hM, by rw [MX_l1 hM]; exact vp_n hp (by omega), ?_⟩
  rw [ep, e1]
  refine nm_e ⟨m + 2, MX_r705 hM, MX_t2 hM, v2, m + 13, MX_r718 hM, MX_t13 hM, ?_⟩
  rw [e2, eja, e8]
  refine ⟨v13 ja hja, nm_e ?_⟩
  by_cases c14 : i = 14
  · rw [if_pos c14] at h
    rw [c14, if_pos (show nI 14 = 14 from rfl)]
    refine ⟨v2, m + 3, MX_r706 hM, MX_t3 hM, v3, m + 4, MX_r707 hM, MX_t4 hM, v4, m + 12, MX_r717 hM, MX_t12 hM, ?_⟩
    rw [e3, e4, ejc]
    exact ⟨v12 jc hjc, h⟩
  rw [if_neg c14] at h
  rw [if_neg (show ¬ nI i = 14 from lt 14 (by omega) (by omega))]
  by_cases c15 : i = 15
  · rw [if_pos c15] at h
    rw [c15, if_pos (show nI 15 = 15 from rfl)]
    refine ⟨m + 3, MX_r706 hM, MX_t3 hM, v3, ?_⟩
    rw [e3, e3', ejb]
    exact ⟨v13 jb hjb, nm_e h⟩
  rw [if_neg c15] at h
  rw [if_neg (show ¬ nI i = 15 from lt 15 (by omega) (by omega))]
  by_cases c18 : i = 18
  · rw [if_pos c18] at h
    rw [c18, if_pos (show nI 18 = 18 from rfl)]
    exact h
  rw [if_neg c18] at h
  rw [if_neg (show ¬ nI i = 18 from lt 18 (by omega) (by omega))]
  by_cases c0 : y8 = 0
  · rw [if_pos c0] at h ⊢; exact h
  rw [if_neg c0] at h ⊢
  by_cases c16 : i = 16
  · rw [if_pos c16] at h
    rw [c16, if_pos (show nI 16 = 16 from rfl)]
    refine ⟨m + 3, MX_r706 hM, MX_t3 hM, v3, m + 15, MX_r720 hM, MX_t15 hM, v15, m + 12, MX_r717 hM, MX_t12 hM, ?_⟩
    rw [e3, e3', ejb]
    exact ⟨v12 jb hjb, nm_e h⟩
  rw [if_neg c16] at h
  rw [if_neg (show ¬ nI i = 16 from lt 16 (by omega) (by omega))]
  by_cases c17 : i = 17
  · rw [if_pos c17] at h
    rw [c17, if_pos (show nI 17 = 17 from rfl)]
    refine ⟨m + 3, MX_r706 hM, MX_t3 hM, v3, m + 12, MX_r717 hM, MX_t12 hM, ?_⟩
    rw [e3, e3', ejb]
    exact ⟨v12 jb hjb, m + 15, MX_r720 hM, MX_t15 hM, v15, nm_e h⟩
  rw [if_neg c17] at h
  rw [if_neg (show ¬ nI i = 17 from lt 17 (by omega) (by omega))]
  exact h
theorem things_ref {x m n nn a : Nat} {st : Nat → Nat} {op oa ob oc : Nat → Int32} {N : Nat} {th ra rb rc : Nat → Nat} {F : Nat} {fa : Nat → Nat} {f : FrT} {L : List FrT} {p left took i ja jb jc : Nat} {S T : Sg} (hT : TK x m n nn a st op oa ob oc N th ra rb rc F fa f L p left took S T) (hi : op p = nI i) (i1 : 14 ≤ i) (i2 : i ≤ 21) (eja : oa p &&& 7 = nI ja) (ejb : ob p &&& 7 = nI jb) (ejc : oc p &&& 7 = nI jc) (hja : ja < 8) (hjb : jb < 8) (hjc : jc < 8) {Q : Int32 → Sg → Prop} {y8 : Int32} (e8 : aI T (m + 13) ja = y8) (h : if i = 14 then wX11_newThing m (ob p &&& 3) (aL T (m + 12) jc) T (fun r44 S45 => vp_in (nI ja) (ln S45 (m + 13)) ∧ ∀ S47 : Sg, S47 = sAI S45 (m + 13) ja r44 → Q 0 S47) else if i = 15 then Q 0 (sAI T (m + 13) jb y8) else if i = 18 then wX11_casts m (nI p) y8 T (fun r S => Q r S) else if y8 = 0 then Q 7 T else if i = 16 then Q 0 (sAL T (m + 12) jb (aL T (m + 15) y8.toNatClampNeg)) else if i = 17 then Q 0 (sAL T (m + 15) y8.toNatClampNeg (aL T (m + 12) jb)) else wX11_makesOf m (nI p) (nI i) y8 T (fun r S => Q r S)) : hB m (nI p) (op p) T Q := by
  obtain ⟨hp, hn⟩ := TK_p hT
  have hM := hT.1.1.2.1
  have hN := hT.1.2.1.1.1
  have hr := hT.1.2.1.2.2.1 ja hja
  obtain ⟨-, -, -, -, -, f1, f2, f3, f4⟩ := hT.1.1
  unfold hB
  rw [hi, if_pos (by rw [show (7 : Int32) = nI 7 from rfl, n_le (by omega) (by omega)]; omega), if_pos (by rw [show (14 : Int32) = nI 14 from rfl, n_le (by omega) (by omega)]; omega)]
  refine r_things (N := N) hM (by omega) i1 i2 (by rw [f1]; exact hi) (by rw [f2]; exact eja) (by rw [f3]) ejb (by rw [f4]; exact ejc) hja hjb hjc e8 ?_ h
  rw [e8] at hr
  rcases hr with ⟨-, w⟩ | ⟨j, j1, j2, j3, j4⟩
  · exact ⟨0, by omega, w⟩
  · exact ⟨j, by omega, j4⟩
theorem hand_cls {x p i ja n : Nat} {st : Nat → Nat} {v0 va : Int32} {S : Sg} {Q : Int32 → Sg → Prop} (hS : SX x S) (s2 : tg S (st p) = 8) (s5 : fI S 449 (st p) = v0) (hi : v0 = nI i) (i1 : 14 ≤ i) (i2 : i ≤ 18) (s6 : fI S 450 (st p) = va) (eja : va &&& 7 = nI ja) (hja : ja < 8) (h : if i = 14 then wX3_numberOf (x + 4) (fI S 452 (st p)) S (fun (r5 : Int64) (S6 : Sg) => wX3_newThing ((fI S 451 (st p)) &&& (3 : Int32)) r5 S6 (fun (r7 : Option Nat) (S8 : Sg) => ∃ a9 : Nat, (fR S 193 (x + 4)) = some a9 ∧ tg S8 a9 = 18 ∧ vp_in (nI ja) (ln S8 a9) ∧ (∀ v, r7 = some v → tg S8 v = 9) ∧ ∀ S11 : Sg, S11 = sAR S8 a9 ja r7 → Q (-1 : Int32) S11)) else if i = 15 then ∃ a14 : Nat, (fR S 193 (x + 4)) = some a14 ∧ tg S a14 = 18 ∧ vp_in ((fI S 451 (st p)) &&& (7 : Int32)) (ln S a14) ∧ (∀ v, aR S (x + 6) ja = some v → tg S v = 9) ∧ ∀ S16 : Sg, S16 = sAR S a14 (((fI S 451 (st p)) &&& (7 : Int32))).toNatClampNeg (aR S (x + 6) ja) → Q (-1 : Int32) S16 else if i = 18 then (if aR S (x + 6) ja = none then wX3_workHand_b114 (x + 4) (some (st p)) (aR S (x + 6) ja) S Q else ∃ a25 : Nat, aR S (x + 6) ja = some a25 ∧ tg S a25 = 9 ∧ wX8_isCastAs a25 ((fI S 451 (st p)) &&& (3 : Int32)) S (fun (r26 : Int32) (S27 : Sg) => (if r26 = 0 then Q (8 : Int32) S27 else wX3_workHand_b114 (x + 4) (some (st p)) (aR S (x + 6) ja) S27 Q))) else wX3_workMark (x + 4) (some (st p)) (aR S (x + 6) ja) S (fun r S => Q r S)) : wX3_workStep (x + 4) (some (st p)) S Q := by
  have lt : ∀ k, k < 36 → k ≠ i → ¬ nI i = nI k := fun k hk h => n_ne (by omega) (by omega) (fun e => h e.symm)
  unfold wX3_workStep
  refine ⟨st p, rfl, s2, ?_⟩
  rw [s5, hi, if_pos (by rw [show (6 : Int32) = nI 6 from rfl, n_lt (by omega) (by omega)]; omega), if_neg (show ¬ nI i = 7 from lt 7 (by omega) (by omega)), if_pos (by rw [show (10 : Int32) = nI 10 from rfl, n_lt (by omega) (by omega)]; omega), if_pos (by rw [show (13 : Int32) = nI 13 from rfl, n_lt (by omega) (by omega)]; omega), if_neg (by rw [show (18 : Int32) = nI 18 from rfl, n_lt (by omega) (by omega)]; omega)]
  unfold wX3_workHand
  refine ⟨st p, rfl, s2, ?_⟩
  rw [s6]
  refine r_thingOf hS eja hja ?_
  rw [s5, hi, s6, eja, n_cl (by omega)]
  by_cases c14 : i = 14
  · rw [if_pos c14] at h
    rw [c14, if_pos (show nI 14 = 14 from rfl)]
    exact h
  rw [if_neg c14] at h
  rw [if_neg (show ¬ nI i = 14 from lt 14 (by omega) (by omega))]
  by_cases c15 : i = 15
  · rw [if_pos c15] at h
    rw [c15, if_pos (show nI 15 = 15 from rfl)]
    exact h
  rw [if_neg c15] at h
  rw [if_neg (show ¬ nI i = 15 from lt 15 (by omega) (by omega))]
  by_cases c18 : i = 18
  · rw [if_pos c18] at h
    rw [c18, if_pos (show nI 18 = 18 from rfl)]
    exact h
  rw [if_neg c18] at h
  rw [if_neg (show ¬ nI i = 18 from lt 18 (by omega) (by omega))]
  exact h
