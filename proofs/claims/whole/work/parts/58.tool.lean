/-! USE, RING, WEIGH -/
theorem step_tool {x m n nn a : Nat} {st : Nat → Nat} {op oa ob oc : Nat → Int32} {N : Nat} {th ra rb rc : Nat → Nat} {F : Nat} {fa : Nat → Nat} {f : FrT} {L : List FrT} {p left took i : Nat} {S T0 : Sg} (h0 : TK x m n nn a st op oa ob oc N th ra rb rc F fa f L p left took S T0) (hi : op p = nI i) (i1 : 19 ≤ i) (i2 : i ≤ 21) : StepS x m n nn a st op oa ob oc N th ra rb rc F fa f L p left took S := by
  obtain ⟨hp, hn⟩ := TK_p h0
  obtain ⟨s1, s2, s3, s4, s5, s6, s7, s8, s9, s10, -⟩ := St_st h0.1.1 hp
  have hS := h0.1.1.1
  obtain ⟨ja, hja, eja⟩ := and7_of (oa p)
  obtain ⟨jb, hjb, ejb⟩ := and7_of (ob p)
  obtain ⟨jc, hjc, ejc⟩ := and7_of (oc p)
  have lt : ∀ k, k < 36 → k ≠ i → ¬ nI i = nI k := fun k hk h => n_ne (by omega) (by omega) (fun e => h e.symm)
  have ref := fun T (hT : TK x m n nn a st op oa ob oc N th ra rb rc F fa f L p left took S T) (Q : Int32 → Sg → Prop) => things_ref (Q := Q) hT hi (by omega) (by omega) eja ejb ejc hja hjb hjc rfl
  have htg : ∀ q, aR S (x + 6) ja = some q → tg S q = 9 := hr_tg h0.1.2.1.1 (h0.1.2.1.2.2.1 ja hja)
  have cls : ∀ Q : Int32 → Sg → Prop, (if aR S (x + 6) ja = none then Q 6 S else (if i = 19 then ∃ a20 : Nat, aR S (x + 6) ja = some a20 ∧ tg S a20 = 9 ∧ wX8_use a20 (aL S (x + 5) jb) S (fun (r21 : Int64) (S22 : Sg) => wX3_setNumber (x + 4) (oc p) r21 S22 (fun (S24 : Sg) => Q (-1 : Int32) S24)) else (if i = 21 then ∃ a17 : Nat, aR S (x + 6) ja = some a17 ∧ tg S a17 = 9 ∧ wX3_setNumber (x + 4) (oc p) (((3 : Int64) * aL S (x + 5) jb) + (fL S 513 a17)) S (fun (S19 : Sg) => Q (-1 : Int32) S19) else ∃ a9 : Nat, aR S (x + 6) ja = some a9 ∧ tg S a9 = 9 ∧ wX8_rings a9 S (fun (r10 : Int32) (S11 : Sg) => (if r10 = 0 then Q (8 : Int32) S11 else wX8_ring a9 (aL S (x + 5) jb) S11 (fun (r13 : Int64) (S14 : Sg) => wX3_setNumber (x + 4) (fI S11 452 (st p)) r13 S14 (fun (S16 : Sg) => Q (-1 : Int32) S16))))))) → wX3_workStep (x + 4) (some (st p)) S Q := by
    intro Q hQ
    unfold wX3_workStep
    refine ⟨st p, rfl, s2, ?_⟩
    rw [s5, hi, if_pos (by rw [show (6 : Int32) = nI 6 from rfl, n_lt (by omega) (by omega)]; omega), if_neg (show ¬ nI i = 7 from lt 7 (by omega) (by omega)), if_pos (by rw [show (10 : Int32) = nI 10 from rfl, n_lt (by omega) (by omega)]; omega), if_pos (by rw [show (13 : Int32) = nI 13 from rfl, n_lt (by omega) (by omega)]; omega), if_pos (by rw [show (18 : Int32) = nI 18 from rfl, n_lt (by omega) (by omega)]; omega)]
    unfold wX3_workTool
    refine ⟨st p, rfl, s2, ?_⟩
    rw [s6]
    refine r_thingOf hS eja hja ?_
    by_cases e : aR S (x + 6) ja = none
    · rw [if_pos e] at hQ ⊢; exact hQ
    rw [if_neg e] at hQ ⊢
    rw [s7]
    refine r_numberOf hS ejb hjb ?_
    rw [s5, hi, s8]
    by_cases c19 : i = 19
    · rw [if_pos c19] at hQ
      rw [c19, if_pos (show nI 19 = 19 from rfl)]
      exact hQ
    rw [if_neg c19] at hQ
    rw [if_neg (show ¬ nI i = 19 from lt 19 (by omega) (by omega))]
    by_cases c21 : i = 21
    · rw [if_pos c21] at hQ
      rw [c21, if_pos (show nI 21 = 21 from rfl)]
      exact hQ
    rw [if_neg c21] at hQ
    rw [if_neg (show ¬ nI i = 21 from lt 21 (by omega) (by omega))]
    exact hQ
  cases e : aR S (x + 6) ja with
  | none =>
    refine StepS_bad (k := 6) h0 hi (by omega) (by omega) (by omega) (fun Q hQ => cls Q ?_) (fun T hT Q hQ => ref T hT Q ?_)
    · rw [if_pos e]; exact hQ
    · have := hT.1.2.1.2.2.1 ja hja
      rw [e] at this
      rw [if_neg (by omega), if_neg (by omega), if_neg (by omega), if_pos (hr_none this)]
      exact hQ
  | some q =>
    have hnn : ¬ aR S (x + 6) ja = none := by rw [e]; exact fun z => by cases z
    have hk0 : fI S 512 q = 0 ∨ fI S 512 q = 1 ∨ fI S 512 q = 2 := by
      have := h0.1.2.1.2.2.1 ja hja
      rw [e] at this
      obtain ⟨j, j1, j2, rfl, j4⟩ := hr_some this
      obtain ⟨b1, b2, b3, b4⟩ := h0.1.2.1.1.2.2.1 j j1 j2
      rw [b2]; exact b4
    -- the reference
    have rm : ∀ T, TK x m n nn a st op oa ob oc N th ra rb rc F fa f L p left took S T → ∀ Q : Int32 → Sg → Prop, (if i = 20 ∧ fI S 512 q = 0 then Q 9 T else Q 0 (sAL T (m + 12) jc (if i = 19 then (if fI S 512 q = 0 then fL S 513 q + aL S (x + 5) jb else if fI S 512 q = 1 then fL S 513 q - aL S (x + 5) jb else 2 * (fL S 513 q - aL S (x + 5) jb)) else if i = 20 then (if fI S 512 q = 2 then (fL S 513 q ^^^ aL S (x + 5) jb) + 1 else fL S 513 q ^^^ aL S (x + 5) jb) else 3 * aL S (x + 5) jb + fL S 513 q))) → hB m (nI p) (op p) T Q := by
      intro T hT Q hQ
      have hM := hT.1.1.2.1
      have hN := hT.1.2.1.1.1
      have := hT.1.2.1.2.2.1 ja hja
      rw [e] at this
      obtain ⟨j, j1, j2, ej, j4⟩ := hr_some this
      obtain ⟨b1, b2, b3, b4⟩ := hT.1.2.1.1.2.2.1 j j1 j2
      rw [← ej] at b2 b3
      refine ref T hT Q ?_
      rw [if_neg (by omega), if_neg (by omega), if_neg (by omega), j4, if_neg (nI_ne0 (by omega) (by omega)), if_neg (by omega), if_neg (by omega)]
      obtain ⟨-, -, -, -, -, f1, f2, f3, f4⟩ := hT.1.1
      have b129 : ∀ v : Int64, Q 0 (sAL T (m + 12) jc v) → wX11_makesOf_b129 m (nI p) v T (fun r S => Q r S) := by
        intro v hv
        unfold wX11_makesOf_b129
        refine ⟨m + 4, MX_r707 hM, MX_t4 hM, by rw [MX_l4 hM]; exact vp_n (by omega) (by omega), m + 12, MX_r717 hM, MX_t12 hM, ?_⟩
        rw [n_cl (by omega), f4, ejc, n_cl (by omega)]
        exact ⟨by rw [MX_l12 hM]; exact vp_n hjc (by omega), nm_e hv⟩
      have b46 : ¬ (i = 20 ∧ fI S 512 q = 0) → wX11_makesOf_b46 m (nI p) (nI i) (aL S (x + 5) jb) (fL S 513 q) (fI S 512 q) T (fun r S => Q r S) := by
        intro w
        rw [if_neg w] at hQ
        unfold wX11_makesOf_b46
        refine nm_e ?_
        by_cases c19 : i = 19
        · rw [if_pos c19] at hQ
          rw [c19, if_pos (show nI 19 = 19 from rfl)]
          unfold wX11_makesOf_b99
          by_cases k0 : fI S 512 q = 0
          · rw [if_pos k0] at hQ ⊢; exact b129 _ hQ
          rw [if_neg k0] at hQ ⊢
          by_cases k1 : fI S 512 q = 1
          · rw [if_pos k1] at hQ ⊢; exact b129 _ hQ
          · rw [if_neg k1] at hQ ⊢; exact b129 _ hQ
        rw [if_neg c19] at hQ
        rw [if_neg (show ¬ nI i = 19 from lt 19 (by omega) (by omega))]
        by_cases c20 : i = 20
        · rw [if_pos c20] at hQ
          rw [c20, if_pos (show nI 20 = 20 from rfl)]
          unfold wX11_makesOf_b126
          by_cases k2 : fI S 512 q = 2
          · rw [if_pos k2] at hQ ⊢; exact nm_e (b129 _ hQ)
          · rw [if_neg k2] at hQ ⊢
            refine nm_e (b129 _ ?_)
            rw [Int64.add_zero]; exact hQ
        rw [if_neg c20] at hQ
        rw [if_neg (show ¬ nI i = 20 from lt 20 (by omega) (by omega))]
        exact b129 _ hQ
      unfold wX11_makesOf
      refine ⟨m + 3, MX_r706 hM, MX_t3 hM, by rw [MX_l3 hM]; exact vp_n (by omega) (by omega), m + 12, MX_r717 hM, MX_t12 hM, ?_⟩
      rw [n_cl (by omega), f3, ejb, n_cl (by omega), ← hT.1.2.1.2.1 jb hjb]
      refine ⟨by rw [MX_l12 hM]; exact vp_n hjb (by omega), nm_e ⟨m + 15, MX_r720 hM, MX_t15 hM, by rw [MX_l15 hM]; exact vp_n (by omega) (by omega), ?_⟩⟩
      rw [n_cl (by omega), ← b3]
      refine nm_e ⟨m + 14, MX_r719 hM, MX_t14 hM, by rw [MX_l14 hM]; exact vp_n (by omega) (by omega), ?_⟩
      rw [← b2]
      refine nm_e ?_
      by_cases c20 : i = 20
      · rw [c20, if_pos (show nI 20 = 20 from rfl)]
        by_cases k0 : fI S 512 q = 0
        · rw [if_pos ⟨c20, k0⟩] at hQ
          rw [if_pos k0]; exact hQ
        · rw [if_neg k0]
          have := b46 (fun w => k0 w.2)
          rw [c20] at this; exact this
      · rw [if_neg (show ¬ nI i = 20 from lt 20 (by omega) (by omega))]
        exact b46 (fun w => c20 w.1)
    by_cases bad : i = 20 ∧ fI S 512 q = 0
    · refine StepS_bad (k := 8) h0 hi (by omega) (by omega) (by omega) (fun Q hQ => cls Q ?_) (fun T hT Q hQ => rm T hT Q ?_)
      · rw [if_neg hnn, if_neg (by omega), if_neg (by omega)]
        refine ⟨q, e, htg q e, ?_⟩
        unfold wX8_rings
        rw [bad.2, if_neg (by decide), if_neg (by decide)]
        dsimp only
        rw [if_pos rfl]
        exact hQ
      · rw [if_pos bad]; exact hQ
    · refine StepS_num h0 hi (by omega) (by omega) hjc (fun Q hQ => cls Q ?_) (fun T hT Q hQ => rm T hT Q (by rw [if_neg bad]; exact hQ))
      rw [if_neg hnn]
      by_cases c19 : i = 19
      · rw [if_pos c19] at hQ
        rw [if_pos c19]
        refine ⟨q, e, htg q e, ?_⟩
        unfold wX8_use
        by_cases k0 : fI S 512 q = 0
        · rw [if_pos k0] at hQ ⊢; exact r_setNumber hS ejc hjc hQ
        rw [if_neg k0] at hQ ⊢
        by_cases k1 : fI S 512 q = 1
        · rw [if_pos k1] at hQ ⊢; exact r_setNumber hS ejc hjc hQ
        · rw [if_neg k1] at hQ ⊢; exact r_setNumber hS ejc hjc hQ
      rw [if_neg c19] at hQ
      rw [if_neg c19]
      by_cases c20 : i = 20
      · rw [if_pos c20] at hQ
        rw [if_neg (by omega)]
        refine ⟨q, e, htg q e, ?_⟩
        have k0 : ¬ fI S 512 q = 0 := fun w => bad ⟨c20, w⟩
        have rg : ∀ Q' : Int32 → Sg → Prop, Q' 1 S → wX8_rings q S Q' := by
          intro Q' hQ'
          unfold wX8_rings
          rcases hk0 with w | w | w
          · exact absurd w k0
          · rw [if_pos w]; exact hQ'
          · rw [w, if_neg (by decide), if_pos rfl]; exact hQ'
        refine rg _ ?_
        rw [if_neg (by decide), s8]
        unfold wX8_ring
        refine nm_e ?_
        by_cases k2 : fI S 512 q = 2
        · rw [if_pos k2] at hQ ⊢; exact r_setNumber hS ejc hjc hQ
        · rw [if_neg k2] at hQ ⊢; exact r_setNumber hS ejc hjc hQ
      · rw [if_neg c20] at hQ
        rw [if_pos (by omega)]
        exact ⟨q, e, htg q e, r_setNumber hS ejc hjc hQ⟩
