/-! a run begins and ends -/
def sBeg (x nn : Nat) (S : Sg) : Sg := sFR (sFI (sFI (sFI (sFI (sFI (sFI (sFR (sFL (sFI S 258 (x + 10) 0) 259 (x + 10) 0) 260 (x + 10) none) 261 (x + 10) 0) 262 (x + 10) 0) 263 (x + 10) 0) 264 (x + 10) 0) 583 (x + 13) (nI nn)) 581 (x + 13) 0) 580 (x + 13) none
def tBeg (m nn : Nat) (T : Sg) : Sg := sFI (sFI (sFL (sFI (sFI (sFI (sFI (sFI (sFI (sFI (sFI T 746 m (nI nn)) 747 m 0) 737 m 0) 745 m 0) 754 m 0) 756 m 0) 757 m 0) 758 m 0) 751 m 0) 752 m 0) 739 m 1
theorem Mid_begin {x m n nn a : Nat} {st : Nat → Nat} {op oa ob oc : Nat → Int32} {N : Nat} {th ra rb rc : Nat → Nat} {F : Nat} {fa fa' : Nat → Nat} {S T : Sg} (hSt : St x m n st op oa ob oc S T) (hHo : Ho x m N th ra rb rc S T) (hFa : RFa m F fa S T) (hCo : CoT x m a nn N 0 S T) (hnn : nn ≤ 1000) (hf : fre S) : Mid x m n nn a st op oa ob oc N th ra rb rc 0 fa' [] nn 0 (sBeg x nn S) (tBeg m nn T) ∧ fR (sBeg x nn S) 580 (x + 13) = none ∧ fI (tBeg m nn T) 739 m = 1 ∧ fI (tBeg m nn T) 756 m = 0 ∧ fI (sBeg x nn S) 581 (x + 13) = 0 := by
  have hS := hSt.1
  have cs : CAg x S (sBeg x nn S) := by
    unfold sBeg
    exact CAg_tr (CAg_FI (by unfold cK; omega)) (CAg_tr (CAg_FL (by unfold cK; omega)) (CAg_tr (CAg_FR (by unfold cK; omega)) (CAg_tr (CAg_FI (by unfold cK; omega)) (CAg_tr (CAg_FI (by unfold cK; omega)) (CAg_tr (CAg_FI (by unfold cK; omega)) (CAg_tr (CAg_FI (by unfold cK; omega)) (CAg_tr (CAg_FI (by unfold cK; omega)) (CAg_tr (CAg_FI (by unfold cK; omega)) (CAg_FR (by unfold cK; omega))))))))))
  have ct : TCA m T (tBeg m nn T) := by
    unfold tBeg
    exact TCA_tr (TCA_FI (by decide)) (TCA_tr (TCA_FI (by decide)) (TCA_tr (TCA_FI (by decide)) (TCA_tr (TCA_FI (by decide)) (TCA_tr (TCA_FI (by decide)) (TCA_tr (TCA_FI (by decide)) (TCA_tr (TCA_FI (by decide)) (TCA_tr (TCA_FI (by decide)) (TCA_tr TCA_FL (TCA_tr (TCA_FI (by decide)) (TCA_FI (by decide)))))))))))
  have hS' : SX x (sBeg x nn S) := by
    unfold sBeg
    refine (SX_sFR (by decide)).mpr ?_
    simp only [SX_sFI]
    refine (SX_sFR (by decide)).mpr ?_
    simp only [SX_sFI, SX_sFL]
    exact hS
  have sI : ∀ k' q, fI (sBeg x nn S) k' q = if k' = 581 ∧ q = x + 13 then 0 else if k' = 583 ∧ q = x + 13 then nI nn else if k' = 264 ∧ q = x + 10 then 0 else if k' = 263 ∧ q = x + 10 then 0 else if k' = 262 ∧ q = x + 10 then 0 else if k' = 261 ∧ q = x + 10 then 0 else if k' = 258 ∧ q = x + 10 then 0 else fI S k' q := by
    intro k' q; unfold sBeg; simp only [gs_FI, gs_FR, gs_FL]
  have sL : fL (sBeg x nn S) 259 (x + 10) = 0 := by unfold sBeg; simp only [gs_FI, gs_FR, gs_FL]; rw [if_pos ⟨trivial, trivial⟩]
  have sR : ∀ k' q, fR (sBeg x nn S) k' q = if k' = 580 ∧ q = x + 13 then none else if k' = 260 ∧ q = x + 10 then none else fR S k' q := by
    intro k' q; unfold sBeg; simp only [gs_FI, gs_FR, gs_FL]
  have sO : tg (sBeg x nn S) = tg S ∧ sz (sBeg x nn S) = sz S := ⟨rfl, rfl⟩
  have tI : ∀ k', fI (tBeg m nn T) k' m = if k' = 739 ∧ m = m then 1 else if k' = 752 ∧ m = m then 0 else if k' = 758 ∧ m = m then 0 else if k' = 757 ∧ m = m then 0 else if k' = 756 ∧ m = m then 0 else if k' = 754 ∧ m = m then 0 else if k' = 745 ∧ m = m then 0 else if k' = 737 ∧ m = m then 0 else if k' = 747 ∧ m = m then 0 else if k' = 746 ∧ m = m then nI nn else fI T k' m := by
    intro k'; unfold tBeg; simp only [gs_FI, gs_FL]
  have tL : fL (tBeg m nn T) 751 m = 0 := by unfold tBeg; simp only [gs_FI, gs_FL]; rw [if_pos ⟨trivial, trivial⟩]
  have tA : aI (tBeg m nn T) = aI T := rfl
  generalize sBeg x nn S = S' at *
  generalize tBeg m nn T = T' at *
  have i258 : fI S' 258 (x + 10) = 0 := by rw [sI]; (repeat rw [if_neg (by omega)]); rw [if_pos ⟨rfl, rfl⟩]
  have i261 : fI S' 261 (x + 10) = 0 := by rw [sI]; (repeat rw [if_neg (by omega)]); rw [if_pos ⟨rfl, rfl⟩]
  have i262 : fI S' 262 (x + 10) = 0 := by rw [sI]; (repeat rw [if_neg (by omega)]); rw [if_pos ⟨rfl, rfl⟩]
  have i263 : fI S' 263 (x + 10) = 0 := by rw [sI]; (repeat rw [if_neg (by omega)]); rw [if_pos ⟨rfl, rfl⟩]
  have i264 : fI S' 264 (x + 10) = 0 := by rw [sI]; (repeat rw [if_neg (by omega)]); rw [if_pos ⟨rfl, rfl⟩]
  have i583 : fI S' 583 (x + 13) = nI nn := by rw [sI]; (repeat rw [if_neg (by omega)]); rw [if_pos ⟨rfl, rfl⟩]
  have i581 : fI S' 581 (x + 13) = 0 := by rw [sI]; rw [if_pos ⟨rfl, rfl⟩]
  have i644 : fI S' 644 x = fI S 644 x := by rw [sI]; (repeat rw [if_neg (by omega)])
  have i645 : fI S' 645 x = fI S 645 x := by rw [sI]; (repeat rw [if_neg (by omega)])
  have r260 : fR S' 260 (x + 10) = none := by rw [sR, if_neg (by omega), if_pos ⟨rfl, rfl⟩]
  have r580 : fR S' 580 (x + 13) = none := by rw [sR, if_pos ⟨rfl, rfl⟩]
  have t739 : fI T' 739 m = 1 := by rw [tI, if_pos ⟨rfl, rfl⟩]
  have t752 : fI T' 752 m = 0 := by rw [tI]; (repeat rw [if_neg (by omega)]); rw [if_pos ⟨rfl, rfl⟩]
  have t758 : fI T' 758 m = 0 := by rw [tI]; (repeat rw [if_neg (by omega)]); rw [if_pos ⟨rfl, rfl⟩]
  have t757 : fI T' 757 m = 0 := by rw [tI]; (repeat rw [if_neg (by omega)]); rw [if_pos ⟨rfl, rfl⟩]
  have t756 : fI T' 756 m = 0 := by rw [tI]; (repeat rw [if_neg (by omega)]); rw [if_pos ⟨rfl, rfl⟩]
  have t754 : fI T' 754 m = 0 := by rw [tI]; (repeat rw [if_neg (by omega)]); rw [if_pos ⟨rfl, rfl⟩]
  have t745 : fI T' 745 m = 0 := by rw [tI]; (repeat rw [if_neg (by omega)]); rw [if_pos ⟨rfl, rfl⟩]
  have t737 : fI T' 737 m = 0 := by rw [tI]; (repeat rw [if_neg (by omega)]); rw [if_pos ⟨rfl, rfl⟩]
  have t747 : fI T' 747 m = 0 := by rw [tI]; (repeat rw [if_neg (by omega)]); rw [if_pos ⟨rfl, rfl⟩]
  have t746 : fI T' 746 m = nI nn := by rw [tI]; (repeat rw [if_neg (by omega)]); rw [if_pos ⟨rfl, rfl⟩]
  have t748 : fI T' 748 m = fI T 748 m := by rw [tI]; (repeat rw [if_neg (by omega)])
  have t749 : fI T' 749 m = fI T 749 m := by rw [tI]; (repeat rw [if_neg (by omega)])
  clear sI sR tI
  refine ⟨⟨St_C hSt hS' cs ct, Ho_C hHo hS cs ct, ⟨⟨by omega, by rw [tA]; exact hFa.2.1, fun j j1 j2 => by omega⟩, Nat.le_refl _, t745⟩, ⟨i258, sL, r260, tL, t752, ⟨0, by omega, i261, t754, fun i hi => by omega⟩, ⟨0, Nat.le_refl _, i262, t756, fun i hi => by omega⟩, i263.trans t758.symm, i264.trans t757.symm⟩, ⟨rfl, hnn, i583, t746, t747, i581, t737, by show (0 : Nat) ≤ 200; omega⟩, ⟨i644.trans hCo.1, t749.trans hCo.2.1, hCo.2.2.1, hCo.2.2.2.1, by rw [i645, t748]; exact hCo.2.2.2.2⟩, trivial, ?_⟩, r580, t739, t756, i581⟩
  unfold fre at hf ⊢; rw [sO.1, sO.2]; exact hf
theorem RA_fin {x m n nn a A took : Nat} {st : Nat → Nat} {op oa ob oc : Nat → Int32} {N : Nat} {th ra rb rc : Nat → Nat} {F : Nat} {fa : Nat → Nat} {S T S' T' : Sg} {v2 w1 : Int32} (hSt : St x m n st op oa ob oc S T) (hHo : Ho x m N th ra rb rc S T) (hFa : RFa m F fa S T) (hRe : RRe x m F fa S T) (hS' : S' = sFI (sFI S 644 x (nI A)) 645 x v2) (hT' : T' = sFI (sFI T 748 m w1) 749 m (nI A)) (hA : A ≤ 8000) (hN : N ≤ A) (hv : v2 = w1) : RA x m n st N th F fa ra rb rc S' T' := by
  obtain ⟨hS, hM, hSc, hBl, -⟩ := hSt
  obtain ⟨hTh, hNu, hHa, hRo, hGr⟩ := hHo
  have sX : SX x S' := by rw [hS']; exact hS
  have tX : MX m T' := by rw [hT']; exact hM
  have sI : ∀ k q, k ≠ 644 → k ≠ 645 → fI S' k q = fI S k q := fun k q h1 h2 => by rw [hS']; simp only [gs_FI]; rw [if_neg (by omega), if_neg (by omega)]
  have tI : ∀ k, k ≠ 748 → k ≠ 749 → fI T' k m = fI T k m := fun k h1 h2 => by rw [hT']; simp only [gs_FI]; rw [if_neg (by omega), if_neg (by omega)]
  have s644 : fI S' 644 x = nI A := by rw [hS']; simp only [gs_FI]; rw [if_neg (by omega), if_pos ⟨trivial, trivial⟩]
  have s645 : fI S' 645 x = v2 := by rw [hS']; simp only [gs_FI]; rw [if_pos ⟨trivial, trivial⟩]
  have t748 : fI T' 748 m = w1 := by rw [hT']; simp only [gs_FI]; rw [if_neg (by omega), if_pos ⟨trivial, trivial⟩]
  have t749 : fI T' 749 m = nI A := by rw [hT']; simp only [gs_FI]; rw [if_pos ⟨trivial, trivial⟩]
  obtain ⟨g1, g2, g3, g4, g5, g6, g7⟩ : tg S' = tg S ∧ ln S' = ln S ∧ fL S' = fL S ∧ fR S' = fR S ∧ aI S' = aI S ∧ aL S' = aL S ∧ aR S' = aR S := by rw [hS']; exact ⟨rfl, rfl, rfl, rfl, rfl, rfl, rfl⟩
  obtain ⟨k1, k2, k3, k4, k5, k6, k7⟩ : tg T' = tg T ∧ ln T' = ln T ∧ fL T' = fL T ∧ fR T' = fR T ∧ aI T' = aI T ∧ aL T' = aL T ∧ aR T' = aR T := by rw [hT']; exact ⟨rfl, rfl, rfl, rfl, rfl, rfl, rfl⟩
  clear hS' hT'
  refine ⟨sX, tX, ?_, ?_, ?_, ?_, ?_, ?_, ?_, ?_, ?_, ⟨A, hA, hN, s644, t749⟩, ?_⟩
  · obtain ⟨s1, s2, s3, s4, s5⟩ := hSc
    refine ⟨s1, (sI _ _ (by omega) (by omega)).trans s2, (tI _ (by omega) (by omega)).trans s3, fun i hi => ?_, s5⟩
    rw [g7, g1, k5, sI 448 _ (by omega) (by omega), sI 449 _ (by omega) (by omega), sI 450 _ (by omega) (by omega), sI 451 _ (by omega) (by omega), sI 452 _ (by omega) (by omega)]
    exact s4 i hi
  · unfold RBl at hBl ⊢
    rw [k5, g4, g5, sI 449 _ (by omega) (by omega), sI 388 _ (by omega) (by omega)]
    obtain ⟨b0, b1, b2, b3, b4⟩ := hBl
    refine ⟨b0, b1, fun i hi => ?_, b3, b4⟩
    rw [sI 454 _ (by omega) (by omega), sI 455 _ (by omega) (by omega), sI 456 _ (by omega) (by omega)]
    exact b2 i hi
  · exact RTh_keep hTh (fun q hq => ⟨by rw [g1]; exact hq, sI _ _ (by omega) (by omega), by rw [g3]⟩) (tI _ (by omega) (by omega)) (by rw [k5]) (by rw [k6])
  · exact RNu_keep hNu (by rw [g6]) (by rw [k6])
  · exact RHa_keep hHa (by rw [g7]) (by rw [k5])
  · exact RRo_keep hRo (by rw [g7]) (fun q hq => ⟨by rw [g1]; exact hq, fun k _ _ => ⟨sI _ _ (by omega) (by omega), by rw [g4]⟩⟩) (fun q hq _ _ => ⟨by rw [g1]; exact hq, by rw [g2], by rw [g6]⟩) (fun q hq _ => ⟨by rw [g1]; exact hq, by rw [g2], by rw [g7]⟩) (by rw [k5]) (by rw [k5]) (by rw [k6])
  · exact RGr_keep hGr (fun k _ _ => sI _ _ (by omega) (by omega)) (by rw [g5]) (fun k _ _ => tI _ (by omega) (by omega)) (by rw [k5])
  · exact RFa_keep hFa (fun q hq => ⟨by rw [g1]; exact hq, sI _ _ (by omega) (by omega), by rw [g4]⟩) ⟨by rw [k5], by rw [k5]⟩
  · unfold RRe at hRe ⊢
    rw [sI 258 _ (by omega) (by omega), sI 261 _ (by omega) (by omega), sI 262 _ (by omega) (by omega), sI 263 _ (by omega) (by omega), sI 264 _ (by omega) (by omega), tI 750 (by omega) (by omega), tI 752 (by omega) (by omega), tI 754 (by omega) (by omega), tI 756 (by omega) (by omega), tI 757 (by omega) (by omega), tI 758 (by omega) (by omega), g3, g4, g5, g6, k3, k5, k6]
    exact hRe
  · rw [s645, t748]; exact hv
set_option maxRecDepth 100000 in
theorem p_run : PL_run RR := by
  intro x m a b S T hR hf
  obtain ⟨n, st, N, th, F, fa, ra, rb, rc, h⟩ := id hR
  obtain ⟨hS, hM, hSc, hBl, hTh, hNu, hHa, hRo, hGr, hFa, hRe, ⟨aa, aa1, aa2, aa3, aa4⟩, hruns⟩ := id h
  have hn := hSc.1
  have h388 : fI S 388 (x + 1) = nI (mk_l (aI T (m + 1)) (aI T (m + 4)) n).length := hBl.2.2.2.1
  have hlen := mk_len (aI T (m + 1)) (aI T (m + 4)) n
  have keepA : ∀ n2 T1, LA m (rz T n2) T1 → RA x m n st N th F fa ra rb rc S T1 := fun n2 T1 hL => RA_LA (T := rz T n2) hL h
  have keep : ∀ n2 T1, LA m (rz T n2) T1 → RR x m S T1 := fun n2 T1 hL => ⟨n, st, N, th, F, fa, ra, rb, rc, keepA n2 T1 hL⟩
  have t716 : ∀ n2 T1, LA m (rz T n2) T1 → LY m n T1 → fI T1 716 m = nI (mk_l (aI T (m + 1)) (aI T (m + 4)) n).length := by
    intro n2 T1 hL hY
    obtain ⟨o1, o2, o3, o4⟩ := LA_op hL
    have := hY.1
    rw [o1, o4] at this
    exact this
  have ref : ∀ n2 (Q : Int32 → Sg → Prop), (∀ T1, LA m (rz T n2) T1 → LY m n T1 → (if a < 0 then Q (-1) T1 else if a < nI (mk_l (aI T (m + 1)) (aI T (m + 4)) n).length then (if b < 1 then Q (-2) T1 else if b ≤ 1000 then (if nI aa ≤ 8000 - b then wX11_begin m b T1 (fun (S9 : Sg) => wX11_enter m a (-1 : Int32) S9 (fun (S11 : Sg) => ∃ fu19 : Nat, wX11_run_b61 fu19 m (0 : Int32) S11 Q)) else Q (-3) T1) else Q (-2) T1) else Q (-1) T1)) → wX11_run m a b (rz T n2) Q := by
    intro n2 Q hQ
    unfold wX11_run
    refine r_layOut (n := n) hM hn hSc.2.2.1 (fun T1 hL hY => ?_)
    have := hQ T1 hL hY
    have e749 : fI T1 749 m = nI aa := (hL.2.2.2.2.2.2.2.1 749 m (Or.inl (by omega))).trans aa4
    rw [t716 n2 T1 hL hY, e749]
    exact this
  unfold wX10_run
  refine ⟨x + 1, SX_r640 hS, SX_t1 hS, r_hasR h388 (by omega) (fun r hr er => ?_) (fun hno => ?_)⟩
  · rw [if_neg (by decide)]
    have a0 : ¬ a < 0 := by rw [er]; exact n_neg (by omega)
    have a1 : a < nI (mk_l (aI T (m + 1)) (aI T (m + 4)) n).length := by rw [er]; exact (n_lt (by omega) (by omega)).mpr hr
    by_cases b1 : b < 1
    · rw [if_pos b1]
      intro n2 hn2
      refine ref n2 _ (fun T1 hL hY => ?_)
      rw [if_neg a0, if_pos a1, if_pos b1]
      exact ⟨rfl, keep n2 T1 hL⟩
    rw [if_neg b1]
    by_cases b2 : b ≤ 1000
    · rw [if_pos b2]
      have b0 : ¬ b < 0 := fun w => b1 (by rw [Int32.lt_iff_toInt_lt] at w ⊢; have h0 : (0 : Int32).toInt = 0 := rfl; have h1 : (1 : Int32).toInt = 1 := rfl; omega)
      obtain ⟨nn, hnn, eb⟩ := nI_of b0
      subst eb
      have nn2 : nn ≤ 1000 := by
        rw [show (1000 : Int32) = nI 1000 from rfl, n_le hnn (by omega)] at b2
        exact b2
      rw [aa3]
      by_cases b3 : nI aa ≤ 8000 - nI nn
      · rw [if_pos b3]
        have b3' : aa + nn ≤ 8000 := by
          rw [show (8000 : Int32) = nI 8000 from rfl, nI_sub (by omega), n_le (by omega) (by omega)] at b3
          omega
        refine ⟨x + 13, SX_r643 hS, SX_t13 hS, ?_⟩
        -- the relation as the run begins
        have hSt : ∀ n2 T1, LA m (rz T n2) T1 → LY m n T1 → St x m n st (aI T (m + 1)) (aI T (m + 2)) (aI T (m + 3)) (aI T (m + 4)) S T1 := by
          intro n2 T1 hL hY
          obtain ⟨u1, u2, u3, u4, -⟩ := keepA n2 T1 hL
          obtain ⟨o1, o2, o3, o4⟩ := LA_op hL
          exact ⟨u1, u2, u3, u4, hY, o1, o2, o3, o4⟩
        have hMid : ∀ n2 T1, LA m (rz T n2) T1 → LY m n T1 → _ := fun n2 T1 hL hY => Mid_begin (fa' := fa) (nn := nn) (a := aa) (hSt n2 T1 hL hY) (by
            obtain ⟨-, -, -, -, u5, u6, u7, u8, u9, -⟩ := keepA n2 T1 hL
            exact ⟨u5, u6, u7, u8, u9⟩) (keepA n2 T1 hL).2.2.2.2.2.2.2.2.2.1 (by
            obtain ⟨-, -, -, -, -, -, -, -, -, -, -, u12⟩ := keepA n2 T1 hL
            obtain ⟨⟨A, A1, A2, A3, A4⟩, A5⟩ := u12
            have eA : aa = A := by rw [aa3] at A3; exact (n_eq (by omega) (by omega)).mp A3
            rw [eA]
            exact ⟨A3, A4, by omega, by omega, A5⟩) nn2 hf
        obtain ⟨T1, hL1, hY1⟩ := lay_ex (m := m) (n := n) (rz T 0)
        obtain ⟨hM0, h580, h739, h756, h581⟩ := hMid 0 T1 hL1 hY1
        obtain ⟨S8, q1, q2⟩ := enterR_sim (L := []) (r := r) (o := none) (ob' := some (x + 14)) (kv := -1) (nn := nn) (a := aa) (N := N) (th := th) (ra := ra) (rb := rb) (rc := rc) (F := 0) (fa := fa) (left := nn) (took := 0) hM0.1.1 hM0.2.2.2.2.2.2.2 hM0.1 h581 (by show (0 : Nat) ≤ 200; omega) h580 (fun g hg => absurd hg List.not_mem_nil) hr rfl (fun _ => rfl) (fun k w => by cases w) rfl
        have ent : ∀ n2 T1, LA m (rz T n2) T1 → LY m n T1 → ∃ T', (∀ Q : Sg → Prop, Q T' → wX11_enter m (nI r) (-1) (tBeg m nn T1) Q) ∧ MW x m n nn aa st (aI T (m + 1)) (aI T (m + 2)) (aI T (m + 3)) (aI T (m + 4)) N th ra rb rc 0 fa [(sz (sBeg x nn S), r, none, 0)] (rL (aI T (m + 1)) (aI T (m + 4)) n r) nn 0 S8 T' := by
          intro n2 T1 hL hY
          obtain ⟨g0, g580, g739, g756, g581⟩ := hMid n2 T1 hL hY
          obtain ⟨T', u1, u2⟩ := q2 _ g0 ⟨0, Nat.le_refl _, g756⟩ g739
          refine ⟨T', u1, ?_⟩
          rcases u2 with ⟨-, w⟩ | ⟨w, -⟩
          · exact w
          · exact absurd w (by show ¬ (0 : Nat) = 200; omega)
        obtain ⟨T3, -, hW0⟩ := ent 0 T1 hL1 hY1
        have hmu : mu (aI T (m + 1)) nn [(sz (sBeg x nn S), r, none, 0)] ≤ 3 * nn + 2 := by
          have := wt1_le2 (aI T (m + 1)) (sz (sBeg x nn S), r, none, 0) []
          have e0 : wtL (aI T (m + 1)) [] = 0 := rfl
          unfold mu; omega
        obtain ⟨S', left', took', w, t, c1, c2, c3, c4⟩ := run_sim (3 * nn + 2) _ _ _ _ _ _ _ _ _ _ _ _ _ hmu hW0
        obtain ⟨T4, -, hOv0⟩ := c4 T3 hW0
        obtain ⟨_, _, _, _, _, _, _, -, -, -, -, hCo0, ⟨y1, y2, -⟩, y4, -, -⟩ := hOv0
        unfold wX9_workRun
        refine ⟨x + 10, SX_r578 hS, SX_t10 hS, ?_⟩
        unfold wX4_begin
        intro V1 e1 V2 e2 V3 e3 V4 e4 V5 e5 V6 e6 V7 e7 V8 e8 V9 e9 V10 e10
        have eB : V10 = sBeg x nn S := by rw [e10, e9, e8, e7, e6, e5, e4, e3, e2, e1]; rfl
        clear e1 e2 e3 e4 e5 e6 e7 e8 e9 e10
        subst eB
        rw [SX_r579 hM0.1.1, er]
        refine q1 _ ?_
        have fin : ∀ Q : Int32 → Sg → Prop, Q (nI took') S' → ∃ fu39 : Nat, ∃ g : Nat, g ≤ 1000 ∧ wX9_workRun_b33 fu39 g (x + 13) (nI nn) (0 : Int32) S8 Q := by
          intro Q hQ
          have e9 : nI nn - fI S' 583 (x + 13) = nI took' := by
            rw [y2, nI_sub (by omega)]
            refine congrArg nI ?_
            omega
          have base : wX9_workRun_b33 1 0 (x + 13) (nI nn) (nI (0 + t)) S' Q := by
            unfold wX9_workRun_b33
            rw [e9]
            by_cases c : (1000000 : Int32) ≤ nI (0 + t)
            · rw [if_pos c]; exact hQ
            · rw [if_neg c, if_pos y4]; exact hQ
          obtain ⟨fu', hfu⟩ := c1 1 0 0 Q (by omega) base
          exact ⟨fu', 0 + w, by omega, hfu⟩
        refine fin _ ?_
        intro S11 e11 S12 e12 n2 hn2
        rw [← er]
        refine ref n2 _ (fun T1 hL hY => ?_)
        rw [if_neg a0, if_pos a1, if_neg b1, if_pos b2, if_pos b3, er]
        unfold wX11_begin
        intro V1 e1 V2 e2 V3 e3 V4 e4 V5 e5 V6 e6 V7 e7 V8 e8 V9 e9 V10 e10 V11 e13
        have eB : V11 = tBeg m nn T1 := by rw [e13, e10, e9, e8, e7, e6, e5, e4, e3, e2, e1]; rfl
        clear e1 e2 e3 e4 e5 e6 e7 e8 e9 e10 e13
        subst eB
        obtain ⟨T5, u1, u2⟩ := ent n2 T1 hL hY
        refine u1 _ ?_
        obtain ⟨T6, u3, hOv⟩ := c4 T5 u2
        refine u3 0 (by omega) _ ?_
        obtain ⟨N', th', ra', rb', rc', F', fa', k1, k2, k3, k4, k5, ⟨k6, k7, k8⟩, -⟩ := hOv
        unfold wX11_run_b85
        intro S13 e13 S14 e14
        have g747 : fI S13 747 m = nI took' := by rw [e13]; simp only [gs_FI]; rw [if_neg (by omega)]; exact k8
        have g749 : fI S13 749 m = nI aa := by rw [e13]; simp only [gs_FI]; rw [if_neg (by omega)]; exact k5.2.1
        rw [g747, g749, nI_add] at e14
        have h747 : fI S14 747 m = nI took' := by rw [e14]; simp only [gs_FI]; rw [if_neg (by omega)]; exact g747
        rw [h747]
        refine ⟨rfl, n, st, N', th', F', fa', ra', rb', rc', ?_⟩
        have g645 : fI S11 645 x = fI S' 645 x := by rw [e11]; simp only [gs_FI]; rw [if_neg (by omega)]
        rw [g645] at e12
        rw [k5.1, nI_add] at e11
        rw [e11] at e12
        rw [e13] at e14
        have hN' := k5.2.2.2.1
        exact RA_fin (nn := nn) (a := aa) (took := took') (A := aa + took') k1 k2 k3 k4 e12 e14 (by omega) hN' (by rw [k5.2.2.2.2])
      · rw [if_neg b3]
        intro n2 hn2
        refine ref n2 _ (fun T1 hL hY => ?_)
        rw [if_neg a0, if_pos a1, if_neg b1, if_pos b2, if_neg b3]
        exact ⟨rfl, keep n2 T1 hL⟩
    · rw [if_neg b2]
      intro n2 hn2
      refine ref n2 _ (fun T1 hL hY => ?_)
      rw [if_neg a0, if_pos a1, if_neg b1, if_neg b2]
      exact ⟨rfl, keep n2 T1 hL⟩
  · rw [if_pos rfl]
    intro n2 hn2
    refine ref n2 _ (fun T1 hL hY => ?_)
    by_cases a0 : a < 0
    · rw [if_pos a0]; exact ⟨rfl, keep n2 T1 hL⟩
    · rw [if_neg a0]
      by_cases a1 : a < nI (mk_l (aI T (m + 1)) (aI T (m + 4)) n).length
      · rcases i_cs a with w | ⟨r, w1, w2⟩
        · exact absurd w a0
        · rw [w2] at a1
          exact absurd w2 (hno r ((n_lt w1 (by omega)).mp a1))
      · rw [if_neg a1]; exact ⟨rfl, keep n2 T1 hL⟩
