theorem wt1_le2 (op : Nat → Int32) (f : FrT) (L : List FrT) : wtL op (f :: L) ≤ wtL op L + 2 := by
  have h : wtL op (f :: L) = wt1 op f + wtL op L := rfl
  have := (wt1_pos op f).2
  omega
theorem step_block {x m n nn a : Nat} {st : Nat → Nat} {op oa ob oc : Nat → Int32} {N : Nat} {th ra rb rc : Nat → Nat} {F : Nat} {fa : Nat → Nat} {f : FrT} {L : List FrT} {p left took : Nat} {S T0 : Sg} (h0 : TK x m n nn a st op oa ob oc N th ra rb rc F fa f L p left took S T0) (hB : isB (op p)) : StepS x m n nn a st op oa ob oc N th ra rb rc F fa f L p left took S := by
  obtain ⟨hp, hn⟩ := TK_p h0
  obtain ⟨s1, s2, s3, s4, s5, s6, s7, s8, s9, s10, s11, s12, s13⟩ := St_st h0.1.1 hp
  have hS := h0.1.1.1
  have hf : fre S := h0.1.2.2.2.2.2.2.2
  have hstk := h0.1.2.2.2.2.2.2.1
  have hd : L.length + 1 ≤ 200 := h0.1.2.2.2.2.1.2.2.2.2.2.2.2
  have h581 : fI S 581 (x + 13) = nI (L.length + 1) := h0.1.2.2.2.2.1.2.2.2.2.2.1
  have h263 : ∀ T, TK x m n nn a st op oa ob oc N th ra rb rc F fa f L p left took S T → fI S 263 (x + 10) = fI T 758 m := fun T hT => hT.1.2.2.2.1.2.2.2.2.2.2.2.1
  have cls : ∀ Q : Sg → Prop, wX9_beginBlock (x + 13) (some f.1) (some (st p)) S (fun S => Q S) → wX9_workStep (x + 13) (some f.1) (some (st p)) S Q := by
    intro Q hQ
    unfold wX9_workStep
    refine ⟨st p, rfl, s2, ?_⟩
    rw [s5]
    unfold isB at hB
    rcases hB with h | h | h <;> rw [h] <;> (repeat rw [if_neg (by decide)]) <;> rw [if_pos rfl] <;> exact hQ
  have beg := fun (Q : Sg → Prop) => r_begin (d := L.length + 1) (Q := Q) hS hf hn hp hstk.1.1.1 hstk.1.1.2.2.1 h581 hd ⟨s2, s4, s5, s11, s12, s13⟩ _ rfl
  by_cases hd2 : L.length + 1 = 200
  · refine ⟨_, _, 0, 2, N, th, ra, rb, rc, F, fa, L, 0, left, took, fun Q hQ => cls Q (beg _ (fun _ => hQ) (fun w => by omega)), cR_rf, by omega, Or.inr rfl, fun w => absurd w (by decide), fun T hT => ⟨tStop m 4 T, fun Q hQ => r_block hT hB (fun _ => hQ) (fun w => by omega), Or.inr (Or.inr ⟨rfl, stop_rel 4 (Mid_ext hT.1 sBk_ext)⟩)⟩⟩
  · have hd3 : L.length + 1 < 200 := by omega
    by_cases c29 : op p = 29
    · have hM12 := fun T (hT : TK x m n nn a st op oa ob oc N th ra rb rc F fa f L p left took S T) => blk_push (T := T) (p := p) hT hB hd3 (mxd (L.length + 1) (fI S 263 (x + 10))) 0
      obtain ⟨S', L', p', q1, q2, q3⟩ := look_sim (hM12 T0 h0) rfl c29 sEnt_at.2.2.1
      refine ⟨S', S', 0, 1, N, th, ra, rb, rc, F, fa, L', p', left, took, fun Q hQ => cls Q (beg _ (fun w => by omega) (fun _ S12 e12 => ?_)), cR_rf, by omega, Or.inl rfl, fun _ => ⟨?_, Nat.le_refl _⟩, fun T hT => ?_⟩
      · rw [if_pos c29, e12]
        exact q1 Q hQ
      · have := wt1_le2 op (sz S, f.2.1, some p, 0) (f :: L)
        unfold mu; omega
      · obtain ⟨T', r1, r2⟩ := q3 _ (hM12 T hT) (tEnt_at.1.trans hT.2.1.2.2.2.1)
        refine ⟨T', fun Q hQ => r_block hT hB (fun w => by omega) (fun _ T1 e1 => ⟨fun _ => ?_, fun w => by rw [c29] at w; exact absurd w (by decide), fun w => by rw [c29] at w; exact absurd w (by decide)⟩), Or.inr (Or.inl ⟨rfl, r2⟩)⟩
        rw [e1, ← h263 T hT]
        exact r1 Q hQ
    have hmu : mu op left ((sz S, f.2.1, some p, 0) :: f :: L) ≤ mu op left (f :: L) + 2 := by
      have := wt1_le2 op (sz S, f.2.1, some p, 0) (f :: L)
      unfold mu; omega
    by_cases c25 : op p = 25
    · refine ⟨_, _, 0, 1, N, th, ra, rb, rc, F, fa, (sz S, f.2.1, some p, 0) :: f :: L, p + 1, left, took, fun Q hQ => cls Q (beg _ (fun w => by omega) (fun _ S12 e12 => ?_)), cR_rf, by omega, Or.inl rfl, fun _ => ⟨hmu, Nat.le_refl _⟩, fun T hT => ⟨_, fun Q hQ => r_block hT hB (fun w => by omega) (fun _ T1 e1 => ⟨fun w => absurd w c29, fun _ => ?_, fun w => by rw [c25] at w; exact absurd w (by decide)⟩), Or.inr (Or.inl ⟨rfl, blk_in hT hB hd3 (mxd (L.length + 1) (fI S 263 (x + 10))) 0⟩)⟩⟩
      · rw [if_neg c29, if_neg (by rw [c25]; decide), e12]
        exact hQ
      · rw [e1, ← h263 T hT]
        exact hQ
    have c30 : op p = 30 := by
      unfold isB at hB
      rcases hB with h | h | h
      · exact absurd h c25
      · exact absurd h c29
      · exact h
    obtain ⟨j, hj, ej⟩ := and7_of (oa p)
    obtain ⟨i, hi, ei⟩ := and7_of (ob p)
    have hx9 := sBk_ext (b := some (st p)) (ar := some f.1) (re := nI (rH op oc n f.2.1)) (u := nI (pE (rH op oc n f.2.1) (b_at op oc n) p 0)) (S := S)
    have o5 := hx9.2.2 (x + 5) (fre_ne hf (by rw [SX_t5 hS]; decide))
    have op' := hx9.2.2 (st p) (fre_ne hf (by rw [s2]; decide))
    have hS9 : SX x (sBk (some (st p)) (some f.1) (nI (rH op oc n f.2.1)) (nI (pE (rH op oc n f.2.1) (b_at op oc n) p 0)) S) := SX_ext hf hx9 hS
    -- the class's IF
    have clsI : ∀ (Q : Sg → Prop) S12, S12 = sEnt x (sz S) (L.length + 1) (p + 1) (mxd (L.length + 1) (fI S 263 (x + 10))) (sBk (some (st p)) (some f.1) (nI (rH op oc n f.2.1)) (nI (pE (rH op oc n f.2.1) (b_at op oc n) p 0)) S) → (if lg_cmp (aL S (x + 5) j) (aL S (x + 5) i) < 0 then Q S12 else Q (sFI S12 584 (x + 13) 1)) → (if op p = 29 then wX9_look (x + 13) (some (sz S)) S12 (fun S => Q S) else if op p = 30 then ∃ a16 : Nat, (fR S12 577 (x + 13)) = some a16 ∧ tg S12 a16 = 4 ∧ wX3_numberOf a16 (fI S12 450 (st p)) S12 (fun (r17 : Int64) (S18 : Sg) => ∃ a19 : Nat, (fR S18 577 (x + 13)) = some a19 ∧ tg S18 a19 = 4 ∧ wX3_numberOf a19 (fI S18 451 (st p)) S18 (fun (r20 : Int64) (S21 : Sg) => (if (lg_cmp r17 r20) < 0 then Q S21 else ∀ S23 : Sg, S23 = sFI S21 584 (x + 13) (1 : Int32) → Q S23))) else Q S12) := by
      intro Q S12 e12 hQ
      rw [if_neg c29, if_pos c30]
      obtain ⟨t1, t2, t3, t4, t5, t6⟩ := sEnt_at (x := x) (q := sz S) (d := L.length + 1) (p := p + 1) (v := mxd (L.length + 1) (fI S 263 (x + 10))) (S := sBk (some (st p)) (some f.1) (nI (rH op oc n f.2.1)) (nI (pE (rH op oc n f.2.1) (b_at op oc n) p 0)) S)
      have hS12 : SX x S12 := by rw [e12]; exact t6 hS9
      have g450 : fI S12 450 (st p) = oa p := by rw [e12, t4 _ _ (by omega) (by omega) (by omega) (by omega), (op'.2.2.1 450).1]; exact s6
      have g451 : fI S12 451 (st p) = ob p := by rw [e12, t4 _ _ (by omega) (by omega) (by omega) (by omega), (op'.2.2.1 451).1]; exact s7
      have gL : ∀ u, aL S12 (x + 5) u = aL S (x + 5) u := fun u => by rw [e12, t5, (o5.2.2.2 u).2.1]
      refine ⟨x + 4, SX_r577 hS12, SX_t4 hS12, ?_⟩
      rw [g450]
      refine r_numberOf hS12 ej hj ⟨x + 4, SX_r577 hS12, SX_t4 hS12, ?_⟩
      rw [g451]
      refine r_numberOf hS12 ei hi ?_
      rw [gL, gL]
      by_cases z : lg_cmp (aL S (x + 5) j) (aL S (x + 5) i) < 0
      · rw [if_pos z] at hQ ⊢; exact hQ
      · rw [if_neg z] at hQ ⊢; exact nm_e hQ
    have refI : ∀ T, TK x m n nn a st op oa ob oc N th ra rb rc F fa f L p left took S T → ∀ v : Int32, aL (tEnt m (L.length + 1) (nI (kd op (some p))) (nI p) 0 v T) (m + 12) (oa p &&& 7).toNatClampNeg = aL S (x + 5) j ∧ aL (tEnt m (L.length + 1) (nI (kd op (some p))) (nI p) 0 v T) (m + 12) (ob p &&& 7).toNatClampNeg = aL S (x + 5) i := by
      intro T hT v
      rw [tEnt_at.2.2.2.1, ej, ei, n_cl (by omega), n_cl (by omega)]
      exact ⟨(hT.1.2.1.2.1 j hj).symm, (hT.1.2.1.2.1 i hi).symm⟩
    have zz : ∀ u : Int32, (0 ≤ u ↔ ¬ u < 0) := fun u => by
      rw [Int32.le_iff_toInt_le, Int32.lt_iff_toInt_lt]
      omega
    by_cases z : lg_cmp (aL S (x + 5) j) (aL S (x + 5) i) < 0
    · refine ⟨_, _, 0, 1, N, th, ra, rb, rc, F, fa, (sz S, f.2.1, some p, 0) :: f :: L, p + 1, left, took, fun Q hQ => cls Q (beg _ (fun w => by omega) (fun _ S12 e12 => clsI Q S12 e12 ?_)), cR_rf, by omega, Or.inl rfl, fun _ => ⟨hmu, Nat.le_refl _⟩, fun T hT => ⟨_, fun Q hQ => r_block hT hB (fun w => by omega) (fun _ T1 e1 => ⟨fun w => absurd w c29, fun w => absurd w c25, fun _ => ⟨fun w => ?_, fun _ => ?_⟩⟩), Or.inr (Or.inl ⟨rfl, blk_in hT hB hd3 (mxd (L.length + 1) (fI S 263 (x + 10))) 0⟩)⟩⟩
      · rw [if_pos z, e12]; exact hQ
      · obtain ⟨r1, r2⟩ := refI T hT (mxd (L.length + 1) (fI T 758 m))
        rw [e1, r1, r2] at w
        exact absurd z ((zz _).mp w)
      · rw [e1, ← h263 T hT]; exact hQ
    · have hkd : kd op (some p) ≠ 0 := kd_isB.mpr (Or.inr (Or.inr c30))
      have hM12 : ∀ T, TK x m n nn a st op oa ob oc N th ra rb rc F fa f L p left took S T → Mid x m n nn a st op oa ob oc N th ra rb rc F fa ((sz S, f.2.1, some p, 0) :: f :: L) left took (sFI (sEnt x (sz S) (L.length + 1) (p + 1) (mxd (L.length + 1) (fI S 263 (x + 10))) (sBk (some (st p)) (some f.1) (nI (rH op oc n f.2.1)) (nI (pE (rH op oc n f.2.1) (b_at op oc n) p 0)) S)) 584 (x + 13) 1) (tEnt m (L.length + 1) (nI (kd op (some p))) (nI p) 0 (mxd (L.length + 1) (fI S 263 (x + 10))) T) := fun T hT => Mid_W (blk_push (T := T) (p := p) hT hB hd3 _ 0) (WS_FI (by unfold wK; omega)) WT_rf
      have h584 : fI (sFI (sEnt x (sz S) (L.length + 1) (p + 1) (mxd (L.length + 1) (fI S 263 (x + 10))) (sBk (some (st p)) (some f.1) (nI (rH op oc n f.2.1)) (nI (pE (rH op oc n f.2.1) (b_at op oc n) p 0)) S)) 584 (x + 13) 1) 584 (x + 13) = 1 := by simp only [gs_FI]; rw [if_pos ⟨trivial, trivial⟩]
      have h580 : fR (sFI (sEnt x (sz S) (L.length + 1) (p + 1) (mxd (L.length + 1) (fI S 263 (x + 10))) (sBk (some (st p)) (some f.1) (nI (rH op oc n f.2.1)) (nI (pE (rH op oc n f.2.1) (b_at op oc n) p 0)) S)) 584 (x + 13) 1) 580 (x + 13) = some (sz S) := by simp only [gs_FI]; exact sEnt_at.2.2.1
      have cl1 : ∀ (Q : Sg → Prop), Q (sFI (sEnt x (sz S) (L.length + 1) (p + 1) (mxd (L.length + 1) (fI S 263 (x + 10))) (sBk (some (st p)) (some f.1) (nI (rH op oc n f.2.1)) (nI (pE (rH op oc n f.2.1) (b_at op oc n) p 0)) S)) 584 (x + 13) 1) → wX9_workStep (x + 13) (some f.1) (some (st p)) S Q := fun Q hQ => cls Q (beg _ (fun w => by omega) (fun _ S12 e12 => clsI Q S12 e12 (by rw [if_neg z, e12]; exact hQ)))
      clear beg clsI
      generalize sFI (sEnt x (sz S) (L.length + 1) (p + 1) (mxd (L.length + 1) (fI S 263 (x + 10))) (sBk (some (st p)) (some f.1) (nI (rH op oc n f.2.1)) (nI (pE (rH op oc n f.2.1) (b_at op oc n) p 0)) S)) 584 (x + 13) 1 = S1 at *
      have hm0 := hM12 T0 h0
      obtain ⟨c1, c2, c3, c4, c5, c6, c7, c8, -⟩ := fr_blk (k := p) hm0.1 hm0.2.2.2.2.2.2.1.1 rfl hkd
      have turn : cR x 0 1 (nI nn) S1 (sGo x (bH (rH op oc n f.2.1) (b_at op oc n) p) (sPop x ((f :: L).head?.map (·.1)) (f :: L).length S1)) := by
        refine turn_settle hm0.1.1 h580 c3 (by rw [h584]; decide) (fun Q hQ => ?_)
        unfold wX9_settle
        refine ⟨sz S, rfl, c3, st p, c6, c7, ?_⟩
        rw [c8, c30, if_neg (by decide), if_neg (by decide), if_pos rfl]
        exact lv_class hm0 rfl hkd h584 hQ
      refine ⟨S1, _, 1, 1, N, th, ra, rb, rc, F, fa, f :: L, bH (rH op oc n f.2.1) (b_at op oc n) p, left, took, cl1, turn, by omega, Or.inl rfl, fun _ => ⟨by omega, Nat.le_refl _⟩, fun T hT => ⟨_, fun Q hQ => r_block hT hB (fun w => by omega) (fun _ T1 e1 => ⟨fun w => absurd w c29, fun w => absurd w c25, fun _ => ⟨fun w => ?_, fun w => ?_⟩⟩), Or.inr (Or.inl ⟨rfl, lv_go (f := (sz S, f.2.1, some p, 0)) (L := f :: L) (hM12 T hT) rfl hkd (tEnt_at.1.trans hT.2.1.2.2.2.1)⟩)⟩⟩
      · unfold tOver at hQ
        rw [sFI_comm (by omega)] at hQ
        rw [e1, ← h263 T hT]
        exact hQ
      · obtain ⟨r1, r2⟩ := refI T hT (mxd (L.length + 1) (fI T 758 m))
        rw [e1, r1, r2] at w
        exact absurd ((zz _).mpr z) w
