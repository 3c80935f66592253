/-- a new row -/
def sNR (x ri n1 n2 : Nat) (y2 : Int32) (S : Sg) : Sg := sAR (sFR (nw (sFR (nw (sFI (nw S 6 0) 320 (sz S) y2) 14 n1) 321 (sz S) (some (sz S + 1))) 18 n2) 322 (sz S) (some (sz S + 2))) (x + 7) ri (some (sz S))
theorem sNR_old {x ri n1 n2 : Nat} {y2 : Int32} {S : Sg} {q : Nat} (hq : q < sz S) : tg (sNR x ri n1 n2 y2 S) q = tg S q ∧ ln (sNR x ri n1 n2 y2 S) q = ln S q ∧ (∀ k, fI (sNR x ri n1 n2 y2 S) k q = fI S k q ∧ fL (sNR x ri n1 n2 y2 S) k q = fL S k q ∧ fR (sNR x ri n1 n2 y2 S) k q = fR S k q) ∧ ∀ i, aI (sNR x ri n1 n2 y2 S) q i = aI S q i ∧ aL (sNR x ri n1 n2 y2 S) q i = aL S q i ∧ aR (sNR x ri n1 n2 y2 S) q i = if q = x + 7 ∧ i = ri then some (sz S) else aR S q i := by
  have e0 : ¬ q = sz S := by omega
  have e1 : ¬ q = sz S + 1 := by omega
  have e2 : ¬ q = sz S + 1 + 1 := by omega
  unfold sNR
  simp only [gs_AR, gs_FR, gs_nw, gs_FI, e0, e1, e2, if_false, and_false]
  exact ⟨trivial, trivial, fun _ => ⟨trivial, trivial, trivial⟩, fun _ => ⟨trivial, trivial, trivial⟩⟩
theorem sNR_new {x ri n1 n2 : Nat} {y2 : Int32} {S : Sg} : sz (sNR x ri n1 n2 y2 S) = sz S + 3 ∧ tg (sNR x ri n1 n2 y2 S) (sz S) = 6 ∧ tg (sNR x ri n1 n2 y2 S) (sz S + 1) = 14 ∧ tg (sNR x ri n1 n2 y2 S) (sz S + 2) = 18 ∧ ln (sNR x ri n1 n2 y2 S) (sz S + 1) = n1 ∧ ln (sNR x ri n1 n2 y2 S) (sz S + 2) = n2 ∧ fI (sNR x ri n1 n2 y2 S) 320 (sz S) = y2 ∧ fR (sNR x ri n1 n2 y2 S) 321 (sz S) = some (sz S + 1) ∧ fR (sNR x ri n1 n2 y2 S) 322 (sz S) = some (sz S + 2) ∧ ∀ q, sz S + 3 ≤ q → tg (sNR x ri n1 n2 y2 S) q = tg S q := by
  have e0 : ¬ sz S = sz S + 1 := by omega
  have e1 : ¬ sz S = sz S + 1 + 1 := by omega
  have e2 : ¬ sz S + 1 = sz S + 1 + 1 := by omega
  have e3 : ¬ sz S + 1 = sz S := by omega
  have e4 : sz S + 2 = sz S + 1 + 1 := by omega
  have e5 : ¬ sz S + 1 + 1 = sz S := by omega
  have e6 : ¬ sz S + 1 + 1 = sz S + 1 := by omega
  unfold sNR
  rw [e4]
  simp only [gs_AR, gs_FR, gs_nw, gs_FI, e0, e1, e2, e3, e5, e6, if_false, if_true, and_false, and_true, false_and]
  refine ⟨trivial, trivial, trivial, trivial, trivial, trivial, trivial, ?_, trivial, fun q hq => ?_⟩
  · rw [if_neg (by omega)]
  · rw [if_neg (by omega), if_neg (by omega), if_neg (by omega)]
theorem r_rinit {x ri : Nat} {y2 : Int32} {S S22 : Sg} {Q : Sg → Prop} (e : S22 = nw S 6 0) (h : ∀ n1 n2, (if y2 = 7 then n1 = 0 ∧ n2 = 63 else n1 = 63 ∧ n2 = 0) → Q (sFR (nw (sFR (nw (sFI (nw S 6 0) 320 (sz S) y2) 14 n1) 321 (sz S) (some (sz S + 1))) 18 n2) 322 (sz S) (some (sz S + 2)))) : wX5_init (sz S) y2 S22 Q := by
  unfold wX5_init
  intro S1 e1
  by_cases c : y2 = 7
  · rw [if_pos c]
    intro S11 e11 S12 e12 S15 e15 S16 e16
    have := h 0 63 (by rw [if_pos c]; exact ⟨rfl, rfl⟩)
    have z1 : sz S1 = sz S + 1 := by rw [e1, e]; rfl
    have z12 : sz S12 = sz S + 2 := by rw [e12, e11, e1, e]; rfl
    rw [z1] at e12
    rw [z12] at e16
    rw [e16, e15, e12, e11, e1, e]
    exact this
  · rw [if_neg c]
    intro S11 e11 S12 e12 S15 e15 S16 e16
    have := h 63 0 (by rw [if_neg c]; exact ⟨rfl, rfl⟩)
    have z1 : sz S1 = sz S + 1 := by rw [e1, e]; rfl
    have z12 : sz S12 = sz S + 2 := by rw [e12, e11, e1, e]; rfl
    rw [z1] at e12
    rw [z12] at e16
    rw [e16, e15, e12, e11, e1, e]
    exact this
theorem step_make {x m n nn a : Nat} {st : Nat → Nat} {op oa ob oc : Nat → Int32} {N : Nat} {th ra rb rc : Nat → Nat} {F : Nat} {fa : Nat → Nat} {f : FrT} {L : List FrT} {p left took : Nat} {S T0 : Sg} (h0 : TK x m n nn a st op oa ob oc N th ra rb rc F fa f L p left took S T0) (hi : op p = nI 7) : StepS x m n nn a st op oa ob oc N th ra rb rc F fa f L p left took S := by
  obtain ⟨hp, hn⟩ := TK_p h0
  obtain ⟨s1, s2, s3, s4, s5, s6, s7, s8, s9, s10, -⟩ := St_st h0.1.1 hp
  have hS := h0.1.1.1
  have hf : fre S := h0.1.2.2.2.2.2.2.2
  obtain ⟨ri, hri, er, es, el⟩ := row_of (oa p)
  obtain ⟨jb, hjb, ejb⟩ := and7_of (ob p)
  generalize hX : (aL S (x + 5) jb).toInt32 = X
  obtain ⟨k, hk, ek⟩ : ∃ k : Nat, k < 2 ^ 6 ∧ X &&& 63 = nI k := pk_andE X 6 (by decide)
  have hw0 : ∃ w : Int32, w = if ri < 56 then 0 else if oc p &&& 1 = 1 then 1 else 0 := ⟨_, rfl⟩
  obtain ⟨w, hw⟩ := hw0
  have w01 : w = 0 ∨ w = 1 := by
    rw [hw]
    split
    · exact Or.inl rfl
    · split
      · exact Or.inr rfl
      · exact Or.inl rfl
  have ref : ∀ T, TK x m n nn a st op oa ob oc N th ra rb rc F fa f L p left took S T → ∀ Q : Int32 → Sg → Prop, (if 0 ≤ X then Q 0 (tMk m ri (nI k) w T) else Q 8 T) → hB m (nI p) (op p) T Q := by
    intro T hT Q hQ
    have hM := hT.1.1.2.1
    obtain ⟨-, -, -, -, -, f1, f2, f3, f4⟩ := hT.1.1
    unfold hB
    rw [hi, if_pos (by decide), if_neg (by decide)]
    unfold wX11_rows
    refine ⟨m + 1, MX_r704 hM, MX_t1 hM, by rw [MX_l1 hM]; exact vp_n (by omega) (by omega), ?_⟩
    rw [n_cl (by omega), f1, hi]
    refine nm_e ?_
    rw [if_pos (by decide)]
    refine ⟨m + 2, MX_r705 hM, MX_t2 hM, by rw [MX_l2 hM]; exact vp_n (by omega) (by omega), ?_⟩
    rw [f2, er]
    refine nm_e ?_
    rw [if_pos (show nI 7 = 7 from rfl)]
    refine r_makes (X := X) (w := w) hM (by omega) hri (by rw [f3]; exact ejb) hjb (by rw [← hT.1.2.1.2.1 jb hjb]; exact hX) (by rw [f4]) hw ?_
    rw [ek]
    exact hQ
  have mk0 : ∀ Q : Int32 → Sg → Prop, (if 0 ≤ X then wX3_rowOf (x + 4) (nI (ri / 8)) (oa p) S (fun (r6 : Option Nat) (S7 : Sg) => (if r6 = none then ∀ S22 : Sg, S22 = nw S7 6 0 → wX5_init (sz S7) (nI (ri / 8)) S22 (fun (S24 : Sg) => ∀ y25 : Option Nat, y25 = (some (sz S7)) → ∃ a26 : Nat, (fR S24 194 (x + 4)) = some a26 ∧ tg S24 a26 = 16 ∧ vp_in (((nI (ri / 8)) <<< ((3 : Int32) &&& 31)) ||| ((fI S24 450 (st p)) &&& (7 : Int32))) (ln S24 a26) ∧ ∀ S28 : Sg, S28 = sAR S24 a26 ((((nI (ri / 8)) <<< ((3 : Int32) &&& 31)) ||| ((fI S24 450 (st p)) &&& (7 : Int32)))).toNatClampNeg (some (sz S7)) → wX3_makeRow_b70 (x + 4) (some (st p)) (nI (ri / 8)) X y25 S28 Q) else wX3_makeRow_b70 (x + 4) (some (st p)) (nI (ri / 8)) X r6 S7 Q)) else Q (7 : Int32) S) → wX3_workStep (x + 4) (some (st p)) S Q := by
    intro Q hQ
    unfold wX3_workStep
    refine ⟨st p, rfl, s2, ?_⟩
    rw [s5, hi, if_pos (by decide), if_pos (show nI 7 = 7 from rfl)]
    unfold wX3_makeRow
    refine ⟨st p, rfl, s2, ?_⟩
    rw [s6, es]
    refine nm_e ?_
    rw [s7]
    refine r_intOf hS ejb hjb ?_
    rw [hX, s6]
    exact hQ
  by_cases cX : 0 ≤ X
  · -- the row is emptied
    have b70 : ∀ (Sb : Sg) (q b c : Nat) (Q : Int32 → Sg → Prop), tg Sb (st p) = 8 → fI Sb 452 (st p) = oc p → tg Sb q = 6 → fR Sb 321 q = some b → tg Sb b = 14 → fR Sb 322 q = some c → tg Sb c = 18 → ln Sb b ≤ 63 → ln Sb c ≤ 63 → Q (-1) (sE q b c (nI k) w Sb) → wX3_makeRow_b70 (x + 4) (some (st p)) (nI (ri / 8)) X (some q) Sb Q := by
      intro Sb q b c Q g1 g2 g3 g4 g5 g6 g7 g8 g9 hQ
      have emp : ∀ v : Int32, v = w → wX5_empty q (X &&& 63) v Sb (fun S20 => Q (-1) S20) := by
        intro v hv
        rw [hv, ek]
        exact r_empty (by omega) (by omega) g4 g5 g6 g7 w01 hQ
      unfold wX3_makeRow_b70
      by_cases c7 : ri < 56
      · rw [if_pos c7] at hw
        rw [if_neg (show ¬ nI (ri / 8) = 7 from n_ne (k := 7) (by omega) (by omega) (by omega))]
        exact ⟨q, rfl, g3, emp 0 hw.symm⟩
      · rw [if_neg c7] at hw
        rw [show ri / 8 = 7 by omega, if_pos (show nI 7 = 7 from rfl)]
        refine ⟨st p, rfl, g1, ?_⟩
        rw [g2]
        by_cases c1 : oc p &&& 1 = 1
        · rw [if_pos c1] at hw ⊢
          exact ⟨q, rfl, g3, emp 1 hw.symm⟩
        · rw [if_neg c1] at hw ⊢
          exact ⟨q, rfl, g3, emp 0 hw.symm⟩
    have fin : ∀ (Sb : Sg) (ra' rb' rc' : Nat → Nat), SX x Sb → fre Sb → HAg x S Sb → (∀ T, TK x m n nn a st op oa ob oc N th ra rb rc F fa f L p left took S T → RTh m N th Sb T ∧ RNu x m Sb T ∧ RHa x m N th Sb T ∧ RGr x m Sb T ∧ RRoX x m N ri th ra' rb' rc' Sb T) → RW x ri (ra' ri) (rb' ri) (rc' ri) Sb → (∀ Q : Int32 → Sg → Prop, wX3_makeRow_b70 (x + 4) (some (st p)) (nI (ri / 8)) X (some (ra' ri)) Sb Q → wX3_workStep (x + 4) (some (st p)) S Q) → StepS x m n nn a st op oa ob oc N th ra rb rc F fa f L p left took S := by
      intro Sb ra' rb' rc' k1 k2 k3 k4 k5 k6
      have t13 : tg S (x + 13) ≠ 0 := by rw [SX_t13 hS]; decide
      have tp : tg S (st p) ≠ 0 := by rw [s2]; decide
      have f13 := fun k (hk : 576 ≤ k) => k3.2.1 k (x + 13) t13 (by unfold hK; omega)
      obtain ⟨w1, w2, w3, w4, r1, r2, r3, r4, r5, r6, r10, r11⟩ := k5
      have hl : ln Sb (rb' ri) ≤ 63 ∧ ln Sb (rc' ri) ≤ 63 := by
        by_cases c7 : ri < 56
        · have := r10 c7; omega
        · have := r11 (by omega); omega
      obtain ⟨-, -, -, gR, -, -, gI, -, -⟩ := sE_at (a := ra' ri) (b := rb' ri) (c := rc' ri) (k := nI k) (w := w) (S := Sb)
      refine StepS_ok (S1 := sE (ra' ri) (rb' ri) (rc' ri) (nI k) w Sb) (N' := N) (th' := th) (ra' := ra') (rb' := rb') (rc' := rc') h0 hi (by omega) (by omega) ?_ (fun Q hQ => k6 Q (b70 Sb _ _ _ Q ((k3.1 _ tp).1.trans s2) ((k3.2.1 452 _ tp (by unfold hK; omega)).1.trans s8) r1 r3 r4 r5 r6 hl.1 hl.2 hQ)) (fun T hT => ?_)
      · rw [gI, if_neg (by omega), if_neg (by omega)]
        exact (f13 582 (by omega)).1.trans h0.2.1.2.1
      · obtain ⟨m1, m2, m3, m4, m5⟩ := k4 T hT
        refine ⟨tMk m ri (nI k) w T, fun Q hQ => ref T hT Q (by rw [if_pos cX]; exact hQ), Mid_make hT.1 hri (by omega) w01 k1 k2 k3 m1 m2 m3 m4 m5 ⟨w1, w2, w3, w4, r1, r2, r3, r4, r5, r6, r10, r11⟩, ?_, ?_, ?_⟩
        · rw [gI, if_neg (by omega), if_neg (by omega)]
          exact (f13 584 (by omega)).1.trans hT.2.1.1
        · rw [gR]
          exact (f13 580 (by omega)).2.2.trans hT.2.1.2.2.2.2
        · rw [tMk_at.2.2.1]; exact hT.2.1.2.2.2.1
    by_cases e : aR S (x + 7) ri = none
    · -- a new one
      have lt : ∀ q, tg S q ≠ 0 → q < sz S := hf
      have k7 : x + 7 < sz S := lt _ (by rw [SX_t7 hS]; decide)
      obtain ⟨n1, n2, hnn⟩ : ∃ n1 n2 : Nat, (if nI (ri / 8) = 7 then n1 = 0 ∧ n2 = 63 else n1 = 63 ∧ n2 = 0) := by
        split
        · exact ⟨0, 63, rfl, rfl⟩
        · exact ⟨63, 0, rfl, rfl⟩
      have hn1 : (ri < 56 → n1 = 63 ∧ n2 = 0) ∧ (56 ≤ ri → n1 = 0 ∧ n2 = 63) := by
        constructor
        · intro y
          rw [if_neg (show ¬ nI (ri / 8) = 7 from n_ne (k := 7) (by omega) (by omega) (by omega))] at hnn
          exact hnn
        · intro y
          rw [show ri / 8 = 7 by omega, if_pos (show nI 7 = 7 from rfl)] at hnn
          exact hnn
      obtain ⟨z0, z1, z2, z3, z4, z5, z6, z7, z8, z9⟩ := sNR_new (x := x) (ri := ri) (n1 := n1) (n2 := n2) (y2 := nI (ri / 8)) (S := S)
      have o := fun q (hq : tg S q ≠ 0) => sNR_old (x := x) (ri := ri) (n1 := n1) (n2 := n2) (y2 := nI (ri / 8)) (S := S) (lt q hq)
      have clsN : ∀ Q : Int32 → Sg → Prop, wX3_makeRow_b70 (x + 4) (some (st p)) (nI (ri / 8)) X (some (sz S)) (sNR x ri n1 n2 (nI (ri / 8)) S) Q → wX3_workStep (x + 4) (some (st p)) S Q := by
        intro Q hQ
        refine mk0 Q ?_
        rw [if_pos cX]
        refine r_rowOf hS (row_ix2 hri el) hri ?_
        rw [if_pos e]
        intro S22 e22
        refine r_rinit (x := x) (ri := ri) e22 (fun m1 m2 hm => ?_)
        have em : m1 = n1 ∧ m2 = n2 := by
          split at hm
          · rename_i y
            rw [if_pos y] at hnn
            omega
          · rename_i y
            rw [if_neg y] at hnn
            omega
        obtain ⟨rfl, rfl⟩ := em
        intro y25 e25
        subst e25
        have q4 : x + 4 < sz S := lt _ (by rw [SX_t4 hS]; decide)
        have qp : st p < sz S := lt _ (by rw [s2]; decide)
        have old : ∀ q, q < sz S → tg (sFR (nw (sFR (nw (sFI (nw S 6 0) 320 (sz S) (nI (ri / 8))) 14 m1) 321 (sz S) (some (sz S + 1))) 18 m2) 322 (sz S) (some (sz S + 2))) q = tg S q ∧ ln (sFR (nw (sFR (nw (sFI (nw S 6 0) 320 (sz S) (nI (ri / 8))) 14 m1) 321 (sz S) (some (sz S + 1))) 18 m2) 322 (sz S) (some (sz S + 2))) q = ln S q ∧ ∀ k, fI (sFR (nw (sFR (nw (sFI (nw S 6 0) 320 (sz S) (nI (ri / 8))) 14 m1) 321 (sz S) (some (sz S + 1))) 18 m2) 322 (sz S) (some (sz S + 2))) k q = fI S k q ∧ fR (sFR (nw (sFR (nw (sFI (nw S 6 0) 320 (sz S) (nI (ri / 8))) 14 m1) 321 (sz S) (some (sz S + 1))) 18 m2) 322 (sz S) (some (sz S + 2))) k q = fR S k q := by
          intro q hq
          have e0 : ¬ q = sz S := by omega
          have e1 : ¬ q = sz S + 1 := by omega
          have e2 : ¬ q = sz S + 1 + 1 := by omega
          simp only [gs_FR, gs_nw, gs_FI, e0, e1, e2, if_false, and_false]
          exact ⟨trivial, trivial, fun _ => ⟨trivial, trivial⟩⟩
        refine ⟨x + 7, ((old _ q4).2.2 194).2.trans (SX_r194 hS), (old _ k7).1.trans (SX_t7 hS), ?_⟩
        rw [((old _ qp).2.2 450).1, s6]
        have ix := row_ix2 hri el
        rw [and7 (show ri / 8 < 8 by omega)] at ix
        rw [ix, n_cl (by omega), (old _ k7).2.1, SX_l7 hS]
        exact ⟨vp_n hri (by omega), nm_e hQ⟩
      have hSb : SX x (sNR x ri n1 n2 (nI (ri / 8)) S) := SX_ag hS (fun q hq => ⟨(o q hq).1, (o q hq).2.1⟩) (fun k q hq _ => ((o q hq).2.2.1 k).2.2)
      have hfb : fre (sNR x ri n1 n2 (nI (ri / 8)) S) := by
        intro q hq
        rw [z0]
        rcases Nat.lt_or_ge q (sz S + 3) with y | y
        · exact y
        · rw [z9 q y] at hq
          have := lt q hq
          omega
      have hag : HAg x S (sNR x ri n1 n2 (nI (ri / 8)) S) := by
        refine ⟨fun q hq => ⟨(o q hq).1, (o q hq).2.1⟩, fun k q hq _ => (o q hq).2.2.1 k, fun q i hq _ => ((o q hq).2.2.2 i).1, fun i => ((o (x + 11) (by rw [SX_t11 hS]; decide)).2.2.2 i).2.1, fun i => ?_⟩
        rw [((o (x + 2) (by rw [SX_t2 hS]; decide)).2.2.2 i).2.2, if_neg (by omega)]
      refine fin (sNR x ri n1 n2 (nI (ri / 8)) S) (fun i => if i = ri then sz S else ra i) (fun i => if i = ri then sz S + 1 else rb i) (fun i => if i = ri then sz S + 2 else rc i) hSb hfb hag (fun T hT => ?_) ?_ (fun Q hQ => clsN Q (by simp only [if_true] at hQ; exact hQ))
      · obtain ⟨hTh, hNu, hHa, hRo, hGr⟩ := hT.1.2.1
        generalize sNR x ri n1 n2 (nI (ri / 8)) S = Sb at *
        have a7 : ∀ i, i ≠ ri → aR Sb (x + 7) i = aR S (x + 7) i := fun i hi => by
          rw [((o (x + 7) (by rw [SX_t7 hS]; decide)).2.2.2 i).2.2, if_neg (fun y => hi y.2)]
        refine ⟨RTh_keep hTh (fun q hq => ?_) rfl rfl rfl, RNu_keep hNu (funext fun i => ((o (x + 5) (by rw [SX_t5 hS]; decide)).2.2.2 i).2.1) rfl, RHa_keep hHa (funext fun i => ?_) rfl, RGr_keep hGr (fun k _ _ => ((o (x + 8) (by rw [SX_t8 hS]; decide)).2.2.1 k).1) (funext fun i => ((o (x + 9) (by rw [SX_t9 hS]; decide)).2.2.2 i).1) (fun _ _ _ => rfl) rfl, fun i hi hne => ?_, fun i j hi hj hne h1 h2 => ?_⟩
        · have oq := o q (by rw [hq]; decide)
          exact ⟨oq.1.trans hq, (oq.2.2.1 512).1, (oq.2.2.1 513).2.1⟩
        · rw [((o (x + 6) (by rw [SX_t6 hS]; decide)).2.2.2 i).2.2, if_neg (by omega)]
        · rw [a7 i hne]
          simp only [hne, if_false]
          rcases hRo.1 i hi with y | ⟨y1, y2, y3, y4, y5⟩
          · exact Or.inl y
          · refine Or.inr ⟨y1, y2, y3, y4, RRo1_keep y5 (fun q => ?_) (fun q => ?_) (fun q => ?_) rfl rfl (fun _ _ => rfl)⟩
            · have oq := o _ (by rw [q]; decide)
              exact ⟨oq.1.trans q, fun k _ _ => ⟨(oq.2.2.1 k).1, (oq.2.2.1 k).2.2⟩⟩
            · have oq := o _ (by rw [q]; decide)
              exact ⟨oq.1.trans q, oq.2.1, funext fun i => (oq.2.2.2 i).2.1⟩
            · have oq := o (rc i) (by rw [q]; decide)
              refine ⟨oq.1.trans q, oq.2.1, funext fun i' => ?_⟩
              have c7 : rc i ≠ x + 7 := fun e => by rw [e, SX_t7 hS] at q; exact absurd q (by decide)
              rw [(oq.2.2.2 i').2.2, if_neg (fun y => c7 y.1)]
        · have bnd : ∀ i, i < 64 → i ≠ ri → aR Sb (x + 7) i ≠ none → ra i < sz S ∧ rb i < sz S ∧ rc i < sz S := by
            intro i hi hne h
            rw [a7 i hne] at h
            rcases hRo.1 i hi with y | ⟨y1, y2, y3, y4, y5⟩
            · exact absurd y.1 h
            · exact ⟨lt _ (by rw [y5.1]; decide), lt _ (by rw [y5.2.2.2.1]; decide), lt _ (by rw [y5.2.2.2.2.2.1]; decide)⟩
          by_cases ci : i = ri
          · have cj : j ≠ ri := fun y => hne (ci.trans y.symm)
            simp only [ci, cj, if_true, if_false]
            have := bnd j hj cj (h2.resolve_left cj)
            omega
          · by_cases cj : j = ri
            · simp only [ci, cj, if_true, if_false]
              have := bnd i hi ci (h1.resolve_left ci)
              omega
            · simp only [ci, cj, if_false]
              have q1 := h1.resolve_left ci
              have q2 := h2.resolve_left cj
              rw [a7 i ci] at q1
              rw [a7 j cj] at q2
              exact hRo.2 i j hi hj hne q1 q2
      · simp only [if_true]
        have x5 : x + 5 < sz S := lt _ (by rw [SX_t5 hS]; decide)
        have x6 : x + 6 < sz S := lt _ (by rw [SX_t6 hS]; decide)
        have x11 : x + 11 < sz S := lt _ (by rw [SX_t11 hS]; decide)
        refine ⟨?_, by omega, by omega, by omega, z1, z6, z7, z2, z8, z3, fun y => ?_, fun y => ?_⟩
        · rw [((o (x + 7) (by rw [SX_t7 hS]; decide)).2.2.2 ri).2.2, if_pos ⟨rfl, rfl⟩]
        · rw [z4, z5]; exact hn1.1 y
        · rw [z4, z5]; exact hn1.2 y
    · -- there is one
      have rowT : ∀ T, TK x m n nn a st op oa ob oc N th ra rb rc F fa f L p left took S T → aR S (x + 7) ri = some (ra ri) ∧ rb ri ≠ x + 5 ∧ rb ri ≠ x + 11 ∧ rc ri ≠ x + 6 ∧ RRo1 m N th ri (ra ri) (rb ri) (rc ri) S T := by
        intro T hT
        rcases hT.1.2.1.2.2.2.1.1 ri hri with y | y
        · exact absurd y.1 e
        · exact y
      obtain ⟨w1, w2, w3, w4, r1, r2, r3, r4, r5, r6, -, -, -, r10, r11⟩ := rowT T0 h0
      refine fin S ra rb rc hS hf HAg_rf (fun T hT => ?_) ⟨w1, w2, w3, w4, r1, r2, r3, r4, r5, r6, fun y => ⟨(r10 y).1, (r10 y).2.1⟩, fun y => ⟨(r11 y).1, (r11 y).2.1⟩⟩ (fun Q hQ => mk0 Q ?_)
      · obtain ⟨hTh, hNu, hHa, hRo, hGr⟩ := hT.1.2.1
        refine ⟨hTh, hNu, hHa, hGr, fun i hi _ => hRo.1 i hi, fun i j hi hj hne h1 h2 => hRo.2 i j hi hj hne ?_ ?_⟩
        · rcases h1 with y | y
          · rw [y]; exact e
          · exact y
        · rcases h2 with y | y
          · rw [y]; exact e
          · exact y
      · rw [if_pos cX]
        refine r_rowOf hS (row_ix2 hri el) hri ?_
        rw [if_neg e, w1]
        exact hQ
  · refine StepS_bad (k := 7) h0 hi (by omega) (by omega) (by omega) (fun Q hQ => mk0 Q ?_) (fun T hT Q hQ => ref T hT Q ?_)
    · rw [if_neg cX]; exact hQ
    · rw [if_neg cX]; exact hQ
