/-! THE RUN: the relation at its midst, and what keeps it -/
def St (x m n : Nat) (st : Nat → Nat) (op oa ob oc : Nat → Int32) (S T : Sg) : Prop := SX x S ∧ MX m T ∧ RSc x m n st S T ∧ RBl x m n st S T ∧ LY m n T ∧ aI T (m + 1) = op ∧ aI T (m + 2) = oa ∧ aI T (m + 3) = ob ∧ aI T (m + 4) = oc
def Ho (x m N : Nat) (th ra rb rc : Nat → Nat) (S T : Sg) : Prop := RTh m N th S T ∧ RNu x m S T ∧ RHa x m N th S T ∧ RRo x m N th ra rb rc S T ∧ RGr x m S T
def cK (k : Nat) : Prop := (128 ≤ k ∧ k < 256) ∨ (320 ≤ k ∧ k < 576) ∨ 640 ≤ k
/-- a change of control: neither script nor house -/
def CAg (x : Nat) (S S' : Sg) : Prop := (∀ q, tg S q ≠ 0 → tg S' q = tg S q ∧ ln S' q = ln S q) ∧ (∀ k q, tg S q ≠ 0 → cK k → fI S' k q = fI S k q ∧ fL S' k q = fL S k q ∧ fR S' k q = fR S k q) ∧ (∀ q i, tg S q ≠ 0 → q ≠ x + 12 → aI S' q i = aI S q i) ∧ (∀ q i, tg S q ≠ 0 → q ≠ x + 11 → aL S' q i = aL S q i) ∧ (∀ q i, tg S q ≠ 0 → aR S' q i = aR S q i)
theorem CAg_rf {x : Nat} {S : Sg} : CAg x S S := ⟨fun _ _ => ⟨rfl, rfl⟩, fun _ _ _ _ => ⟨rfl, rfl, rfl⟩, fun _ _ _ _ => rfl, fun _ _ _ _ => rfl, fun _ _ _ => rfl⟩
theorem CAg_tr {x : Nat} {S S1 S2 : Sg} (h1 : CAg x S S1) (h2 : CAg x S1 S2) : CAg x S S2 := by
  have t : ∀ q, tg S q ≠ 0 → tg S1 q ≠ 0 := fun q hq => by rw [(h1.1 q hq).1]; exact hq
  refine ⟨fun q hq => ⟨(h2.1 q (t q hq)).1.trans (h1.1 q hq).1, (h2.1 q (t q hq)).2.trans (h1.1 q hq).2⟩, fun k q hq hk => ?_, fun q i hq hn => (h2.2.2.1 q i (t q hq) hn).trans (h1.2.2.1 q i hq hn), fun q i hq hn => (h2.2.2.2.1 q i (t q hq) hn).trans (h1.2.2.2.1 q i hq hn), fun q i hq => (h2.2.2.2.2 q i (t q hq)).trans (h1.2.2.2.2 q i hq)⟩
  obtain ⟨a1, a2, a3⟩ := h1.2.1 k q hq hk
  obtain ⟨b1, b2, b3⟩ := h2.2.1 k q (t q hq) hk
  exact ⟨b1.trans a1, b2.trans a2, b3.trans a3⟩
theorem CAg_nw {x : Nat} {S : Sg} {t n : Nat} (hf : ∀ q, tg S q ≠ 0 → q < sz S) : CAg x S (nw S t n) := by
  have e : ∀ q, tg S q ≠ 0 → q ≠ sz S := fun q hq => Nat.ne_of_lt (hf q hq)
  refine ⟨fun q hq => ⟨if_neg (e q hq), if_neg (e q hq)⟩, fun k q hq _ => ⟨if_neg (e q hq), if_neg (e q hq), if_neg (e q hq)⟩, fun q i hq _ => if_neg (e q hq), fun q i hq _ => if_neg (e q hq), fun q i hq => if_neg (e q hq)⟩
theorem CAg_FI {x : Nat} {S : Sg} {k a : Nat} {v : Int32} (hk : ¬ cK k) : CAg x S (sFI S k a v) :=
  ⟨fun _ _ => ⟨rfl, rfl⟩, fun k' q _ hk' => ⟨if_neg (fun z => hk (by rw [← z.1]; exact hk')), rfl, rfl⟩, fun _ _ _ _ => rfl, fun _ _ _ _ => rfl, fun _ _ _ => rfl⟩
theorem CAg_FL {x : Nat} {S : Sg} {k a : Nat} {v : Int64} (hk : ¬ cK k) : CAg x S (sFL S k a v) :=
  ⟨fun _ _ => ⟨rfl, rfl⟩, fun k' q _ hk' => ⟨rfl, if_neg (fun z => hk (by rw [← z.1]; exact hk')), rfl⟩, fun _ _ _ _ => rfl, fun _ _ _ _ => rfl, fun _ _ _ => rfl⟩
theorem CAg_FR {x : Nat} {S : Sg} {k a : Nat} {v : Option Nat} (hk : ¬ cK k) : CAg x S (sFR S k a v) :=
  ⟨fun _ _ => ⟨rfl, rfl⟩, fun k' q _ hk' => ⟨rfl, rfl, if_neg (fun z => hk (by rw [← z.1]; exact hk'))⟩, fun _ _ _ _ => rfl, fun _ _ _ _ => rfl, fun _ _ _ => rfl⟩
theorem CAg_AI {x : Nat} {S : Sg} {i : Nat} {v : Int32} : CAg x S (sAI S (x + 12) i v) :=
  ⟨fun _ _ => ⟨rfl, rfl⟩, fun _ _ _ _ => ⟨rfl, rfl, rfl⟩, fun q j _ hn => if_neg (fun z => hn z.1), fun _ _ _ _ => rfl, fun _ _ _ => rfl⟩
theorem CAg_AL {x : Nat} {S : Sg} {i : Nat} {v : Int64} : CAg x S (sAL S (x + 11) i v) :=
  ⟨fun _ _ => ⟨rfl, rfl⟩, fun _ _ _ _ => ⟨rfl, rfl, rfl⟩, fun _ _ _ _ => rfl, fun q j _ hn => if_neg (fun z => hn z.1), fun _ _ _ => rfl⟩
/-- the like for the reference -/
def TCA (m : Nat) (T T' : Sg) : Prop := tg T' = tg T ∧ ln T' = ln T ∧ fR T' = fR T ∧ (∀ k, k ∈ [708, 716, 721, 725, 726, 727, 748, 749] → fI T' k m = fI T k m) ∧ (∀ k, k ≤ 19 → aI T' (m + k) = aI T (m + k)) ∧ (∀ k, k ≤ 18 → aL T' (m + k) = aL T (m + k))
theorem TCA_rf {m : Nat} {T : Sg} : TCA m T T := ⟨rfl, rfl, rfl, fun _ _ => rfl, fun _ _ => rfl, fun _ _ => rfl⟩
theorem TCA_tr {m : Nat} {T T1 T2 : Sg} (h1 : TCA m T T1) (h2 : TCA m T1 T2) : TCA m T T2 := by
  obtain ⟨a1, a2, a3, a4, a5, a6⟩ := h1
  obtain ⟨b1, b2, b3, b4, b5, b6⟩ := h2
  exact ⟨b1.trans a1, b2.trans a2, b3.trans a3, fun k hk => (b4 k hk).trans (a4 k hk), fun k hk => (b5 k hk).trans (a5 k hk), fun k hk => (b6 k hk).trans (a6 k hk)⟩
theorem TCA_FI {m k : Nat} {T : Sg} {v : Int32} (hk : k ∉ [708, 716, 721, 725, 726, 727, 748, 749]) : TCA m T (sFI T k m v) :=
  ⟨rfl, rfl, rfl, fun k' hk' => if_neg (fun z => hk (by rw [← z.1]; exact hk')), fun _ _ => rfl, fun _ _ => rfl⟩
theorem TCA_FL {m k : Nat} {T : Sg} {v : Int64} : TCA m T (sFL T k m v) :=
  ⟨rfl, rfl, rfl, fun _ _ => rfl, fun _ _ => rfl, fun _ _ => rfl⟩
theorem TCA_AI {m k i : Nat} {T : Sg} {v : Int32} (hk : 20 ≤ k) : TCA m T (sAI T (m + k) i v) :=
  ⟨rfl, rfl, rfl, fun _ _ => rfl, fun k' hk' => funext fun j => if_neg (fun z => by have := z.1; omega), fun _ _ => rfl⟩
theorem TCA_AL {m k i : Nat} {T : Sg} {v : Int64} (hk : 19 ≤ k) : TCA m T (sAL T (m + k) i v) :=
  ⟨rfl, rfl, rfl, fun _ _ => rfl, fun _ _ => rfl, fun k' hk' => funext fun j => if_neg (fun z => by have := z.1; omega)⟩
theorem MX_TCA {m : Nat} {T T' : Sg} (h : TCA m T T') (hM : MX m T) : MX m T' := by
  obtain ⟨a1, a2, a3, -⟩ := h
  unfold MX
  rw [a1, a2, a3]
  exact hM
theorem St_C {x m n : Nat} {st : Nat → Nat} {op oa ob oc : Nat → Int32} {S S' T T' : Sg} (h : St x m n st op oa ob oc S T) (hS : SX x S') (hc : CAg x S S') (ht : TCA m T T') : St x m n st op oa ob oc S' T' := by
  obtain ⟨h1, h2, h3, h4, h5, h6, h7, h8, h9⟩ := h
  have hM' := MX_TCA ht h2
  obtain ⟨a1, a2, a3, a4, a5, a6⟩ := ht
  obtain ⟨c1, c2, c3, c4, c5⟩ := hc
  have t1 : tg S (x + 1) ≠ 0 := by rw [SX_t1 h1]; decide
  have t2 : tg S (x + 2) ≠ 0 := by rw [SX_t2 h1]; decide
  have t3 : tg S (x + 3) ≠ 0 := by rw [SX_t3 h1]; decide
  have t14 : tg S (x + 14) ≠ 0 := by rw [SX_t14 h1]; decide
  have f : ∀ k q, tg S q ≠ 0 → 384 ≤ k → k < 512 → fI S' k q = fI S k q := fun k q q1 q2 q3 => (c2 k q q1 (Or.inr (Or.inl ⟨by omega, by omega⟩))).1
  have fr : ∀ k q, tg S q ≠ 0 → 384 ≤ k → k < 512 → fR S' k q = fR S k q := fun k q q1 q2 q3 => (c2 k q q1 (Or.inr (Or.inl ⟨by omega, by omega⟩))).2.2
  have ts : ∀ i, i < n → tg S (st i) ≠ 0 := fun i hi => by rw [(h3.2.2.2.1 i hi).2.1]; decide
  refine ⟨hS, hM', ?_, ?_, ?_, (a5 1 (by decide)).trans h6, (a5 2 (by decide)).trans h7, (a5 3 (by decide)).trans h8, (a5 4 (by decide)).trans h9⟩
  · obtain ⟨s1, s2, s3, s4, s5⟩ := h3
    refine ⟨s1, (f _ _ t1 (by omega) (by omega)).trans s2, (a4 708 (by decide)).trans s3, fun i hi => ?_, s5⟩
    obtain ⟨u1, u2, u3, u4, u5, u6, u7, u8, u9⟩ := s4 i hi
    have tq := ts i hi
    rw [c5 _ _ t2, (c1 _ tq).1, f _ _ tq (by omega) (by omega), f _ _ tq (by omega) (by omega), f _ _ tq (by omega) (by omega), f _ _ tq (by omega) (by omega), f _ _ tq (by omega) (by omega), a5 1 (by decide), a5 2 (by decide), a5 3 (by decide), a5 4 (by decide)]
    exact ⟨u1, u2, u3, u4, u5, u6, u7, u8, u9⟩
  · unfold RBl at h4 ⊢
    rw [a5 1 (by decide), a5 4 (by decide)]
    obtain ⟨b0, b1, b2, b3, b4⟩ := h4
    refine ⟨(f _ _ t14 (by omega) (by omega)).trans b0, ?_, fun i hi => ?_, (f _ _ t1 (by omega) (by omega)).trans b3, fun r hr => (c3 _ _ t3 (by omega)).trans (b4 r hr)⟩
    · rw [fr _ _ t1 (by omega) (by omega)]
      exact chn_cong _ _ (fun z hz => ⟨rfl, fr _ _ (ts z ((b_lt _ _ n).1 z hz)) (by omega) (by omega)⟩) b1
    · have tq := ts i hi
      rw [f _ _ tq (by omega) (by omega), f _ _ tq (by omega) (by omega), f _ _ tq (by omega) (by omega)]
      exact b2 i hi
  · unfold LY LYr LYb bW at h5 ⊢
    rw [a4 716 (by decide), a5 1 (by decide), a5 4 (by decide), a5 5 (by decide), a5 6 (by decide), a5 7 (by decide), a5 8 (by decide), a5 10 (by decide), a5 11 (by decide)]
    exact h5
theorem Ho_C {x m N : Nat} {th ra rb rc : Nat → Nat} {S S' T T' : Sg} (h : Ho x m N th ra rb rc S T) (h1 : SX x S) (hc : CAg x S S') (ht : TCA m T T') : Ho x m N th ra rb rc S' T' := by
  obtain ⟨hTh, hNu, hHa, hRo, hGr⟩ := h
  obtain ⟨a1, a2, a3, a4, a5, a6⟩ := ht
  obtain ⟨c1, c2, c3, c4, c5⟩ := hc
  have t5 : tg S (x + 5) ≠ 0 := by rw [SX_t5 h1]; decide
  have t6 : tg S (x + 6) ≠ 0 := by rw [SX_t6 h1]; decide
  have t7 : tg S (x + 7) ≠ 0 := by rw [SX_t7 h1]; decide
  have t8 : tg S (x + 8) ≠ 0 := by rw [SX_t8 h1]; decide
  have t9 : tg S (x + 9) ≠ 0 := by rw [SX_t9 h1]; decide
  have f : ∀ k q, tg S q ≠ 0 → cK k → fI S' k q = fI S k q := fun k q q1 q2 => (c2 k q q1 q2).1
  refine ⟨⟨hTh.1, (a4 721 (by decide)).trans hTh.2.1, fun j h1 h2 => ?_, hTh.2.2.2⟩, fun i hi => ?_, fun i hi => ?_, ⟨fun i hi => ?_, fun i j hi hj hne h1 h2 => ?_⟩, ?_⟩
  · obtain ⟨q1, q2, q3, q4⟩ := hTh.2.2.1 j h1 h2
    have tq : tg S (th j) ≠ 0 := by rw [q1]; decide
    rw [a5 14 (by decide), a6 15 (by decide)]
    exact ⟨(c1 _ tq).1.trans q1, (f 512 _ tq (by unfold cK; omega)).trans q2, (c2 513 _ tq (by unfold cK; omega)).2.1.trans q3, q4⟩
  · rw [c4 _ _ t5 (by omega), a6 12 (by decide)]; exact hNu i hi
  · rw [c5 _ _ t6, a5 13 (by decide)]; exact hHa i hi
  · unfold RRo1
    rw [c5 _ _ t7, a5 16 (by decide), a5 17 (by decide), a6 18 (by decide)]
    rcases hRo.1 i hi with q | ⟨q1, q2, q3, q4, r1, r2, r3, r4, r5, r6, ⟨p, p1, p2, p3⟩, r8, r9, r10, r11⟩
    · exact Or.inl q
    · have ta : tg S (ra i) ≠ 0 := by rw [r1]; decide
      have tb : tg S (rb i) ≠ 0 := by rw [r4]; decide
      have tc : tg S (rc i) ≠ 0 := by rw [r6]; decide
      refine Or.inr ⟨q1, q2, q3, q4, (c1 _ ta).1.trans r1, (f 320 _ ta (by unfold cK; omega)).trans r2, (c2 321 _ ta (by unfold cK; omega)).2.2.trans r3, (c1 _ tb).1.trans r4, (c2 322 _ ta (by unfold cK; omega)).2.2.trans r5, (c1 _ tc).1.trans r6, ⟨p, p1, (f 323 _ ta (by unfold cK; omega)).trans p2, p3⟩, (f 324 _ ta (by unfold cK; omega)).trans r8, r9, fun h => ?_, fun h => ?_⟩
      · obtain ⟨u1, u2, u3⟩ := r10 h
        exact ⟨(c1 _ tb).2.trans u1, (c1 _ tc).2.trans u2, fun j hj => (c4 _ _ tb q3).trans (u3 j hj)⟩
      · obtain ⟨u1, u2, u3⟩ := r11 h
        refine ⟨(c1 _ tb).2.trans u1, (c1 _ tc).2.trans u2, fun j hj => ?_⟩
        rw [c5 _ _ tc]
        exact u3 j hj
  · rw [c5 _ _ t7] at h1 h2
    exact hRo.2 i j hi hj hne h1 h2
  · obtain ⟨g1, g2, ⟨g, p, k1, k2, k3, k4, k5, k6, k7⟩, g8⟩ := hGr
    unfold RGr
    rw [a4 725 (by decide), a4 726 (by decide), a4 727 (by decide), a5 19 (by decide)]
    exact ⟨(f 129 _ t8 (by unfold cK; omega)).trans g1, g2, ⟨g, p, k1, k2, (f 130 _ t8 (by unfold cK; omega)).trans k3, k4, (f 131 _ t8 (by unfold cK; omega)).trans k5, k6, k7⟩, fun r p hr hp => (c3 _ _ t9 (by omega)).trans (g8 r p hr hp)⟩
