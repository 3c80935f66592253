/-! states that agree off the script -/
def Ag (x : Nat) (S S' : Sg) : Prop := (∀ q, tg S q ≠ 0 → tg S' q = tg S q ∧ ln S' q = ln S q) ∧ (∀ k q, tg S q ≠ 0 → (k < 384 ∨ 512 ≤ k) → fI S' k q = fI S k q ∧ fL S' k q = fL S k q ∧ fR S' k q = fR S k q) ∧ (∀ q i, tg S q ≠ 0 → q ≠ x + 3 → aI S' q i = aI S q i) ∧ (∀ q i, tg S q ≠ 0 → aL S' q i = aL S q i) ∧ (∀ q i, tg S q ≠ 0 → q ≠ x + 2 → aR S' q i = aR S q i)
theorem Ag_rf {x : Nat} {S : Sg} : Ag x S S := ⟨fun _ _ => ⟨rfl, rfl⟩, fun _ _ _ _ => ⟨rfl, rfl, rfl⟩, fun _ _ _ _ => rfl, fun _ _ _ => rfl, fun _ _ _ _ => rfl⟩
theorem Ag_tr {x : Nat} {S S1 S2 : Sg} (h1 : Ag x S S1) (h2 : Ag x S1 S2) : Ag x S S2 := by
  have t : ∀ q, tg S q ≠ 0 → tg S1 q ≠ 0 := fun q hq => by rw [(h1.1 q hq).1]; exact hq
  refine ⟨fun q hq => ⟨(h2.1 q (t q hq)).1.trans (h1.1 q hq).1, (h2.1 q (t q hq)).2.trans (h1.1 q hq).2⟩, fun k q hq hk => ?_, fun q i hq hn => (h2.2.2.1 q i (t q hq) hn).trans (h1.2.2.1 q i hq hn), fun q i hq => (h2.2.2.2.1 q i (t q hq)).trans (h1.2.2.2.1 q i hq), fun q i hq hn => (h2.2.2.2.2 q i (t q hq) hn).trans (h1.2.2.2.2 q i hq hn)⟩
  obtain ⟨a1, a2, a3⟩ := h1.2.1 k q hq hk
  obtain ⟨b1, b2, b3⟩ := h2.2.1 k q (t q hq) hk
  exact ⟨b1.trans a1, b2.trans a2, b3.trans a3⟩
theorem Ag_nw {x : Nat} {S : Sg} {t n : Nat} (hf : ∀ q, tg S q ≠ 0 → q < sz S) : Ag x S (nw S t n) := by
  have e : ∀ q, tg S q ≠ 0 → q ≠ sz S := fun q hq => Nat.ne_of_lt (hf q hq)
  refine ⟨fun q hq => ⟨if_neg (e q hq), if_neg (e q hq)⟩, fun k q hq _ => ⟨if_neg (e q hq), if_neg (e q hq), if_neg (e q hq)⟩, fun q i hq _ => if_neg (e q hq), fun q i hq => if_neg (e q hq), fun q i hq _ => if_neg (e q hq)⟩
theorem Ag_FI {x : Nat} {S : Sg} {k a : Nat} {v : Int32} (hk : 384 ≤ k) (hk2 : k < 512) : Ag x S (sFI S k a v) :=
  ⟨fun _ _ => ⟨rfl, rfl⟩, fun k' q _ hk' => ⟨if_neg (fun z => by have := z.1; omega), rfl, rfl⟩, fun _ _ _ _ => rfl, fun _ _ _ => rfl, fun _ _ _ _ => rfl⟩
theorem Ag_FR {x : Nat} {S : Sg} {k a : Nat} {v : Option Nat} (hk : 384 ≤ k) (hk2 : k < 512) : Ag x S (sFR S k a v) :=
  ⟨fun _ _ => ⟨rfl, rfl⟩, fun k' q _ hk' => ⟨rfl, rfl, if_neg (fun z => by have := z.1; omega)⟩, fun _ _ _ _ => rfl, fun _ _ _ => rfl, fun _ _ _ _ => rfl⟩
theorem Ag_AI {x : Nat} {S : Sg} {i : Nat} {v : Int32} : Ag x S (sAI S (x + 3) i v) :=
  ⟨fun _ _ => ⟨rfl, rfl⟩, fun _ _ _ _ => ⟨rfl, rfl, rfl⟩, fun q j _ hn => if_neg (fun z => hn z.1), fun _ _ _ => rfl, fun _ _ _ _ => rfl⟩
theorem Ag_AR {x : Nat} {S : Sg} {i : Nat} {v : Option Nat} : Ag x S (sAR S (x + 2) i v) :=
  ⟨fun _ _ => ⟨rfl, rfl⟩, fun _ _ _ _ => ⟨rfl, rfl, rfl⟩, fun _ _ _ _ => rfl, fun _ _ _ => rfl, fun q j _ hn => if_neg (fun z => hn z.1)⟩
def RH (x m N : Nat) (th : Nat → Nat) (F : Nat) (fa ra rb rc : Nat → Nat) (S T : Sg) : Prop := RTh m N th S T ∧ RNu x m S T ∧ RHa x m N th S T ∧ RRo x m N th ra rb rc S T ∧ RGr x m S T ∧ RFa m F fa S T ∧ RRe x m F fa S T ∧ RTo x m N S T
theorem RH_ag {x m N : Nat} {th : Nat → Nat} {F : Nat} {fa ra rb rc : Nat → Nat} {S S' T : Sg} (hS : SX x S) (ha : Ag x S S') (h : RH x m N th F fa ra rb rc S T) : RH x m N th F fa ra rb rc S' T := by
  obtain ⟨hTh, hNu, hHa, hRo, hGr, hFa, hRe, hTo⟩ := h
  obtain ⟨a1, a2, a3, a4, a5⟩ := ha
  have f : ∀ k q, tg S q ≠ 0 → (k < 384 ∨ 512 ≤ k) → fI S' k q = fI S k q := fun k q h1 h2 => (a2 k q h1 h2).1
  have fl : ∀ k q, tg S q ≠ 0 → (k < 384 ∨ 512 ≤ k) → fL S' k q = fL S k q := fun k q h1 h2 => (a2 k q h1 h2).2.1
  have fr : ∀ k q, tg S q ≠ 0 → (k < 384 ∨ 512 ≤ k) → fR S' k q = fR S k q := fun k q h1 h2 => (a2 k q h1 h2).2.2
  have t0 : tg S x ≠ 0 := by rw [SX_t0 hS]; decide
  have t5 : tg S (x + 5) ≠ 0 := by rw [SX_t5 hS]; decide
  have t6 : tg S (x + 6) ≠ 0 := by rw [SX_t6 hS]; decide
  have t7 : tg S (x + 7) ≠ 0 := by rw [SX_t7 hS]; decide
  have t8 : tg S (x + 8) ≠ 0 := by rw [SX_t8 hS]; decide
  have t9 : tg S (x + 9) ≠ 0 := by rw [SX_t9 hS]; decide
  have t10 : tg S (x + 10) ≠ 0 := by rw [SX_t10 hS]; decide
  have t11 : tg S (x + 11) ≠ 0 := by rw [SX_t11 hS]; decide
  have t12 : tg S (x + 12) ≠ 0 := by rw [SX_t12 hS]; decide
  refine ⟨⟨hTh.1, hTh.2.1, fun j h1 h2 => ?_, hTh.2.2.2⟩, fun i hi => ?_, fun i hi => ?_, ⟨fun i hi => ?_, fun i j hi hj hne h1 h2 => ?_⟩, ?_, ⟨hFa.1, hFa.2.1, fun j h1 h2 => ?_⟩, ?_, ?_⟩
  · obtain ⟨q1, q2, q3, q4⟩ := hTh.2.2.1 j h1 h2
    have ht : tg S (th j) ≠ 0 := by rw [q1]; decide
    exact ⟨(a1 _ ht).1.trans q1, (f 512 _ ht (by omega)).trans q2, (fl 513 _ ht (by omega)).trans q3, q4⟩
  · rw [a4 _ _ t5]; exact hNu i hi
  · rw [a5 _ _ t6 (by omega)]; exact hHa i hi
  · rw [a5 _ _ t7 (by omega)]
    rcases hRo.1 i hi with q | ⟨q1, q2, q3, q4, r1, r2, r3, r4, r5, r6, ⟨p, p1, p2, p3⟩, r8, r9, r10, r11⟩
    · exact Or.inl q
    · have ta : tg S (ra i) ≠ 0 := by rw [r1]; decide
      have tb : tg S (rb i) ≠ 0 := by rw [r4]; decide
      have tc : tg S (rc i) ≠ 0 := by rw [r6]; decide
      have n2 : rc i ≠ x + 2 := by intro z; rw [z, SX_t2 hS] at r6; exact absurd r6 (by decide)
      refine Or.inr ⟨q1, q2, q3, q4, (a1 _ ta).1.trans r1, (f 320 _ ta (by omega)).trans r2, (fr 321 _ ta (by omega)).trans r3, (a1 _ tb).1.trans r4, (fr 322 _ ta (by omega)).trans r5, (a1 _ tc).1.trans r6, ⟨p, p1, (f 323 _ ta (by omega)).trans p2, p3⟩, (f 324 _ ta (by omega)).trans r8, r9, fun h => ?_, fun h => ?_⟩
      · obtain ⟨u1, u2, u3⟩ := r10 h
        exact ⟨(a1 _ tb).2.trans u1, (a1 _ tc).2.trans u2, fun j hj => (a4 _ _ tb).trans (u3 j hj)⟩
      · obtain ⟨u1, u2, u3⟩ := r11 h
        refine ⟨(a1 _ tb).2.trans u1, (a1 _ tc).2.trans u2, fun j hj => ?_⟩
        rw [a5 _ _ tc n2]
        exact u3 j hj
  · rw [a5 _ _ t7 (by omega)] at h1 h2
    exact hRo.2 i j hi hj hne h1 h2
  · obtain ⟨g1, g2, ⟨g, p, k1, k2, k3, k4, k5, k6, k7⟩, g8⟩ := hGr
    exact ⟨(f 129 _ t8 (by omega)).trans g1, g2, ⟨g, p, k1, k2, (f 130 _ t8 (by omega)).trans k3, k4, (f 131 _ t8 (by omega)).trans k5, k6, k7⟩, fun r p hr hp => (a3 _ _ t9 (by omega)).trans (g8 r p hr hp)⟩
  · obtain ⟨q1, q2, q3, q4⟩ := hFa.2.2 j h1 h2
    have ht : tg S (fa j) ≠ 0 := by rw [q1]; decide
    refine ⟨(a1 _ ht).1.trans q1, (f 0 _ ht (by omega)).trans q2, ?_, q4⟩
    rw [fr 1 _ ht (by omega)]; exact q3
  · obtain ⟨e1, e2, e3, ⟨o, o1, o2, o3, o4⟩, ⟨p, p1, p2, p3, p4⟩, e6, e7⟩ := hRe
    refine ⟨(f 258 _ t10 (by omega)).trans e1, (fl 259 _ t10 (by omega)).trans e2, ?_, ⟨o, o1, (f 261 _ t10 (by omega)).trans o2, o3, fun i hi => (a4 _ _ t11).trans (o4 i hi)⟩, ⟨p, p1, (f 262 _ t10 (by omega)).trans p2, p3, fun i hi => (a3 _ _ t12 (by omega)).trans (p4 i hi)⟩, (f 263 _ t10 (by omega)).trans e6, (f 264 _ t10 (by omega)).trans e7⟩
    rw [fr 260 _ t10 (by omega)]; exact e3
  · obtain ⟨⟨a, b1, b2, b3, b4⟩, b5⟩ := hTo
    exact ⟨⟨a, b1, b2, (f 644 _ t0 (by omega)).trans b3, b4⟩, (f 645 _ t0 (by omega)).trans b5⟩
theorem SX_ag {x : Nat} {S S' : Sg} (h : SX x S) (ht : ∀ q, tg S q ≠ 0 → tg S' q = tg S q ∧ ln S' q = ln S q) (hr : ∀ k q, tg S q ≠ 0 → k ∈ [640, 641, 642, 643, 384, 385, 192, 193, 194, 195, 128, 256, 257, 576, 577, 578, 579] → fR S' k q = fR S k q) : SX x S' := by
  have t : ∀ i, tg S (x + i) ≠ 0 → tg S' (x + i) = tg S (x + i) ∧ ln S' (x + i) = ln S (x + i) := fun i hi => ht _ hi
  have z : ∀ {q c : Nat}, tg S q = c → c ≠ 0 → tg S q ≠ 0 := fun h1 h2 => by rw [h1]; exact h2
  have u : ∀ {q c : Nat}, tg S q = c → c ≠ 0 → tg S' q = c := fun h1 h2 => (ht _ (z h1 h2)).1.trans h1
  have v : ∀ {q c n : Nat}, tg S q = c → c ≠ 0 → ln S q = n → ln S' q = n := fun h1 h2 h3 => (ht _ (z h1 h2)).2.trans h3
  have w : ∀ {q c k : Nat} {o : Option Nat}, tg S q = c → c ≠ 0 → k ∈ [640, 641, 642, 643, 384, 385, 192, 193, 194, 195, 128, 256, 257, 576, 577, 578, 579] → fR S k q = o → fR S' k q = o := fun h1 h2 h3 h4 => (hr _ _ (z h1 h2) h3).trans h4
  exact ⟨u (SX_t0 h) (by decide), u (SX_t1 h) (by decide), u (SX_t2 h) (by decide), u (SX_t3 h) (by decide), u (SX_t4 h) (by decide), u (SX_t5 h) (by decide), u (SX_t6 h) (by decide), u (SX_t7 h) (by decide), u (SX_t8 h) (by decide), u (SX_t9 h) (by decide), u (SX_t10 h) (by decide), u (SX_t11 h) (by decide), u (SX_t12 h) (by decide), u (SX_t13 h) (by decide), u (SX_t14 h) (by decide),
    v (SX_t2 h) (by decide) (SX_l2 h), v (SX_t3 h) (by decide) (SX_l3 h), v (SX_t5 h) (by decide) (SX_l5 h), v (SX_t6 h) (by decide) (SX_l6 h), v (SX_t7 h) (by decide) (SX_l7 h), v (SX_t9 h) (by decide) (SX_l9 h), v (SX_t11 h) (by decide) (SX_l11 h), v (SX_t12 h) (by decide) (SX_l12 h),
    w (SX_t0 h) (by decide) (by decide) (SX_r640 h), w (SX_t0 h) (by decide) (by decide) (SX_r641 h), w (SX_t0 h) (by decide) (by decide) (SX_r642 h), w (SX_t0 h) (by decide) (by decide) (SX_r643 h), w (SX_t1 h) (by decide) (by decide) (SX_r384 h), w (SX_t1 h) (by decide) (by decide) (SX_r385 h), w (SX_t4 h) (by decide) (by decide) (SX_r192 h), w (SX_t4 h) (by decide) (by decide) (SX_r193 h), w (SX_t4 h) (by decide) (by decide) (SX_r194 h), w (SX_t4 h) (by decide) (by decide) (SX_r195 h), w (SX_t8 h) (by decide) (by decide) (SX_r128 h), w (SX_t10 h) (by decide) (by decide) (SX_r256 h), w (SX_t10 h) (by decide) (by decide) (SX_r257 h), w (SX_t13 h) (by decide) (by decide) (SX_r576 h), w (SX_t13 h) (by decide) (by decide) (SX_r577 h), w (SX_t13 h) (by decide) (by decide) (SX_r578 h), w (SX_t13 h) (by decide) (by decide) (SX_r579 h)⟩
/-! the blocks' words -/
theorem b_lt (op c : Nat → Int32) : ∀ k, (∀ b ∈ (b_at op c k).1, b < k) ∧ ∀ j, k ≤ j → (b_at op c k).2.1 j = none ∧ (b_at op c k).2.2.1 j = none ∧ (b_at op c k).2.2.2 j = none := by
  intro k
  induction k with
  | zero => exact ⟨fun b hb => absurd (show b ∈ ([] : List Nat) from hb) List.not_mem_nil, fun j _ => ⟨rfl, rfl, rfl⟩⟩
  | succ k ih =>
    obtain ⟨i1, i2⟩ := ih
    have up : ∀ (f : Nat → Option Nat) (b v : Nat), b < k → ∀ j, k + 1 ≤ j → va_up f b (some v) j = f j := fun f b v hb j hj => if_neg (by omega)
    show (∀ b ∈ (b_st op c k (b_at op c k)).1, b < k + 1) ∧ ∀ j, k + 1 ≤ j → (b_st op c k (b_at op c k)).2.1 j = none ∧ (b_st op c k (b_at op c k)).2.2.1 j = none ∧ (b_st op c k (b_at op c k)).2.2.2 j = none
    generalize hs : b_at op c k = s at i1 i2
    obtain ⟨l, t1, t2, t3⟩ := s
    dsimp only at i1 i2
    have keep : (∀ b ∈ l, b < k + 1) ∧ ∀ j, k + 1 ≤ j → t1 j = none ∧ t2 j = none ∧ t3 j = none := ⟨fun b hb => Nat.lt_succ_of_lt (i1 b hb), fun j hj => i2 j (by omega)⟩
    unfold b_st
    split
    · refine ⟨fun b hb => ?_, keep.2⟩
      rcases List.mem_cons.mp hb with e | e
      · omega
      · exact keep.1 b e
    · split
      · cases l with
        | nil => exact keep
        | cons b r =>
          dsimp only
          split
          · refine ⟨keep.1, fun j hj => ⟨?_, (keep.2 j hj).2⟩⟩
            exact (up _ _ _ (i1 b List.mem_cons_self) j hj).trans (keep.2 j hj).1
          · exact keep
      · split
        · cases l with
          | nil => exact keep
          | cons b r =>
            dsimp only
            split
            · refine ⟨keep.1, fun j hj => ⟨(keep.2 j hj).1, ?_, (keep.2 j hj).2.2⟩⟩
              exact (up _ _ _ (i1 b List.mem_cons_self) j hj).trans (keep.2 j hj).2.1
            · exact keep
        · split
          · cases l with
            | nil => exact keep
            | cons b r =>
              dsimp only
              split
              · refine ⟨fun b' hb' => keep.1 b' (List.mem_cons_of_mem _ hb'), fun j hj => ⟨(keep.2 j hj).1, (keep.2 j hj).2.1, ?_⟩⟩
                exact (up _ _ _ (i1 b List.mem_cons_self) j hj).trans (keep.2 j hj).2.2
              · exact keep
          · split
            · cases l with
              | nil => exact keep
              | cons b r =>
                dsimp only
                split
                · exact keep
                · refine ⟨fun b' hb' => keep.1 b' (List.mem_cons_of_mem _ hb'), fun j hj => ⟨(keep.2 j hj).1, (keep.2 j hj).2.1, ?_⟩⟩
                  exact (up _ _ _ (i1 b List.mem_cons_self) j hj).trans (keep.2 j hj).2.2
            · split
              · exact ⟨fun b hb => absurd hb List.not_mem_nil, keep.2⟩
              · exact keep
theorem b_st_cong {op op' c c' : Nat → Int32} {k : Nat} {s : bS} (h1 : op' k = op k) (h2 : c' k = c k) (h3 : ∀ b ∈ s.1, op' b = op b) : b_st op' c' k s = b_st op c k s := by
  obtain ⟨l, t1, t2, t3⟩ := s
  unfold b_st
  rw [h1, h2]
  cases l with
  | nil => rfl
  | cons b r => simp only [h3 b List.mem_cons_self]
theorem b_at_cong {op op' c c' : Nat → Int32} : ∀ k, (∀ i, i < k → op' i = op i ∧ c' i = c i) → b_at op' c' k = b_at op c k := by
  intro k
  induction k with
  | zero => intro _; rfl
  | succ k ih =>
    intro h
    show b_st op' c' k (b_at op' c' k) = b_st op c k (b_at op c k)
    rw [ih (fun i hi => h i (by omega))]
    exact b_st_cong (h k (by omega)).1 (h k (by omega)).2 (fun b hb => (h b (by have := (b_lt op c k).1 b hb; omega)).1)
theorem mk_cong {op op' c c' : Nat → Int32} : ∀ k, (∀ i, i < k → op' i = op i ∧ c' i = c i) → mk_l op' c' k = mk_l op c k := by
  intro k
  induction k with
  | zero => intro _; rfl
  | succ k ih =>
    intro h
    show mk_l op' c' k ++ _ = mk_l op c k ++ _
    rw [ih (fun i hi => h i (by omega)), (h k (by omega)).1, (h k (by omega)).2]
theorem mk_len (op c : Nat → Int32) : ∀ k, (mk_l op c k).length ≤ k := by
  intro k
  induction k with
  | zero => exact Nat.le_refl _
  | succ k ih =>
    show (mk_l op c k ++ _).length ≤ k + 1
    rw [List.length_append]
    split
    · simp; omega
    · simp; omega
theorem chn_cong {st st' : Nat → Nat} {ar ar' : Nat → Option Nat} : ∀ (l : List Nat) (o : Option Nat), (∀ b ∈ l, st' b = st b ∧ ar' (st b) = ar (st b)) → chn st ar l o → chn st' ar' l o := by
  intro l
  induction l with
  | nil => intro o _ h; exact h
  | cons b r ih =>
    intro o hb h
    obtain ⟨h1, h2⟩ := h
    obtain ⟨e1, e2⟩ := hb b List.mem_cons_self
    refine ⟨by rw [e1]; exact h1, ?_⟩
    rw [e1, e2]
    exact ih _ (fun b' hb' => hb b' (List.mem_cons_of_mem _ hb')) h2
theorem opI_pos {o : Option Nat} (h : ∀ k, o = some k → k < 2147483648) : 0 ≤ opI o ↔ o ≠ none := by
  cases o with
  | none => exact ⟨fun h => absurd h (by decide), fun h => absurd rfl h⟩
  | some k => exact ⟨fun _ h => (by cases h), fun _ => nI_pos' (by have := h k rfl; omega)⟩
theorem opI_neg {o : Option Nat} (h : ∀ k, o = some k → k < 2147483648) : opI o < 0 ↔ o = none := by
  cases o with
  | none => exact ⟨fun _ => rfl, fun _ => by decide⟩
  | some k => exact ⟨fun z => absurd z (nI_pos (by have := h k rfl; omega)), fun z => by cases z⟩
theorem b_val (op c : Nat → Int32) : ∀ k j v, ((b_at op c k).2.1 j = some v ∨ (b_at op c k).2.2.1 j = some v ∨ (b_at op c k).2.2.2 j = some v) → v < k := by
  intro k
  induction k with
  | zero => intro j v h; rcases h with h | h | h <;> cases h
  | succ k ih =>
    intro j v h
    have h' : ((b_st op c k (b_at op c k)).2.1 j = some v ∨ (b_st op c k (b_at op c k)).2.2.1 j = some v ∨ (b_st op c k (b_at op c k)).2.2.2 j = some v) := h
    have old := ih j v
    generalize hs : b_at op c k = s at h' old
    obtain ⟨l, t1, t2, t3⟩ := s
    dsimp only at old
    have up : ∀ (f : Nat → Option Nat) (b : Nat), va_up f b (some k) j = some v → f j = some v ∨ v = k := by
      intro f b hz
      unfold va_up at hz
      split at hz
      · cases hz; exact Or.inr rfl
      · exact Or.inl hz
    unfold b_st at h'
    split at h'
    · have := old h'; omega
    · split at h'
      · cases l with
        | nil => have := old h'; omega
        | cons b r =>
          dsimp only at h'
          split at h'
          · rcases h' with q | q | q
            · rcases up _ _ q with z | z
              · have := old (Or.inl z); omega
              · omega
            · have := old (Or.inr (Or.inl q)); omega
            · have := old (Or.inr (Or.inr q)); omega
          · have := old h'; omega
      · split at h'
        · cases l with
          | nil => have := old h'; omega
          | cons b r =>
            dsimp only at h'
            split at h'
            · rcases h' with q | q | q
              · have := old (Or.inl q); omega
              · rcases up _ _ q with z | z
                · have := old (Or.inr (Or.inl z)); omega
                · omega
              · have := old (Or.inr (Or.inr q)); omega
            · have := old h'; omega
        · split at h'
          · cases l with
            | nil => have := old h'; omega
            | cons b r =>
              dsimp only at h'
              split at h'
              · rcases h' with q | q | q
                · have := old (Or.inl q); omega
                · have := old (Or.inr (Or.inl q)); omega
                · rcases up _ _ q with z | z
                  · have := old (Or.inr (Or.inr z)); omega
                  · omega
              · have := old h'; omega
          · split at h'
            · cases l with
              | nil => have := old h'; omega
              | cons b r =>
                dsimp only at h'
                split at h'
                · have := old h'; omega
                · rcases h' with q | q | q
                  · have := old (Or.inl q); omega
                  · have := old (Or.inr (Or.inl q)); omega
                  · rcases up _ _ q with z | z
                    · have := old (Or.inr (Or.inr z)); omega
                    · omega
            · split at h'
              · have := old h'; omega
              · have := old h'; omega
