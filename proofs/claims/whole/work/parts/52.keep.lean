/-! what keeps the parts of the house; rows emptied -/
theorem RTh_keep {m N : Nat} {th : Nat → Nat} {S S' T T' : Sg} (h : RTh m N th S T) (h1 : ∀ q, tg S q = 9 → tg S' q = 9 ∧ fI S' 512 q = fI S 512 q ∧ fL S' 513 q = fL S 513 q) (h2 : fI T' 721 m = fI T 721 m) (h3 : aI T' (m + 14) = aI T (m + 14)) (h4 : aL T' (m + 15) = aL T (m + 15)) : RTh m N th S' T' := by
  obtain ⟨a1, a2, a3, a4⟩ := h
  refine ⟨a1, h2.trans a2, fun j j1 j2 => ?_, a4⟩
  obtain ⟨b1, b2, b3, b4⟩ := a3 j j1 j2
  obtain ⟨c1, c2, c3⟩ := h1 _ b1
  rw [h3, h4]
  exact ⟨c1, c2.trans b2, c3.trans b3, b4⟩
theorem RNu_keep {x m : Nat} {S S' T T' : Sg} (h : RNu x m S T) (h1 : aL S' (x + 5) = aL S (x + 5)) (h2 : aL T' (m + 12) = aL T (m + 12)) : RNu x m S' T' := fun i hi => by rw [h1, h2]; exact h i hi
theorem RHa_keep {x m N : Nat} {th : Nat → Nat} {S S' T T' : Sg} (h : RHa x m N th S T) (h1 : aR S' (x + 6) = aR S (x + 6)) (h2 : aI T' (m + 13) = aI T (m + 13)) : RHa x m N th S' T' := fun i hi => by rw [h1, h2]; exact h i hi
theorem RRo1_keep {m N i a b c : Nat} {th : Nat → Nat} {S S' T T' : Sg} (h : RRo1 m N th i a b c S T) (ha : tg S a = 6 → tg S' a = 6 ∧ (∀ k, 320 ≤ k → k ≤ 324 → fI S' k a = fI S k a ∧ fR S' k a = fR S k a)) (hb : tg S b = 14 → tg S' b = 14 ∧ ln S' b = ln S b ∧ aL S' b = aL S b) (hc : tg S c = 18 → tg S' c = 18 ∧ ln S' c = ln S c ∧ aR S' c = aR S c) (t1 : aI T' (m + 16) i = aI T (m + 16) i) (t2 : aI T' (m + 17) i = aI T (m + 17) i) (t3 : ∀ j, j < 63 → aL T' (m + 18) (64 * i + j) = aL T (m + 18) (64 * i + j)) : RRo1 m N th i a b c S' T' := by
  obtain ⟨r1, r2, r3, r4, r5, r6, ⟨p, p1, p2, p3⟩, r8, r9, r10, r11⟩ := h
  obtain ⟨a1, a2⟩ := ha r1
  obtain ⟨b1, b2, b3⟩ := hb r4
  obtain ⟨c1, c2, c3⟩ := hc r6
  refine ⟨a1, (a2 320 (by omega) (by omega)).1.trans r2, (a2 321 (by omega) (by omega)).2.trans r3, b1, (a2 322 (by omega) (by omega)).2.trans r5, c1, ⟨p, p1, (a2 323 (by omega) (by omega)).1.trans p2, t1.trans p3⟩, ?_, by rw [t2]; exact r9, fun h => ?_, fun h => ?_⟩
  · rw [(a2 324 (by omega) (by omega)).1, t2]; exact r8
  · obtain ⟨u1, u2, u3⟩ := r10 h
    exact ⟨b2.trans u1, c2.trans u2, fun j hj => by rw [b3, t3 j hj]; exact u3 j hj⟩
  · obtain ⟨u1, u2, u3⟩ := r11 h
    refine ⟨b2.trans u1, c2.trans u2, fun j hj => ?_⟩
    rw [c3, t3 j hj]; exact u3 j hj
theorem RRo_keep {x m N : Nat} {th ra rb rc : Nat → Nat} {S S' T T' : Sg} (h : RRo x m N th ra rb rc S T) (h7 : aR S' (x + 7) = aR S (x + 7)) (ha : ∀ q, tg S q = 6 → tg S' q = 6 ∧ (∀ k, 320 ≤ k → k ≤ 324 → fI S' k q = fI S k q ∧ fR S' k q = fR S k q)) (hb : ∀ q, tg S q = 14 → q ≠ x + 5 → q ≠ x + 11 → tg S' q = 14 ∧ ln S' q = ln S q ∧ aL S' q = aL S q) (hc : ∀ q, tg S q = 18 → q ≠ x + 6 → tg S' q = 18 ∧ ln S' q = ln S q ∧ aR S' q = aR S q) (t1 : aI T' (m + 16) = aI T (m + 16)) (t2 : aI T' (m + 17) = aI T (m + 17)) (t3 : aL T' (m + 18) = aL T (m + 18)) : RRo x m N th ra rb rc S' T' := by
  refine ⟨fun i hi => ?_, fun i j hi hj hne h1 h2 => ?_⟩
  · rcases h.1 i hi with q | ⟨q1, q2, q3, q4, q5⟩
    · exact Or.inl ⟨by rw [h7]; exact q.1, by rw [t1]; exact q.2⟩
    · exact Or.inr ⟨by rw [h7]; exact q1, q2, q3, q4, RRo1_keep q5 (ha _) (fun w => hb _ w q2 q3) (fun w => hc _ w q4) (by rw [t1]) (by rw [t2]) (fun j _ => by rw [t3])⟩
  · rw [h7] at h1 h2
    exact h.2 i j hi hj hne h1 h2
theorem RGr_keep {x m : Nat} {S S' T T' : Sg} (h : RGr x m S T) (h1 : ∀ k, 129 ≤ k → k ≤ 131 → fI S' k (x + 8) = fI S k (x + 8)) (h2 : aI S' (x + 9) = aI S (x + 9)) (h3 : ∀ k, 725 ≤ k → k ≤ 727 → fI T' k m = fI T k m) (h4 : aI T' (m + 19) = aI T (m + 19)) : RGr x m S' T' := by
  obtain ⟨g1, g2, ⟨g, p, k1, k2, k3, k4, k5, k6, k7⟩, g8⟩ := h
  have e1 := h1 129 (by omega) (by omega)
  have e2 := h1 130 (by omega) (by omega)
  have e3 := h1 131 (by omega) (by omega)
  have f1 := h3 725 (by omega) (by omega)
  have f2 := h3 726 (by omega) (by omega)
  have f3 := h3 727 (by omega) (by omega)
  unfold RGr
  rw [e1, e2, e3, f1, f2, f3, h2, h4]
  exact ⟨g1, g2, ⟨g, p, k1, k2, k3, k4, k5, k6, k7⟩, g8⟩
/-- places lo to lo + n - 1 are 0 -/
def zI (a lo n : Nat) (S : Sg) : Sg := (tg S, ln S, fI S, fL S, fR S, fun q i => if q = a ∧ lo ≤ i ∧ i < lo + n then 0 else aI S q i, aL S, aR S, sz S)
def zL (a lo n : Nat) (S : Sg) : Sg := (tg S, ln S, fI S, fL S, fR S, aI S, fun q i => if q = a ∧ lo ≤ i ∧ i < lo + n then 0 else aL S q i, aR S, sz S)
def zR (a lo n : Nat) (S : Sg) : Sg := (tg S, ln S, fI S, fL S, fR S, aI S, aL S, fun q i => if q = a ∧ lo ≤ i ∧ i < lo + n then none else aR S q i, sz S)
theorem zI_at (a lo n : Nat) (S : Sg) : tg (zI a lo n S) = tg S ∧ ln (zI a lo n S) = ln S ∧ fI (zI a lo n S) = fI S ∧ fL (zI a lo n S) = fL S ∧ fR (zI a lo n S) = fR S ∧ aL (zI a lo n S) = aL S ∧ aR (zI a lo n S) = aR S ∧ sz (zI a lo n S) = sz S ∧ ∀ q i, aI (zI a lo n S) q i = if q = a ∧ lo ≤ i ∧ i < lo + n then 0 else aI S q i := ⟨rfl, rfl, rfl, rfl, rfl, rfl, rfl, rfl, fun _ _ => rfl⟩
theorem zL_at (a lo n : Nat) (S : Sg) : tg (zL a lo n S) = tg S ∧ ln (zL a lo n S) = ln S ∧ fI (zL a lo n S) = fI S ∧ fL (zL a lo n S) = fL S ∧ fR (zL a lo n S) = fR S ∧ aI (zL a lo n S) = aI S ∧ aR (zL a lo n S) = aR S ∧ sz (zL a lo n S) = sz S ∧ ∀ q i, aL (zL a lo n S) q i = if q = a ∧ lo ≤ i ∧ i < lo + n then 0 else aL S q i := ⟨rfl, rfl, rfl, rfl, rfl, rfl, rfl, rfl, fun _ _ => rfl⟩
theorem zR_at (a lo n : Nat) (S : Sg) : tg (zR a lo n S) = tg S ∧ ln (zR a lo n S) = ln S ∧ fI (zR a lo n S) = fI S ∧ fL (zR a lo n S) = fL S ∧ fR (zR a lo n S) = fR S ∧ aI (zR a lo n S) = aI S ∧ aL (zR a lo n S) = aL S ∧ sz (zR a lo n S) = sz S ∧ ∀ q i, aR (zR a lo n S) q i = if q = a ∧ lo ≤ i ∧ i < lo + n then none else aR S q i := ⟨rfl, rfl, rfl, rfl, rfl, rfl, rfl, rfl, fun _ _ => rfl⟩
theorem z_fun {α : Type} (f : Nat → Nat → α) (v : α) (a lo k : Nat) : g_u (fun q i => if q = a ∧ lo ≤ i ∧ i < lo + k then v else f q i) a (lo + k) v = fun q i => if q = a ∧ lo ≤ i ∧ i < lo + (k + 1) then v else f q i := by
  funext q i
  unfold g_u
  by_cases c : q = a ∧ i = lo + k
  · rw [if_pos c, if_pos ⟨c.1, by omega, by omega⟩]
  · rw [if_neg c]
    dsimp only
    by_cases d : q = a ∧ lo ≤ i ∧ i < lo + k
    · rw [if_pos d, if_pos ⟨d.1, d.2.1, by omega⟩]
    · rw [if_neg d, if_neg (fun w => by
        by_cases e : i = lo + k
        · exact c ⟨w.1, e⟩
        · exact d ⟨w.1, w.2.1, by omega⟩)]
theorem z_fun0 {α : Type} (f : Nat → Nat → α) (v : α) (a lo : Nat) : (fun q i => if q = a ∧ lo ≤ i ∧ i < lo + 0 then v else f q i) = f := by
  funext q i
  rw [if_neg (fun w => by omega)]
theorem zI_s (a lo k : Nat) (S : Sg) : sAI (zI a lo k S) a (lo + k) 0 = zI a lo (k + 1) S := by
  show (tg S, ln S, fI S, fL S, fR S, g_u (fun q i => if q = a ∧ lo ≤ i ∧ i < lo + k then 0 else aI S q i) a (lo + k) 0, aL S, aR S, sz S) = _
  rw [z_fun]; rfl
theorem zL_s (a lo k : Nat) (S : Sg) : sAL (zL a lo k S) a (lo + k) 0 = zL a lo (k + 1) S := by
  show (tg S, ln S, fI S, fL S, fR S, aI S, g_u (fun q i => if q = a ∧ lo ≤ i ∧ i < lo + k then 0 else aL S q i) a (lo + k) 0, aR S, sz S) = _
  rw [z_fun]; rfl
theorem zR_s (a lo k : Nat) (S : Sg) : sAR (zR a lo k S) a (lo + k) none = zR a lo (k + 1) S := by
  show (tg S, ln S, fI S, fL S, fR S, aI S, aL S, g_u (fun q i => if q = a ∧ lo ≤ i ∧ i < lo + k then none else aR S q i) a (lo + k) none, sz S) = _
  rw [z_fun]; rfl
theorem zI_0 (a lo : Nat) (S : Sg) : zI a lo 0 S = S := by
  show (tg S, ln S, fI S, fL S, fR S, (fun q i => if q = a ∧ lo ≤ i ∧ i < lo + 0 then 0 else aI S q i), aL S, aR S, sz S) = S
  rw [z_fun0]; rfl
theorem zL_0 (a lo : Nat) (S : Sg) : zL a lo 0 S = S := by
  show (tg S, ln S, fI S, fL S, fR S, aI S, (fun q i => if q = a ∧ lo ≤ i ∧ i < lo + 0 then 0 else aL S q i), aR S, sz S) = S
  rw [z_fun0]; rfl
theorem zR_0 (a lo : Nat) (S : Sg) : zR a lo 0 S = S := by
  show (tg S, ln S, fI S, fL S, fR S, aI S, aL S, (fun q i => if q = a ∧ lo ≤ i ∧ i < lo + 0 then none else aR S q i), sz S) = S
  rw [z_fun0]; rfl
/-- the JDK's fill of ints, of longs -/
theorem r_fillI {a n : Nat} {S : Sg} {Q : Sg → Prop} (hn : n < 2147483648) (ht : tg S a = 13) (hl : ln S a = n) (hQ : Q (zI a 0 n S)) : wJ7_fill_53178 (some a) 0 S Q := by
  have key : ∀ d k, k + d = n → wJ7_fill_53178_b5 (d + 1) (some a) 0 (nI k) (nI n) (zI a 0 k S) Q := by
    intro d
    induction d with
    | zero =>
      intro k hk
      unfold wJ7_fill_53178_b5
      rw [if_pos (by rw [n_le hn (by omega)]; omega), show k = n by omega]
      exact hQ
    | succ d ih =>
      intro k hk
      unfold wJ7_fill_53178_b5
      rw [if_neg (by rw [n_le hn (by omega)]; omega)]
      refine ⟨a, rfl, ht, ?_, ?_⟩
      · show vp_in (nI k) (ln S a)
        rw [hl]; exact vp_n (by omega) hn
      · rw [n_cl (by omega), nI_1]
        have := zI_s a 0 k S
        rw [Nat.zero_add] at this
        rw [this]
        exact nm_e (nm_e (ih (k + 1) (by omega)))
  unfold wJ7_fill_53178
  refine ⟨a, rfl, ht, ?_⟩
  rw [hl]
  refine nm_e ⟨n + 1, ?_⟩
  have := key n 0 (by omega)
  rw [zI_0] at this
  exact this
theorem r_fillL {a n : Nat} {S : Sg} {Q : Sg → Prop} (hn : n < 2147483648) (ht : tg S a = 14) (hl : ln S a = n) (hQ : Q (zL a 0 n S)) : wJ7_fill_d0a16 (some a) 0 S Q := by
  have key : ∀ d k, k + d = n → wJ7_fill_d0a16_b6 (d + 1) (some a) 0 (nI k) (nI n) (zL a 0 k S) Q := by
    intro d
    induction d with
    | zero =>
      intro k hk
      unfold wJ7_fill_d0a16_b6
      rw [if_pos (by rw [n_le hn (by omega)]; omega), show k = n by omega]
      exact hQ
    | succ d ih =>
      intro k hk
      unfold wJ7_fill_d0a16_b6
      rw [if_neg (by rw [n_le hn (by omega)]; omega)]
      refine ⟨a, rfl, ht, ?_, ?_⟩
      · show vp_in (nI k) (ln S a)
        rw [hl]; exact vp_n (by omega) hn
      · rw [n_cl (by omega), nI_1]
        have := zL_s a 0 k S
        rw [Nat.zero_add] at this
        rw [this]
        exact nm_e (nm_e (ih (k + 1) (by omega)))
  unfold wJ7_fill_d0a16
  refine ⟨a, rfl, ht, ?_⟩
  rw [hl]
  refine nm_e ⟨n + 1, ?_⟩
  have := key n 0 (by omega)
  rw [zL_0] at this
  exact this
