theorem gk_ar_int {s : State} {args : Array Value} (h : (Cond.arrayClass .int).before args s = true) : ∃ cA : ClassId, ArrOfT s cA .int ∧ va_RA s cA .int := by
  obtain ⟨cA, kA, comp, hfind, hk, hkind⟩ := Cond.arrayClass_spec h
  exact ⟨cA, fun n z => ⟨fun k h => (by cases h), kA, hk, comp, hkind⟩, hfind⟩
theorem gk_ar_long {s : State} {args : Array Value} (h : (Cond.arrayClass .long).before args s = true) : ∃ cA : ClassId, ArrOfT s cA .long ∧ va_RA s cA .long := by
  obtain ⟨cA, kA, comp, hfind, hk, hkind⟩ := Cond.arrayClass_spec h
  exact ⟨cA, fun n z => ⟨fun k h => (by cases h), kA, hk, comp, hkind⟩, hfind⟩
theorem gk_ar_boolean {s : State} {args : Array Value} (h : (Cond.arrayClass .boolean).before args s = true) : ∃ cA : ClassId, ArrOfT s cA .boolean ∧ va_RA s cA .boolean := by
  obtain ⟨cA, kA, comp, hfind, hk, hkind⟩ := Cond.arrayClass_spec h
  exact ⟨cA, fun n z => ⟨fun k h => (by cases h), kA, hk, comp, hkind⟩, hfind⟩
theorem gk_arO {s : State} {args : Array Value} {C : String} (h : (Cond.arrayOver (.object C)).before args s = true) : ∃ cA : ClassId, ArrOfT s cA (.object C) ∧ va_RA s cA (.object C) := by
  obtain ⟨comp, cA, kA, h1, h2, h3, h4, h5⟩ := Cond.arrayOver_spec h
  exact ⟨cA, fun n z => ⟨(fun k h => by cases h), kA, h3, comp, h4⟩, kA, comp, h3, h4, h1, h5⟩
set_option maxHeartbeats 4000000 in
set_option maxRecDepth 100000 in
/-- the walk of the law's body, out of what the two classes owe each other -/
theorem whole_open {RR : Nat → Nat → Sg → Sg → Prop} (hpl : PL_all RR) {p : Program} {e : Env} {s : State} {m : MethodId} {below : List Frame} {meth : Method} {c : Code} (l : Launch) {b L : Nat} {xs : Nat → Int32} (hL : L ≤ 320) (C0 : lw_At p s m meth c b L xs) : W p l e room_1 s m #[Value.ref b] below meth c s.heap [] 0 0 (lw_Z below #[Value.ref b] s) (entryFrame m ([Value.ref b] : List Value).toArray 4) := by
  obtain ⟨hx, hb, hr, hml, hown, htt, hX, hbl, hlocks, hgv⟩ := id C0
  have hts : ∀ w ∈ wsL_law, w.before #[Value.ref b] s = true := fun w h => htt w (wsL_law_in w h)
  obtain ⟨c0, i0, n0⟩ := u_known (C := RX0) (T := TX0) (N := 2) (n := 2) htt inX0 (htt (.instantiable RX0 2) (List.mem_of_getElem? (i := 516) (by decide +kernel)))
  obtain ⟨c1, i1, n1⟩ := u_known (C := RX1) (T := TX1) (N := 9) (n := 9) htt inX1 (htt (.instantiable RX1 9) (List.mem_of_getElem? (i := 368) (by decide +kernel)))
  obtain ⟨c2, i2, n2⟩ := u_known (C := RX2) (T := TX2) (N := 4) (n := 4) htt inX2 (htt (.instantiable RX2 4) (List.mem_of_getElem? (i := 129) (by decide +kernel)))
  obtain ⟨c3, i3, n3⟩ := u_known (C := RX3) (T := TX3) (N := 4) (n := 4) htt inX3 (htt (.instantiable RX3 4) (List.mem_of_getElem? (i := 119) (by decide +kernel)))
  obtain ⟨c4, i4, n4⟩ := u_known (C := RX4) (T := TX4) (N := 9) (n := 9) htt inX4 (htt (.instantiable RX4 9) (List.mem_of_getElem? (i := 164) (by decide +kernel)))
  obtain ⟨c5, i5, n5⟩ := u_known (C := RX5) (T := TX5) (N := 5) (n := 5) htt inX5 (htt (.instantiable RX5 5) (List.mem_of_getElem? (i := 575) (by decide +kernel)))
  obtain ⟨c6, i6, n6⟩ := u_known (C := RX6) (T := TX6) (N := 5) (n := 5) htt inX6 (htt (.instantiable RX6 5) (List.mem_of_getElem? (i := 92) (by decide +kernel)))
  obtain ⟨c7, i7, n7⟩ := u_known (C := RX7) (T := TX7) (N := 9) (n := 9) htt inX7 (htt (.instantiable RX7 9) (List.mem_of_getElem? (i := 218) (by decide +kernel)))
  obtain ⟨c8, i8, n8⟩ := u_known (C := RX8) (T := TX8) (N := 2) (n := 2) htt inX8 (htt (.instantiable RX8 2) (List.mem_of_getElem? (i := 677) (by decide +kernel)))
  obtain ⟨c9, i9, n9⟩ := u_known (C := RX9) (T := TX9) (N := 11) (n := 11) htt inX9 (htt (.instantiable RX9 11) (List.mem_of_getElem? (i := 212) (by decide +kernel)))
  obtain ⟨c10, i10, n10⟩ := u_known (C := RX10) (T := TX10) (N := 6) (n := 6) htt inX10 (htt (.instantiable RX10 6) (List.mem_of_getElem? (i := 84) (by decide +kernel)))
  obtain ⟨c11, i11, n11⟩ := u_known (C := RX11) (T := TX11) (N := 55) (n := 55) htt inX11 (htt (.instantiable RX11 55) (List.mem_of_getElem? (i := 799) (by decide +kernel)))
  obtain ⟨dC, dI, hKc⟩ : ∃ (dC : Nat → ClassId) (dI : Nat → Nat → Nat), ∀ (k : Nat) (q : vw_C), vwCl[k]? = some q → u_Kn s q.1 q.2.1 q.2.2 (dC k) (dI k) := by
    refine ⟨fun k => match k with | 1 => c1 | 2 => c2 | 3 => c3 | 4 => c4 | 5 => c5 | 6 => c6 | 7 => c7 | 8 => c8 | 9 => c9 | 10 => c10 | 11 => c11 | _ => c0, fun k => match k with | 1 => i1 | 2 => i2 | 3 => i3 | 4 => i4 | 5 => i5 | 6 => i6 | 7 => i7 | 8 => i8 | 9 => i9 | 10 => i10 | 11 => i11 | _ => i0, ?_⟩
    intro k q hq
    match k, hq with
    | 0, hq => cases hq; exact n0
    | 1, hq => cases hq; exact n1
    | 2, hq => cases hq; exact n2
    | 3, hq => cases hq; exact n3
    | 4, hq => cases hq; exact n4
    | 5, hq => cases hq; exact n5
    | 6, hq => cases hq; exact n6
    | 7, hq => cases hq; exact n7
    | 8, hq => cases hq; exact n8
    | 9, hq => cases hq; exact n9
    | 10, hq => cases hq; exact n10
    | 11, hq => cases hq; exact n11
    | k + 12, hq => simp [vwCl] at hq
  obtain ⟨cy, hcy⟩ : ∃ cy : Nat → ClassId, ∀ (k : Nat) (q : ClassId × FieldType), (gT cy)[k]? = some q → ArrOfT s q.1 q.2 ∧ va_RA s q.1 q.2 := by
    have aI0 := gk_ar_int (s := s) (htt (.arrayClass .int) (List.mem_of_getElem? (i := 117) (by decide +kernel)))
    have aL0 := gk_ar_long (s := s) (htt (.arrayClass .long) (List.mem_of_getElem? (i := 148) (by decide +kernel)))
    have aZ0 := gk_ar_boolean (s := s) (htt (.arrayClass .boolean) (List.mem_of_getElem? (i := 970) (by decide +kernel)))
    have a3 := gk_arO (s := s) (C := RX5) (htt (.arrayOver (.object RX5)) (List.mem_of_getElem? (i := 127) (by decide +kernel)))
    have a4 := gk_arO (s := s) (C := RX7) (htt (.arrayOver (.object RX7)) (List.mem_of_getElem? (i := 98) (by decide +kernel)))
    have a5 := gk_arO (s := s) (C := RX8) (htt (.arrayOver (.object RX8)) (List.mem_of_getElem? (i := 125) (by decide +kernel)))
    obtain ⟨k0, g0⟩ := aI0
    obtain ⟨k1, g1⟩ := aL0
    obtain ⟨k2, g2⟩ := aZ0
    obtain ⟨k3, g3⟩ := a3
    obtain ⟨k4, g4⟩ := a4
    obtain ⟨k5, g5⟩ := a5
    refine ⟨fun k => match k with | 0 => k0 | 1 => k1 | 2 => k2 | 3 => k3 | 4 => k4 | _ => k5, ?_⟩
    intro k q hq
    match k, hq with
    | 0, hq => cases hq; exact g0
    | 1, hq => cases hq; exact g1
    | 2, hq => cases hq; exact g2
    | 3, hq => cases hq; exact g3
    | 4, hq => cases hq; exact g4
    | 5, hq => cases hq; exact g5
    | k + 6, hq => simp [gT] at hq
  have hXs : gX s := ⟨va_Nw.of rfl (htt _ (List.mem_of_getElem? (i := 93) (by decide +kernel))), va_Nw.of rfl (htt _ (List.mem_of_getElem? (i := 120) (by decide +kernel))), va_Nw.of rfl (htt _ (List.mem_of_getElem? (i := 130) (by decide +kernel))), va_Nw.of rfl (htt _ (List.mem_of_getElem? (i := 165) (by decide +kernel))), va_AO.of (htt _ (List.mem_of_getElem? (i := 127) (by decide +kernel))), va_AO.of (htt _ (List.mem_of_getElem? (i := 98) (by decide +kernel))), va_AO.of (htt _ (List.mem_of_getElem? (i := 125) (by decide +kernel)))⟩
  have C : gC p s m #[Value.ref b] meth c (dC, dI) cy cL_law 4 RL (some .boolean) meth.name := ⟨hx, hb, hml, hown, hts, hlocks, ⟨hKc, hcy⟩, hXs, hr, rfl⟩
  have hl := lv_entry ([.ref b]) (n := 4) (Nat.le_of_ble_eq_true rfl)
  rw [lg_entry_eq]
  generalize (lg_sl ([.ref b]) ++ List.replicate (4 - (lg_sl ([.ref b])).length) Slot.unset).toArray = ls at hl ⊢
  have hl : lv_has ls 4 [(0, .ref b)] := hl
  obtain ⟨hz, htg, hini, hrest⟩ := id hpl
  have hW0 : gW (dC, dI) cy (fun q => s.heap.size ≤ q) (fun _ => 0) s.heap (ze s.heap.size) s.heap [] := ⟨fun a t h => absurd h (by show ¬ (0 : Nat) = t + 1; omega), rfl, va_S.rf, fun q h => absurd rfl h, fun _ h => h, fun q t h => absurd h (by show ¬ (0 : Nat) = t + 1; omega)⟩
  refine gx_new C hW0 NL_7 (by show _ ≤ 600000; omega) (by show _ ≤ 7302250; omega) dL_law_0 (fun H S1 eS1 hW hm t1 => ?_)
  refine lv_dup hx hb dL_law_3 (va_rf_cat _) ?_
  have hw := hini s.heap.size
  rw [show nw (ze s.heap.size) 11 0 = S1 from eS1.symm] at hw
  refine gx_cv (gx_rI C hW ML_9 (mX10_init l (dC, dI) cy _ _ _ t1 hw) rfl rfl ⟨Nat.le_of_ble_eq_true rfl, Nat.le_of_ble_eq_true rfl⟩ rfl rfl hl.1 rfl (gx_room0 (n := 4) (Nat.le_of_ble_eq_true rfl)) dL_law_4 ⟨by show _ ≤ 600000; omega, by show _ ≤ 7302250; omega⟩) hW (fun S2 H locs hW hm hw => ?_)
  refine va_forget (fun q hq => hW.2.2.1.2.2 q hq) ?_
  refine gx_astore_n (i := 1) (lv' := [(1, va_rf (some s.heap.size)), (0, .ref b)]) hx hb dL_law_7 rfl hl (by decide) rfl (fun ls hl => ?_)
  have hP : gP (dC, dI) cy s.heap (ze H.size) S2 H := ⟨fun a t h => absurd h (by show ¬ (0 : Nat) = t + 1; omega), hW.1, fun q h => absurd rfl h, fun q h => absurd rfl h, hW.2.2.2.1, ⟨hW.2.2.1.1, hW.2.2.1.2.1, fun _ h => by cases h⟩⟩
  have hw := hw H.size (by rw [hW.2.1]; exact Nat.le_refl _)
  refine gx_new C (gP_W hP) NL_10 (by show _ ≤ 600000; omega) (by show _ ≤ 7302250; omega) dL_law_8 (fun H3 S3 eS3 hW3 hm3 t3 => ?_)
  refine lv_dup hx hb dL_law_11 (va_rf_cat _) ?_
  have hS3 : S3 = nw (ze H.size) 12 0 := eS3
  rw [← hS3] at hw
  refine gx_cv (gx_rI C hW3 ML_12 (mX11_init l (dC, dI) cy _ _ _ t3 hw) rfl rfl ⟨Nat.le_of_ble_eq_true rfl, Nat.le_of_ble_eq_true rfl⟩ rfl rfl hl.1 rfl (gx_room0 (n := 4) (Nat.le_of_ble_eq_true rfl)) dL_law_12 ⟨by show _ ≤ 600000; omega, by show _ ≤ 7302250; omega⟩) hW3 (fun S4 H4 locs4 hW4 hm4 hw => ?_)
  obtain ⟨hP4, hf4⟩ := gP_back hP hW4
  refine va_forget hf4 ?_
  have hP5 := gP_swap hP4
  refine gx_astore_n (i := 2) (lv' := [(2, va_rf (some H.size)), (1, va_rf (some s.heap.size)), (0, .ref b)]) hx hb dL_law_15 rfl hl (by decide) rfl (fun ls hl => ?_)
  refine lv_iconst (v := 0) hx hb dL_law_16 (by decide) ?_
  refine lv_istore_n (i := 3) (lv' := [(3, .int 0), (2, va_rf (some H.size)), (1, va_rf (some s.heap.size)), (0, .ref b)]) hx hb dL_law_17 rfl hl (by decide) rfl (fun ls hl => ?_)
  exact law_loop hpl hL C hr hX hbl (L / 5 + 1) 0 (by omega) (by omega) _ _ _ _ _ _ _ ls (lv_sub hl [3, 2, 1, 0] rfl) ⟨by omega, by omega⟩ hw hP5
