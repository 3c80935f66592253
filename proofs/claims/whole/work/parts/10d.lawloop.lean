/-- all that the two classes owe each other -/
def PL_all (RR : Nat → Nat → Sg → Sg → Prop) : Prop := (∀ {x m : Nat} (S S2 : Sg) (n : Nat), RR x m S S2 → RR x m (rz S n) S2) ∧ (∀ {x m : Nat} {S S2 : Sg}, RR x m S S2 → tg S x = 11 ∧ tg S2 m = 12) ∧ (∀ n, wX10_init n (nw (ze n) 11 0) (fun S1 => ∀ n2, sz S1 ≤ n2 → wX11_init n2 (nw (ze n2) 12 0) (fun S2 => RR n n2 S1 S2))) ∧ PL_step RR ∧ PL_wipe RR ∧ PL_run RR ∧ PL_end RR ∧ PL_result RR ∧ PL_kind RR ∧ PL_cause RR ∧ PL_out RR ∧ PL_finished RR ∧ PL_depth RR ∧ PL_status RR ∧ PL_number RR ∧ PL_hand RR ∧ PL_mark RR ∧ PL_size RR ∧ PL_value RR ∧ PL_grid RR
theorem law_c {L k : Nat} (hL : L ≤ 320) (hk : k ≤ 400) (h : ¬ Int32.ofNat L - 5 < nI k) : k + 5 ≤ L := by
  rcases Nat.lt_or_ge L (k + 5) with q | q
  · refine absurd ?_ h
    rw [Int32.lt_iff_toInt_lt, show (5 : Int32) = nI 5 from rfl, show Int32.ofNat L = nI L from rfl, pk_sub_toInt (by omega) (by omega), nI_toInt (by omega)]
    omega
  · exact q
set_option maxHeartbeats 4000000 in
set_option maxRecDepth 100000 in
theorem law_loop {RR : Nat → Nat → Sg → Sg → Prop} (hpl : PL_all RR) {p : Program} {l : Launch} {e : Env} {s : State} {m : MethodId} {below : List Frame} {meth : Method} {c : Code} {D : va_G} {cy : Nat → ClassId} {b L : Nat} {xs : Nat → Int32} {nm : String} (hL : L ≤ 320) (C : gC p s m #[Value.ref b] meth c D cy cL_law 4 RL (some .boolean) nm) (hret : meth.sig.returnType = ret) (hX : va_X b L xs s s.heap) (hbl : b < s.heap.size) :
    ∀ (n k : Nat), L < k + 5 * n → k + 5 * n ≤ L + 5 → ∀ (x y : Nat) (S S2 : Sg) (H : Heap) (kc ks : Nat) (ls : Array Slot), lv_has ls 4 [(0, .ref b), (1, va_rf (some x)), (2, va_rf (some y)), (3, .int (nI k))] → kc + 4001 * n ≤ 600000 ∧ ks + 70009 * n ≤ 7302250 → RR x y S S2 → gP D cy s.heap S S2 H → W p l e room_1 s m #[Value.ref b] below meth c H [] kc ks (lw_Z below #[Value.ref b] s) (F0 m 18 ls []) := by
  have hx := C.1
  have hb := C.2.1
  have hbA : ¬ (fun q => s.heap.size ≤ q) b := Nat.not_le.mpr hbl
  obtain ⟨hz, htg, hini, h_step, h_wipe, h_run, h_end, h_result, h_kind, h_cause, h_out, h_finished, h_depth, h_status, h_number, h_hand, h_mark, h_size, h_value, h_grid⟩ := hpl
  intro n
  induction n with
  | zero =>
    intro k h1 h2 x y S S2 H kc ks ls hl hk hR hP
    refine lv_iload_n hx hb dL_law_18 rfl (lv_at hl 3 rfl) ?_
    refine lv_aload_n hx hb dL_law_19 rfl (lv_at hl 0 rfl) ?_
    refine va_slen hx hb hX hbl hbA hP.2.2.2.2.2 dL_law_20 ?_
    refine lv_iconst (v := 5) hx hb dL_law_21 (by decide) ?_
    refine lv_isub hx hb dL_law_22 ?_
    refine lv_icmp_gt (tgt := 548) hx hb dL_law_23 (by decide) (fun _ => ?_) (fun c1 => ?_)
    · refine lv_iconst (v := 1) hx hb dL_law_548 (by decide) ?_
      refine W.widen (k := 600000) (n := 7302250) (by omega) (by omega) ?_
      exact lw_ret C.1 C.2.1 hret C.2.2.2.2.2.1 dL_law_549
    · exact absurd (law_c (L := L) (k := k) (by omega) (by omega) c1) (by omega)
  | succ n ih =>
    intro k h1 h2 x y S S2 H kc ks ls hl hk hR hP
    refine lv_iload_n hx hb dL_law_18 rfl (lv_at hl 3 rfl) ?_
    refine lv_aload_n hx hb dL_law_19 rfl (lv_at hl 0 rfl) ?_
    refine va_slen hx hb hX hbl hbA hP.2.2.2.2.2 dL_law_20 ?_
    refine lv_iconst (v := 5) hx hb dL_law_21 (by decide) ?_
    refine lv_isub hx hb dL_law_22 ?_
    refine lv_icmp_gt (tgt := 548) hx hb dL_law_23 (by decide) (fun _ => ?_) (fun c1 => ?_)
    · refine lv_iconst (v := 1) hx hb dL_law_548 (by decide) ?_
      refine W.widen (k := 600000) (n := 7302250) (by omega) (by omega) ?_
      exact lw_ret C.1 C.2.1 hret C.2.2.2.2.2.1 dL_law_549
    · have hkL := law_c (L := L) (k := k) (by omega) (by omega) c1
      have h_0 : vp_in (nI k) L := vp_in_nI (by omega) (by omega)
      have h_1 : vp_in (nI k + 1) L := by rw [nI_1]; exact vp_in_nI (by omega) (by omega)
      have h_2 : vp_in (nI k + 2) L := by rw [show (2 : Int32) = nI 2 from rfl, nI_add]; exact vp_in_nI (by omega) (by omega)
      have h_3 : vp_in (nI k + 3) L := by rw [show (3 : Int32) = nI 3 from rfl, nI_add]; exact vp_in_nI (by omega) (by omega)
      have h_4 : vp_in (nI k + 4) L := by rw [show (4 : Int32) = nI 4 from rfl, nI_add]; exact vp_in_nI (by omega) (by omega)
      refine lv_aload_n hx hb dL_law_26 rfl (lv_at hl 0 rfl) ?_
      refine lv_iload_n hx hb dL_law_27 rfl (lv_at hl 3 rfl) ?_
      refine va_sld hx hb hX hbl hbA hP.2.2.2.2.2 h_0 dL_law_28 ?_
      refine lv_bipush (v := 31) hx hb dL_law_29 (by decide) ?_
      refine lv_iand hx hb dL_law_31 ?_
      refine lv_topi (fun z ez => ?_)
      have kk : ∀ (S S2 : Sg) (H : Heap) (dc ds : Nat), dc ≤ 4001 → ds ≤ 70009 → RR x y S S2 → gP D cy s.heap S S2 H → W p l e room_1 s m #[Value.ref b] below meth c H [] (kc + dc + 0) (ks + ds + 0) (lw_Z below #[Value.ref b] s) (F0 m 542 ls []) := by
        intro S S2 H dc ds hd1 hd2 hR hP
        refine lv_iinc (v := nI (k + 5)) (lv' := [(3, .int (nI (k + 5))), (0, .ref b), (1, va_rf (some x)), (2, va_rf (some y))]) hx hb dL_law_542 hl (k := 3) rfl (by rw [show Int32.ofInt 5 = nI 5 from rfl, nI_add]) (by decide) rfl (fun ls hl => ?_)
        refine lv_goto (tgt := 18) hx hb dL_law_545 (by decide) ?_
        refine W.widen (k := kc + 4001) (n := ks + 70009) (by omega) (by omega) ?_
        exact ih (k + 5) (by omega) (by omega) x y S S2 H _ _ ls (lv_sub hl [1, 2, 3, 0] rfl) ⟨by omega, by omega⟩ hR hP
      by_cases c_0 : z = (0 : Int32)
      · refine lv_tableIn (off := 84) (tgt := 116) hx hb dL_law_32 (by rw [c_0]; decide) (by rw [c_0]; decide) (by rw [c_0]; rfl) (by decide) ?_
        exact law_step @hz h_step C hX hbl hbA h_1 h_2 h_3 h_4 hl ⟨by omega, by omega⟩ (htg hR) hR hP kk
      by_cases c_1 : z = (1 : Int32)
      · refine lv_tableIn (off := 137) (tgt := 169) hx hb dL_law_32 (by rw [c_1]; decide) (by rw [c_1]; decide) (by rw [c_1]; rfl) (by decide) ?_
        exact law_wipe @hz h_wipe C hX hbl hbA h_1 h_2 h_3 h_4 hl ⟨by omega, by omega⟩ (htg hR) hR hP kk
      by_cases c_2 : z = (2 : Int32)
      · refine lv_tableIn (off := 150) (tgt := 182) hx hb dL_law_32 (by rw [c_2]; decide) (by rw [c_2]; decide) (by rw [c_2]; rfl) (by decide) ?_
        exact law_run @hz h_run C hX hbl hbA h_1 h_2 h_3 h_4 hl ⟨by omega, by omega⟩ (htg hR) hR hP kk
      by_cases c_3 : z = (3 : Int32)
      · refine lv_tableIn (off := 183) (tgt := 215) hx hb dL_law_32 (by rw [c_3]; decide) (by rw [c_3]; decide) (by rw [c_3]; rfl) (by decide) ?_
        exact law_end @hz h_end C hX hbl hbA h_1 h_2 h_3 h_4 hl ⟨by omega, by omega⟩ (htg hR) hR hP kk
      by_cases c_4 : z = (4 : Int32)
      · refine lv_tableIn (off := 196) (tgt := 228) hx hb dL_law_32 (by rw [c_4]; decide) (by rw [c_4]; decide) (by rw [c_4]; rfl) (by decide) ?_
        exact law_result @hz h_result C hX hbl hbA h_1 h_2 h_3 h_4 hl ⟨by omega, by omega⟩ (htg hR) hR hP kk
      by_cases c_5 : z = (5 : Int32)
      · refine lv_tableIn (off := 210) (tgt := 242) hx hb dL_law_32 (by rw [c_5]; decide) (by rw [c_5]; decide) (by rw [c_5]; rfl) (by decide) ?_
        exact law_kind @hz h_kind C hX hbl hbA h_1 h_2 h_3 h_4 hl ⟨by omega, by omega⟩ (htg hR) hR hP kk
      by_cases c_6 : z = (6 : Int32)
      · refine lv_tableIn (off := 223) (tgt := 255) hx hb dL_law_32 (by rw [c_6]; decide) (by rw [c_6]; decide) (by rw [c_6]; rfl) (by decide) ?_
        exact law_cause @hz h_cause C hX hbl hbA h_1 h_2 h_3 h_4 hl ⟨by omega, by omega⟩ (htg hR) hR hP kk
      by_cases c_7 : z = (7 : Int32)
      · refine lv_tableIn (off := 246) (tgt := 278) hx hb dL_law_32 (by rw [c_7]; decide) (by rw [c_7]; decide) (by rw [c_7]; rfl) (by decide) ?_
        exact law_out @hz h_out C hX hbl hbA h_1 h_2 h_3 h_4 hl ⟨by omega, by omega⟩ (htg hR) hR hP kk
      by_cases c_8 : z = (8 : Int32)
      · refine lv_tableIn (off := 270) (tgt := 302) hx hb dL_law_32 (by rw [c_8]; decide) (by rw [c_8]; decide) (by rw [c_8]; rfl) (by decide) ?_
        exact law_finished @hz h_finished C hX hbl hbA h_1 h_2 h_3 h_4 hl ⟨by omega, by omega⟩ (htg hR) hR hP kk
      by_cases c_9 : z = (9 : Int32)
      · refine lv_tableIn (off := 293) (tgt := 325) hx hb dL_law_32 (by rw [c_9]; decide) (by rw [c_9]; decide) (by rw [c_9]; rfl) (by decide) ?_
        exact law_depth @hz h_depth C hX hbl hbA h_1 h_2 h_3 h_4 hl ⟨by omega, by omega⟩ (htg hR) hR hP kk
      by_cases c_10 : z = (10 : Int32)
      · refine lv_tableIn (off := 306) (tgt := 338) hx hb dL_law_32 (by rw [c_10]; decide) (by rw [c_10]; decide) (by rw [c_10]; rfl) (by decide) ?_
        exact law_status @hz h_status C hX hbl hbA h_1 h_2 h_3 h_4 hl ⟨by omega, by omega⟩ (htg hR) hR hP kk
      by_cases c_11 : z = (11 : Int32)
      · refine lv_tableIn (off := 329) (tgt := 361) hx hb dL_law_32 (by rw [c_11]; decide) (by rw [c_11]; decide) (by rw [c_11]; rfl) (by decide) ?_
        exact law_number @hz h_number C hX hbl hbA h_1 h_2 h_3 h_4 hl ⟨by omega, by omega⟩ (htg hR) hR hP kk
      by_cases c_12 : z = (12 : Int32)
      · refine lv_tableIn (off := 353) (tgt := 385) hx hb dL_law_32 (by rw [c_12]; decide) (by rw [c_12]; decide) (by rw [c_12]; rfl) (by decide) ?_
        exact law_hand @hz h_hand C hX hbl hbA h_1 h_2 h_3 h_4 hl ⟨by omega, by omega⟩ (htg hR) hR hP kk
      by_cases c_13 : z = (13 : Int32)
      · refine lv_tableIn (off := 376) (tgt := 408) hx hb dL_law_32 (by rw [c_13]; decide) (by rw [c_13]; decide) (by rw [c_13]; rfl) (by decide) ?_
        exact law_mark @hz h_mark C hX hbl hbA h_1 h_2 h_3 h_4 hl ⟨by omega, by omega⟩ (htg hR) hR hP kk
      by_cases c_14 : z = (14 : Int32)
      · refine lv_tableIn (off := 400) (tgt := 432) hx hb dL_law_32 (by rw [c_14]; decide) (by rw [c_14]; decide) (by rw [c_14]; rfl) (by decide) ?_
        exact law_size @hz h_size C hX hbl hbA h_1 h_2 h_3 h_4 hl ⟨by omega, by omega⟩ (htg hR) hR hP kk
      by_cases c_15 : z = (15 : Int32)
      · refine lv_tableIn (off := 433) (tgt := 465) hx hb dL_law_32 (by rw [c_15]; decide) (by rw [c_15]; decide) (by rw [c_15]; rfl) (by decide) ?_
        exact law_value @hz h_value C hX hbl hbA h_1 h_2 h_3 h_4 hl ⟨by omega, by omega⟩ (htg hR) hR hP kk
      by_cases c_16 : z = (16 : Int32)
      · refine lv_tableIn (off := 477) (tgt := 509) hx hb dL_law_32 (by rw [c_16]; decide) (by rw [c_16]; decide) (by rw [c_16]; rfl) (by decide) ?_
        exact law_grid @hz h_grid C hX hbl hbA h_1 h_2 h_3 h_4 hl ⟨by omega, by omega⟩ (htg hR) hR hP kk
      refine gx_tdef (n := 17) (tgt := 542) hx hb dL_law_32 (by decide) (by decide) (lt_s (lt_s (lt_s (lt_s (lt_s (lt_s (lt_s (lt_s (lt_s (lt_s (lt_s (lt_s (lt_s (lt_s (lt_s (lt_s (lt_s (lt_0) (fun hx9 => tb_ne c_0 (by decide) hx9)) (fun hx9 => tb_ne c_1 (by decide) hx9)) (fun hx9 => tb_ne c_2 (by decide) hx9)) (fun hx9 => tb_ne c_3 (by decide) hx9)) (fun hx9 => tb_ne c_4 (by decide) hx9)) (fun hx9 => tb_ne c_5 (by decide) hx9)) (fun hx9 => tb_ne c_6 (by decide) hx9)) (fun hx9 => tb_ne c_7 (by decide) hx9)) (fun hx9 => tb_ne c_8 (by decide) hx9)) (fun hx9 => tb_ne c_9 (by decide) hx9)) (fun hx9 => tb_ne c_10 (by decide) hx9)) (fun hx9 => tb_ne c_11 (by decide) hx9)) (fun hx9 => tb_ne c_12 (by decide) hx9)) (fun hx9 => tb_ne c_13 (by decide) hx9)) (fun hx9 => tb_ne c_14 (by decide) hx9)) (fun hx9 => tb_ne c_15 (by decide) hx9)) (fun hx9 => tb_ne c_16 (by decide) hx9)) ?_
      exact kk S S2 H 0 0 (by omega) (by omega) hR hP
