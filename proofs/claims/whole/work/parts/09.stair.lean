/-! TrialStair.<init> -/
def wX10_init (x0 : Nat) (S0 : Sg) (Q : Sg → Prop) : Prop := ∀ S2 : Sg, S2 = nw S0 7 0 → wX6_init (sz S0)  S2 (fun (S4 : Sg) => ∀ S5 : Sg, S5 = sFR S4 640 x0 (some (sz S0)) → ∀ S7 : Sg, S7 = nw S5 4 0 → wX3_init (sz S5)  S7 (fun (S9 : Sg) => ∀ S10 : Sg, S10 = sFR S9 641 x0 (some (sz S5)) → ∀ S12 : Sg, S12 = nw S10 5 0 → wX4_init (sz S10)  S12 (fun (S14 : Sg) => ∀ S15 : Sg, S15 = sFR S14 642 x0 (some (sz S10)) → ∀ S17 : Sg, S17 = nw S15 10 0 → wX9_init (sz S15) (fR S17 640 x0) (fR S17 641 x0) (fR S17 642 x0) S17 (fun (S19 : Sg) => ∀ S20 : Sg, S20 = sFR S19 643 x0 (some (sz S15)) → Q S20))))
set_option maxHeartbeats 4000000 in
set_option maxRecDepth 100000 in
theorem mX10_init (l : Launch) (D : va_G) (cy : Nat → ClassId) (x0 : Nat) (S0 : Sg) (Q : Sg → Prop) (t0 : tg S0 x0 = 11) (hw : wX10_init x0 S0 Q) : Met l yX10_init (.code yX10_init cX10_init 1 none :: wsL_law) { frames := 3, cells := 14, slots := 5671, locals := 68 } (gPc D cy [va_rf (some x0)] S0) (va_Qv Q (gB D cy S0) (gA S0)) 14 5671 (gA S0) := by
  refine gx_met (by decide) (Nat.le_of_ble_eq_true rfl) ?_
  intro p e s m args below meth c ls C hW hl
  have hx := C.1
  have hb := C.2.1
  have hl : lv_has ls 1 [(0, va_rf (some x0))] := hl
  unfold wX10_init at hw
  refine gx_aload_n hx hb dX10_init_0 rfl (lv_at hl 0 rfl) ?_
  refine gx_objInit C (List.mem_of_getElem? (i := 9) (by decide +kernel)) (List.mem_of_getElem? (i := 10) (by decide +kernel)) (List.mem_of_getElem? (i := 11) (by decide +kernel)) rfl hl.1 dX10_init_1 (Nat.le_of_ble_eq_true rfl) (Nat.le_of_ble_eq_true rfl) (Nat.le_of_ble_eq_true rfl) ?_
  refine gx_aload_n hx hb dX10_init_4 rfl (lv_at hl 0 rfl) ?_
  refine gx_new C hW N10_7 (Nat.le_of_ble_eq_true rfl) (Nat.le_of_ble_eq_true rfl) dX10_init_5 (fun H S2 eS2 hW hm t1 => ?_)
  have hw := hw S2 eS2
  have t0 := hm _ _ t0
  refine lv_dup hx hb dX10_init_8 (va_rf_cat _) ?_
  refine gx_cv (gx_rN C hW M10_9 C.2.2.2.2.2.2.2.1.1 (mX6_init l D cy _ _ _ t1 hw) rfl rfl ⟨Nat.le_of_ble_eq_true rfl, Nat.le_of_ble_eq_true rfl⟩ rfl rfl hl.1 rfl (gx_room0 (n := 4) (Nat.le_of_ble_eq_true rfl)) dX10_init_9 ⟨Nat.le_of_ble_eq_true rfl, Nat.le_of_ble_eq_true rfl⟩) hW (fun S4 H locs hW hm hw => ?_)
  have t0 := hm _ _ t0
  have t1 := hm _ _ t1
  refine gx_putR (k := 640) C hW F10_10 (Or.inr ⟨rfl, rfl, rfl⟩) rfl rfl t0 rfl dX10_init_12 (fun H locs S5 eS5 hW hm => ?_)
  have hw := hw S5 eS5
  have t0 := hm _ _ t0
  have t1 := hm _ _ t1
  refine gx_aload_n hx hb dX10_init_15 rfl (lv_at hl 0 rfl) ?_
  refine gx_new C hW N10_16 (Nat.le_of_ble_eq_true rfl) (Nat.le_of_ble_eq_true rfl) dX10_init_16 (fun H S7 eS7 hW hm t6 => ?_)
  have hw := hw S7 eS7
  have t0 := hm _ _ t0
  have t1 := hm _ _ t1
  refine lv_dup hx hb dX10_init_19 (va_rf_cat _) ?_
  refine gx_cv (gx_rN C hW M10_18 C.2.2.2.2.2.2.2.1.2.1 (mX3_init l D cy _ _ _ t6 hw) rfl rfl ⟨Nat.le_of_ble_eq_true rfl, Nat.le_of_ble_eq_true rfl⟩ rfl rfl hl.1 rfl (gx_room0 (n := 4) (Nat.le_of_ble_eq_true rfl)) dX10_init_20 ⟨Nat.le_of_ble_eq_true rfl, Nat.le_of_ble_eq_true rfl⟩) hW (fun S9 H locs hW hm hw => ?_)
  have t0 := hm _ _ t0
  have t1 := hm _ _ t1
  have t6 := hm _ _ t6
  refine gx_putR (k := 641) C hW F10_19 (Or.inr ⟨rfl, rfl, rfl⟩) rfl rfl t0 rfl dX10_init_23 (fun H locs S10 eS10 hW hm => ?_)
  have hw := hw S10 eS10
  have t0 := hm _ _ t0
  have t1 := hm _ _ t1
  have t6 := hm _ _ t6
  refine gx_aload_n hx hb dX10_init_26 rfl (lv_at hl 0 rfl) ?_
  refine gx_new C hW N10_23 (Nat.le_of_ble_eq_true rfl) (Nat.le_of_ble_eq_true rfl) dX10_init_27 (fun H S12 eS12 hW hm t11 => ?_)
  have hw := hw S12 eS12
  have t0 := hm _ _ t0
  have t1 := hm _ _ t1
  have t6 := hm _ _ t6
  refine lv_dup hx hb dX10_init_30 (va_rf_cat _) ?_
  refine gx_cv (gx_rN C hW M10_25 C.2.2.2.2.2.2.2.1.2.2.2.1 (mX4_init l D cy _ _ _ t11 hw) rfl rfl ⟨Nat.le_of_ble_eq_true rfl, Nat.le_of_ble_eq_true rfl⟩ rfl rfl hl.1 rfl (gx_room0 (n := 4) (Nat.le_of_ble_eq_true rfl)) dX10_init_31 ⟨Nat.le_of_ble_eq_true rfl, Nat.le_of_ble_eq_true rfl⟩) hW (fun S14 H locs hW hm hw => ?_)
  have t0 := hm _ _ t0
  have t1 := hm _ _ t1
  have t6 := hm _ _ t6
  have t11 := hm _ _ t11
  refine gx_putR (k := 642) C hW F10_26 (Or.inr ⟨rfl, rfl, rfl⟩) rfl rfl t0 rfl dX10_init_34 (fun H locs S15 eS15 hW hm => ?_)
  have hw := hw S15 eS15
  have t0 := hm _ _ t0
  have t1 := hm _ _ t1
  have t6 := hm _ _ t6
  have t11 := hm _ _ t11
  refine gx_aload_n hx hb dX10_init_37 rfl (lv_at hl 0 rfl) ?_
  refine gx_new C hW N10_30 (Nat.le_of_ble_eq_true rfl) (Nat.le_of_ble_eq_true rfl) dX10_init_38 (fun H S17 eS17 hW hm t16 => ?_)
  have hw := hw S17 eS17
  have t0 := hm _ _ t0
  have t1 := hm _ _ t1
  have t6 := hm _ _ t6
  have t11 := hm _ _ t11
  refine lv_dup hx hb dX10_init_41 (va_rf_cat _) ?_
  refine gx_aload_n hx hb dX10_init_42 rfl (lv_at hl 0 rfl) ?_
  refine gx_getR C hW F10_10 (k := 640) rfl t0 rfl dX10_init_43 ?_
  refine gx_aload_n hx hb dX10_init_46 rfl (lv_at hl 0 rfl) ?_
  refine gx_getR C hW F10_19 (k := 641) rfl t0 rfl dX10_init_47 ?_
  refine gx_aload_n hx hb dX10_init_50 rfl (lv_at hl 0 rfl) ?_
  refine gx_getR C hW F10_26 (k := 642) rfl t0 rfl dX10_init_51 ?_
  refine gx_cv (gx_rI C hW M10_32 (mX9_init l D cy _ _ _ _ _ _ t16 hw) rfl rfl ⟨Nat.le_of_ble_eq_true rfl, Nat.le_of_ble_eq_true rfl⟩ rfl rfl hl.1 rfl (gx_room0 (n := 4) (Nat.le_of_ble_eq_true rfl)) dX10_init_54 ⟨Nat.le_of_ble_eq_true rfl, Nat.le_of_ble_eq_true rfl⟩) hW (fun S19 H locs hW hm hw => ?_)
  have t0 := hm _ _ t0
  have t1 := hm _ _ t1
  have t6 := hm _ _ t6
  have t11 := hm _ _ t11
  have t16 := hm _ _ t16
  refine gx_putR (k := 643) C hW F10_35 (Or.inr ⟨rfl, rfl, rfl⟩) rfl rfl t0 rfl dX10_init_57 (fun H locs S20 eS20 hW hm => ?_)
  have hw := hw S20 eS20
  have t0 := hm _ _ t0
  have t1 := hm _ _ t1
  have t6 := hm _ _ t6
  have t11 := hm _ _ t11
  have t16 := hm _ _ t16
  exact gx_vret C hW (Nat.le_of_ble_eq_true rfl) (Nat.le_of_ble_eq_true rfl) hw dX10_init_60
/-! TrialStair.step -/
def wX10_step (x0 : Nat) (x1 : Int32) (x2 : Int32) (x3 : Int32) (x4 : Int32) (S0 : Sg) (Q : Int32 → Sg → Prop) : Prop := (if x1 < 0 then Q (-1 : Int32) S0 else (if x1 ≤ (35 : Int32) then ∃ a3 : Nat, (fR S0 640 x0) = some a3 ∧ tg S0 a3 = 7 ∧ (if (fI S0 387 a3) < (2000 : Int32) then wX6_add a3 x1 x2 x3 x4 S0 (fun (S6 : Sg) => ∃ a7 : Nat, (fR S6 640 x0) = some a7 ∧ tg S6 a7 = 7 ∧ Q (fI S6 387 a7) S6) else Q (-2 : Int32) S0) else Q (-1 : Int32) S0))
set_option maxHeartbeats 4000000 in
set_option maxRecDepth 100000 in
theorem mX10_step (l : Launch) (D : va_G) (cy : Nat → ClassId) (x0 : Nat) (x1 : Int32) (x2 : Int32) (x3 : Int32) (x4 : Int32) (S0 : Sg) (Q : Int32 → Sg → Prop) (t0 : tg S0 x0 = 11) (hw : wX10_step x0 x1 x2 x3 x4 S0 Q) : Met l yX10_step (.code yX10_step cX10_step 5 (some .int) :: wsL_law) { frames := 3, cells := 1, slots := 9, locals := 70 } (gPc D cy [va_rf (some x0), .int x1, .int x2, .int x3, .int x4] S0) (va_Qi Q (gB D cy S0) (gA S0)) 1 9 (gA S0) := by
  refine gx_met (by decide) (Nat.le_of_ble_eq_true rfl) ?_
  intro p e s m args below meth c ls C hW hl
  have hx := C.1
  have hb := C.2.1
  have hl : lv_has ls 5 [(0, va_rf (some x0)), (1, .int x1), (2, .int x2), (3, .int x3), (4, .int x4)] := hl
  unfold wX10_step at hw
  refine lv_iload_n hx hb dX10_step_0 rfl (lv_at hl 1 rfl) ?_
  refine lv_if_lt (tgt := 10) hx hb dX10_step_1 (by decide) (fun c1 => ?_) (fun c1 => ?_)
  · have hw := w_t hw c1
    refine lv_iconst (v := -1) hx hb dX10_step_10 (by decide) ?_
    exact gx_iret C hW (Nat.le_of_ble_eq_true rfl) (Nat.le_of_ble_eq_true rfl) rfl hw dX10_step_11
  · have hw := w_f hw c1
    refine lv_iload_n hx hb dX10_step_4 rfl (lv_at hl 1 rfl) ?_
    refine lv_bipush (v := 35) hx hb dX10_step_5 (by decide) ?_
    refine lv_icmp_le (tgt := 12) hx hb dX10_step_7 (by decide) (fun c2 => ?_) (fun c2 => ?_)
    · have hw := w_t hw c2
      refine gx_aload_n hx hb dX10_step_12 rfl (lv_at hl 0 rfl) ?_
      refine gx_getR C hW F10_10 (k := 640) rfl t0 rfl dX10_step_13 ?_
      obtain ⟨a3, ha3, ta3, hw⟩ := hw
      refine gx_getI C hW F10_39 (k := 387) ha3 ta3 rfl dX10_step_16 ?_
      refine lv_sipush (v := 2000) hx hb dX10_step_19 (by decide) ?_
      refine lv_icmp_lt (tgt := 28) hx hb dX10_step_22 (by decide) (fun c4 => ?_) (fun c4 => ?_)
      · have hw := w_t hw c4
        refine gx_aload_n hx hb dX10_step_28 rfl (lv_at hl 0 rfl) ?_
        refine gx_getR C hW F10_10 (k := 640) rfl t0 rfl dX10_step_29 ?_
        refine lv_iload_n hx hb dX10_step_32 rfl (lv_at hl 1 rfl) ?_
        refine lv_iload_n hx hb dX10_step_33 rfl (lv_at hl 2 rfl) ?_
        refine lv_iload_n hx hb dX10_step_34 rfl (lv_at hl 3 rfl) ?_
        refine lv_iload hx hb dX10_step_35 (lv_at hl 4 rfl) ?_
        refine gx_cv (gx_rV C hW M10_43 (mX6_add l D cy _ _ _ _ _ _ _ ta3 hw) rfl rfl ⟨Nat.le_of_ble_eq_true rfl, Nat.le_of_ble_eq_true rfl⟩ ha3 ta3 (by decide) rfl rfl hl.1 rfl (gx_room0 (n := 4) (Nat.le_of_ble_eq_true rfl)) dX10_step_37 ⟨Nat.le_of_ble_eq_true rfl, Nat.le_of_ble_eq_true rfl⟩) hW (fun S6 H locs hW hm hw => ?_)
        have t0 := hm _ _ t0
        have ta3 := hm _ _ ta3
        refine gx_aload_n hx hb dX10_step_40 rfl (lv_at hl 0 rfl) ?_
        refine gx_getR C hW F10_10 (k := 640) rfl t0 rfl dX10_step_41 ?_
        obtain ⟨a7, ha7, ta7, hw⟩ := hw
        refine gx_getI C hW F10_39 (k := 387) ha7 ta7 rfl dX10_step_44 ?_
        exact gx_iret C hW (Nat.le_of_ble_eq_true rfl) (Nat.le_of_ble_eq_true rfl) rfl hw dX10_step_47
      · have hw := w_f hw c4
        refine lv_bipush (v := -2) hx hb dX10_step_25 (by decide) ?_
        exact gx_iret C hW (Nat.le_of_ble_eq_true rfl) (Nat.le_of_ble_eq_true rfl) rfl hw dX10_step_27
    · have hw := w_f hw c2
      refine lv_iconst (v := -1) hx hb dX10_step_10 (by decide) ?_
      exact gx_iret C hW (Nat.le_of_ble_eq_true rfl) (Nat.le_of_ble_eq_true rfl) rfl hw dX10_step_11
/-! TrialStair.wipe -/
def wX10_wipe (x0 : Nat) (S0 : Sg) (Q : Int32 → Sg → Prop) : Prop := ∃ a1 : Nat, (fR S0 640 x0) = some a1 ∧ tg S0 a1 = 7 ∧ ∀ y2 : Int32, y2 = (fI S0 387 a1) → wX6_clear a1  S0 (fun (S4 : Sg) => Q y2 S4)
set_option maxHeartbeats 4000000 in
set_option maxRecDepth 100000 in
theorem mX10_wipe (l : Launch) (D : va_G) (cy : Nat → ClassId) (x0 : Nat) (S0 : Sg) (Q : Int32 → Sg → Prop) (t0 : tg S0 x0 = 11) (hw : wX10_wipe x0 S0 Q) : Met l yX10_wipe (.code yX10_wipe cX10_wipe 2 (some .int) :: wsL_law) { frames := 1, cells := 0, slots := 0, locals := 20 } (gPc D cy [va_rf (some x0)] S0) (va_Qi Q (gB D cy S0) (gA S0)) 0 0 (gA S0) := by
  refine gx_met (by decide) (Nat.le_of_ble_eq_true rfl) ?_
  intro p e s m args below meth c ls C hW hl
  have hx := C.1
  have hb := C.2.1
  have hl : lv_has ls 2 [(0, va_rf (some x0))] := hl
  unfold wX10_wipe at hw
  refine gx_aload_n hx hb dX10_wipe_0 rfl (lv_at hl 0 rfl) ?_
  refine gx_getR C hW F10_10 (k := 640) rfl t0 rfl dX10_wipe_1 ?_
  obtain ⟨a1, ha1, ta1, hw⟩ := hw
  refine gx_getI C hW F10_39 (k := 387) ha1 ta1 rfl dX10_wipe_4 ?_
  refine lv_topi (fun y2 ey2 => ?_)
  have hw := hw y2 ey2
  refine lv_istore_n (i := 1) (lv' := [(1, .int y2), (0, va_rf (some x0))]) hx hb dX10_wipe_7 rfl hl (by decide) rfl (fun ls hl => ?_)
  refine gx_aload_n hx hb dX10_wipe_8 rfl (lv_at hl 1 rfl) ?_
  refine gx_getR C hW F10_10 (k := 640) rfl t0 rfl dX10_wipe_9 ?_
  refine gx_cv (gx_rV C hW M10_47 (mX6_clear l D cy _ _ _ ta1 hw) rfl rfl ⟨Nat.le_of_ble_eq_true rfl, Nat.le_of_ble_eq_true rfl⟩ ha1 ta1 (by decide) rfl rfl hl.1 rfl (gx_room0 (n := 4) (Nat.le_of_ble_eq_true rfl)) dX10_wipe_12 ⟨Nat.le_of_ble_eq_true rfl, Nat.le_of_ble_eq_true rfl⟩) hW (fun S4 H locs hW hm hw => ?_)
  have t0 := hm _ _ t0
  have ta1 := hm _ _ ta1
  refine lv_iload_n hx hb dX10_wipe_15 rfl (lv_at hl 0 rfl) ?_
  exact gx_iret C hW (Nat.le_of_ble_eq_true rfl) (Nat.le_of_ble_eq_true rfl) rfl hw dX10_wipe_16
/-! TrialStair.run -/
def wX10_run (x0 : Nat) (x1 : Int32) (x2 : Int32) (S0 : Sg) (Q : Int32 → Sg → Prop) : Prop := ∃ a1 : Nat, (fR S0 640 x0) = some a1 ∧ tg S0 a1 = 7 ∧ wX6_hasRoutine a1 x1 S0 (fun (r2 : Int32) (S3 : Sg) => (if r2 = 0 then Q (-1 : Int32) S3 else (if x2 < (1 : Int32) then Q (-2 : Int32) S3 else (if x2 ≤ (1000 : Int32) then (if (fI S3 644 x0) ≤ ((8000 : Int32) - x2) then ∃ a8 : Nat, (fR S3 643 x0) = some a8 ∧ tg S3 a8 = 10 ∧ wX9_workRun a8 x1 x2 S3 (fun (r9 : Int32) (S10 : Sg) => ∀ S11 : Sg, S11 = sFI S10 644 x0 ((fI S10 644 x0) + r9) → ∀ S12 : Sg, S12 = sFI S11 645 x0 ((fI S11 645 x0) + (1 : Int32)) → Q r9 S12) else Q (-3 : Int32) S3) else Q (-2 : Int32) S3))))
set_option maxHeartbeats 4000000 in
set_option maxRecDepth 100000 in
theorem mX10_run (l : Launch) (D : va_G) (cy : Nat → ClassId) (x0 : Nat) (x1 : Int32) (x2 : Int32) (S0 : Sg) (Q : Int32 → Sg → Prop) (t0 : tg S0 x0 = 11) (hw : wX10_run x0 x1 x2 S0 Q) : Met l yX10_run (.code yX10_run cX10_run 4 (some .int) :: wsL_law) { frames := 7, cells := 4001, slots := 70009, locals := 155 } (gPc D cy [va_rf (some x0), .int x1, .int x2] S0) (va_Qi Q (gB D cy S0) (gA S0)) 4001 70009 (gA S0) := by
  refine gx_met (by decide) (Nat.le_of_ble_eq_true rfl) ?_
  intro p e s m args below meth c ls C hW hl
  have hx := C.1
  have hb := C.2.1
  have hl : lv_has ls 4 [(0, va_rf (some x0)), (1, .int x1), (2, .int x2)] := hl
  unfold wX10_run at hw
  refine gx_aload_n hx hb dX10_run_0 rfl (lv_at hl 0 rfl) ?_
  refine gx_getR C hW F10_10 (k := 640) rfl t0 rfl dX10_run_1 ?_
  refine lv_iload_n hx hb dX10_run_4 rfl (lv_at hl 1 rfl) ?_
  obtain ⟨a1, ha1, ta1, hw⟩ := hw
  refine gx_ci (gx_rV C hW M10_50 (mX6_hasRoutine l D cy _ _ _ _ ta1 hw) rfl rfl ⟨Nat.le_of_ble_eq_true rfl, Nat.le_of_ble_eq_true rfl⟩ ha1 ta1 (by decide) rfl rfl hl.1 rfl (gx_room0 (n := 4) (Nat.le_of_ble_eq_true rfl)) dX10_run_5 ⟨Nat.le_of_ble_eq_true rfl, Nat.le_of_ble_eq_true rfl⟩) hW (fun r2 S3 H locs hW hm hw => ?_)
  have t0 := hm _ _ t0
  have ta1 := hm _ _ ta1
  refine lv_if_ne (tgt := 13) hx hb dX10_run_8 (by decide) (fun c4 => ?_) (fun c4 => ?_)
  · have hw := w_f hw c4
    refine lv_iload_n hx hb dX10_run_13 rfl (lv_at hl 2 rfl) ?_
    refine lv_iconst (v := 1) hx hb dX10_run_14 (by decide) ?_
    refine lv_icmp_lt (tgt := 25) hx hb dX10_run_15 (by decide) (fun c5 => ?_) (fun c5 => ?_)
    · have hw := w_t hw c5
      refine lv_bipush (v := -2) hx hb dX10_run_25 (by decide) ?_
      exact gx_iret C hW (Nat.le_of_ble_eq_true rfl) (Nat.le_of_ble_eq_true rfl) rfl hw dX10_run_27
    · have hw := w_f hw c5
      refine lv_iload_n hx hb dX10_run_18 rfl (lv_at hl 2 rfl) ?_
      refine lv_sipush (v := 1000) hx hb dX10_run_19 (by decide) ?_
      refine lv_icmp_le (tgt := 28) hx hb dX10_run_22 (by decide) (fun c6 => ?_) (fun c6 => ?_)
      · have hw := w_t hw c6
        refine gx_aload_n hx hb dX10_run_28 rfl (lv_at hl 0 rfl) ?_
        refine gx_getI C hW F10_54 (k := 644) rfl t0 rfl dX10_run_29 ?_
        refine lv_sipush (v := 8000) hx hb dX10_run_32 (by decide) ?_
        refine lv_iload_n hx hb dX10_run_35 rfl (lv_at hl 2 rfl) ?_
        refine lv_isub hx hb dX10_run_36 ?_
        refine lv_icmp_le (tgt := 43) hx hb dX10_run_37 (by decide) (fun c7 => ?_) (fun c7 => ?_)
        · have hw := w_t hw c7
          refine gx_aload_n hx hb dX10_run_43 rfl (lv_at hl 0 rfl) ?_
          refine gx_getR C hW F10_35 (k := 643) rfl t0 rfl dX10_run_44 ?_
          refine lv_iload_n hx hb dX10_run_47 rfl (lv_at hl 1 rfl) ?_
          refine lv_iload_n hx hb dX10_run_48 rfl (lv_at hl 2 rfl) ?_
          obtain ⟨a8, ha8, ta8, hw⟩ := hw
          refine gx_ci (gx_rV C hW M10_57 (mX9_workRun l D cy _ _ _ _ _ ta8 hw) rfl rfl ⟨Nat.le_of_ble_eq_true rfl, Nat.le_of_ble_eq_true rfl⟩ ha8 ta8 (by decide) rfl rfl hl.1 rfl (gx_room0 (n := 4) (Nat.le_of_ble_eq_true rfl)) dX10_run_49 ⟨Nat.le_of_ble_eq_true rfl, Nat.le_of_ble_eq_true rfl⟩) hW (fun r9 S10 H locs hW hm hw => ?_)
          have t0 := hm _ _ t0
          have ta1 := hm _ _ ta1
          have ta8 := hm _ _ ta8
          refine lv_istore_n (i := 3) (lv' := [(3, .int r9), (0, va_rf (some x0)), (1, .int x1), (2, .int x2)]) hx hb dX10_run_52 rfl hl (by decide) rfl (fun ls hl => ?_)
          refine gx_aload_n hx hb dX10_run_53 rfl (lv_at hl 1 rfl) ?_
          refine lv_dup hx hb dX10_run_54 (va_rf_cat _) ?_
          refine gx_getI C hW F10_54 (k := 644) rfl t0 rfl dX10_run_55 ?_
          refine lv_iload_n hx hb dX10_run_58 rfl (lv_at hl 0 rfl) ?_
          refine lv_iadd hx hb dX10_run_59 ?_
          refine gx_putI (k := 644) C hW F10_54 (Or.inl rfl) rfl t0 rfl rfl rfl dX10_run_60 (fun H locs S11 eS11 hW hm => ?_)
          have hw := hw S11 eS11
          have t0 := hm _ _ t0
          have ta1 := hm _ _ ta1
          have ta8 := hm _ _ ta8
          refine gx_aload_n hx hb dX10_run_63 rfl (lv_at hl 1 rfl) ?_
          refine lv_dup hx hb dX10_run_64 (va_rf_cat _) ?_
          refine gx_getI C hW F10_61 (k := 645) rfl t0 rfl dX10_run_65 ?_
          refine lv_iconst (v := 1) hx hb dX10_run_68 (by decide) ?_
          refine lv_iadd hx hb dX10_run_69 ?_
          refine gx_putI (k := 645) C hW F10_61 (Or.inl rfl) rfl t0 rfl rfl rfl dX10_run_70 (fun H locs S12 eS12 hW hm => ?_)
          have hw := hw S12 eS12
          have t0 := hm _ _ t0
          have ta1 := hm _ _ ta1
          have ta8 := hm _ _ ta8
          refine lv_iload_n hx hb dX10_run_73 rfl (lv_at hl 0 rfl) ?_
          exact gx_iret C hW (Nat.le_of_ble_eq_true rfl) (Nat.le_of_ble_eq_true rfl) rfl hw dX10_run_74
        · have hw := w_f hw c7
          refine lv_bipush (v := -3) hx hb dX10_run_40 (by decide) ?_
          exact gx_iret C hW (Nat.le_of_ble_eq_true rfl) (Nat.le_of_ble_eq_true rfl) rfl hw dX10_run_42
      · have hw := w_f hw c6
        refine lv_bipush (v := -2) hx hb dX10_run_25 (by decide) ?_
        exact gx_iret C hW (Nat.le_of_ble_eq_true rfl) (Nat.le_of_ble_eq_true rfl) rfl hw dX10_run_27
  · have hw := w_t hw c4
    refine lv_iconst (v := -1) hx hb dX10_run_11 (by decide) ?_
    exact gx_iret C hW (Nat.le_of_ble_eq_true rfl) (Nat.le_of_ble_eq_true rfl) rfl hw dX10_run_12
/-! TrialStair.end -/
def wX10_end (x0 : Nat) (S0 : Sg) (Q : Int32 → Sg → Prop) : Prop := ∃ a1 : Nat, (fR S0 642 x0) = some a1 ∧ tg S0 a1 = 5 ∧ Q (fI S0 258 a1) S0
set_option maxHeartbeats 4000000 in
set_option maxRecDepth 100000 in
theorem mX10_end (l : Launch) (D : va_G) (cy : Nat → ClassId) (x0 : Nat) (S0 : Sg) (Q : Int32 → Sg → Prop) (t0 : tg S0 x0 = 11) (hw : wX10_end x0 S0 Q) : Met l yX10_end (.code yX10_end cX10_end 1 (some .int) :: wsL_law) { frames := 0, cells := 0, slots := 0, locals := 0 } (gPc D cy [va_rf (some x0)] S0) (va_Qi Q (gB D cy S0) (gA S0)) 0 0 (gA S0) := by
  refine gx_met (by decide) (Nat.le_of_ble_eq_true rfl) ?_
  intro p e s m args below meth c ls C hW hl
  have hx := C.1
  have hb := C.2.1
  have hl : lv_has ls 1 [(0, va_rf (some x0))] := hl
  unfold wX10_end at hw
  refine gx_aload_n hx hb dX10_end_0 rfl (lv_at hl 0 rfl) ?_
  refine gx_getR C hW F10_26 (k := 642) rfl t0 rfl dX10_end_1 ?_
  obtain ⟨a1, ha1, ta1, hw⟩ := hw
  refine gx_getI C hW F10_64 (k := 258) ha1 ta1 rfl dX10_end_4 ?_
  exact gx_iret C hW (Nat.le_of_ble_eq_true rfl) (Nat.le_of_ble_eq_true rfl) rfl hw dX10_end_7
/-! TrialStair.result -/
def wX10_result (x0 : Nat) (S0 : Sg) (Q : Int64 → Sg → Prop) : Prop := ∃ a1 : Nat, (fR S0 642 x0) = some a1 ∧ tg S0 a1 = 5 ∧ Q (fL S0 259 a1) S0
set_option maxHeartbeats 4000000 in
set_option maxRecDepth 100000 in
theorem mX10_result (l : Launch) (D : va_G) (cy : Nat → ClassId) (x0 : Nat) (S0 : Sg) (Q : Int64 → Sg → Prop) (t0 : tg S0 x0 = 11) (hw : wX10_result x0 S0 Q) : Met l yX10_result (.code yX10_result cX10_result 1 (some .long) :: wsL_law) { frames := 0, cells := 0, slots := 0, locals := 0 } (gPc D cy [va_rf (some x0)] S0) (va_Ql Q (gB D cy S0) (gA S0)) 0 0 (gA S0) := by
  refine gx_met (by decide) (Nat.le_of_ble_eq_true rfl) ?_
  intro p e s m args below meth c ls C hW hl
  have hx := C.1
  have hb := C.2.1
  have hl : lv_has ls 1 [(0, va_rf (some x0))] := hl
  unfold wX10_result at hw
  refine gx_aload_n hx hb dX10_result_0 rfl (lv_at hl 0 rfl) ?_
  refine gx_getR C hW F10_26 (k := 642) rfl t0 rfl dX10_result_1 ?_
  obtain ⟨a1, ha1, ta1, hw⟩ := hw
  refine gx_getL C hW F10_67 (k := 259) ha1 ta1 rfl dX10_result_4 ?_
  exact gx_lret C hW (Nat.le_of_ble_eq_true rfl) (Nat.le_of_ble_eq_true rfl) hw dX10_result_7
/-! TrialStair.kind -/
def wX10_kind (x0 : Nat) (S0 : Sg) (Q : Int32 → Sg → Prop) : Prop := ∃ a1 : Nat, (fR S0 642 x0) = some a1 ∧ tg S0 a1 = 5 ∧ (if (fR S0 260 a1) = none then Q (-1 : Int32) S0 else ∃ a3 : Nat, (fR S0 260 a1) = some a3 ∧ tg S0 a3 = 1 ∧ Q (fI S0 0 a3) S0)
set_option maxHeartbeats 4000000 in
set_option maxRecDepth 100000 in
theorem mX10_kind (l : Launch) (D : va_G) (cy : Nat → ClassId) (x0 : Nat) (S0 : Sg) (Q : Int32 → Sg → Prop) (t0 : tg S0 x0 = 11) (hw : wX10_kind x0 S0 Q) : Met l yX10_kind (.code yX10_kind cX10_kind 1 (some .int) :: wsL_law) { frames := 0, cells := 0, slots := 0, locals := 0 } (gPc D cy [va_rf (some x0)] S0) (va_Qi Q (gB D cy S0) (gA S0)) 0 0 (gA S0) := by
  refine gx_met (by decide) (Nat.le_of_ble_eq_true rfl) ?_
  intro p e s m args below meth c ls C hW hl
  have hx := C.1
  have hb := C.2.1
  have hl : lv_has ls 1 [(0, va_rf (some x0))] := hl
  unfold wX10_kind at hw
  refine gx_aload_n hx hb dX10_kind_0 rfl (lv_at hl 0 rfl) ?_
  refine gx_getR C hW F10_26 (k := 642) rfl t0 rfl dX10_kind_1 ?_
  obtain ⟨a1, ha1, ta1, hw⟩ := hw
  refine gx_getR C hW F10_71 (k := 260) ha1 ta1 rfl dX10_kind_4 ?_
  refine gx_ifnonnull (tgt := 14) hx hb dX10_kind_7 (by decide) (fun c2 => ?_) (fun c2 => ?_)
  · have hw := w_f hw c2
    refine gx_aload_n hx hb dX10_kind_14 rfl (lv_at hl 0 rfl) ?_
    refine gx_getR C hW F10_26 (k := 642) rfl t0 rfl dX10_kind_15 ?_
    refine gx_getR C hW F10_71 (k := 260) ha1 ta1 rfl dX10_kind_18 ?_
    obtain ⟨a3, ha3, ta3, hw⟩ := hw
    refine gx_getI C hW F10_75 (k := 0) ha3 ta3 rfl dX10_kind_21 ?_
    exact gx_iret C hW (Nat.le_of_ble_eq_true rfl) (Nat.le_of_ble_eq_true rfl) rfl hw dX10_kind_24
  · have hw := w_t hw c2
    refine lv_iconst (v := -1) hx hb dX10_kind_10 (by decide) ?_
    refine lv_goto (tgt := 24) hx hb dX10_kind_11 (by decide) ?_
    exact gx_iret C hW (Nat.le_of_ble_eq_true rfl) (Nat.le_of_ble_eq_true rfl) rfl hw dX10_kind_24
/-! TrialStair.cause -/
def wX10_cause_b29 : Nat → (Nat) → (Int32) → (Option Nat) → (Int32) → Sg → (Int32 → Sg → Prop) → Prop
  | 0, _, _, _, _, _, _ => False
  | fu + 1, x0, x1, x2, x3, S, Q => (if x1 ≤ x3 then (if x2 = none then Q (-1 : Int32) S else ∃ a8 : Nat, x2 = some a8 ∧ tg S a8 = 1 ∧ Q (fI S 0 a8) S) else (if x2 = none then (if x2 = none then Q (-1 : Int32) S else ∃ a11 : Nat, x2 = some a11 ∧ tg S a11 = 1 ∧ Q (fI S 0 a11) S) else ∃ a12 : Nat, x2 = some a12 ∧ tg S a12 = 1 ∧ ∀ y13 : Option Nat, y13 = (fR S 1 a12) → ∀ y14 : Int32, y14 = x3 + (1) → wX10_cause_b29 fu x0 x1 y13 y14 S Q))
def wX10_cause (x0 : Nat) (x1 : Int32) (S0 : Sg) (Q : Int32 → Sg → Prop) : Prop := (if x1 < 0 then Q (-1 : Int32) S0 else ∃ a2 : Nat, (fR S0 642 x0) = some a2 ∧ tg S0 a2 = 5 ∧ (if (fR S0 260 a2) = none then Q (-1 : Int32) S0 else ∃ a4 : Nat, (fR S0 260 a2) = some a4 ∧ tg S0 a4 = 1 ∧ ∀ y5 : Option Nat, y5 = (fR S0 1 a4) → ∃ fu15 : Nat, wX10_cause_b29 fu15 x0 x1 y5 (0 : Int32) S0 Q))
set_option maxHeartbeats 4000000 in
set_option maxRecDepth 100000 in
theorem kX10_cause_l29 {p : Program} {l : Launch} {e : Env} {s : State} {m : MethodId} {args : Array Value} {below : List Frame} {meth : Method} {c : Code} {D : va_G} {cy : Nat → ClassId} {S0 : Sg} (C : gC p s m args meth c D cy cX10_cause 4 yX10_cause.cls (some .int) yX10_cause.name) {x0 : Nat} {Q : Int32 → Sg → Prop} : ∀ (fu : Nat) (x1 : Int32) (x2 : Option Nat) (x3 : Int32) (S : Sg) (H : Heap) (locs : List Loc) (ls : Array Slot) (hW : gW D cy (gA S0) (tg S0) s.heap S H locs) (t0 : tg S x0 = 11) (hl : lv_has ls 4 [(0, va_rf (some x0)), (1, .int x1), (2, va_rf x2), (3, .int x3)]) (hw : wX10_cause_b29 fu x0 x1 x2 x3 S Q), W p l e { frames := 0, cells := 0, slots := 0, locals := 0 } s m args below meth c H locs 0 0 (MQ below (va_Qi Q (gB D cy S0) (gA S0)) args s 0 0 (gA S0)) (F0 m 29 ls []) := by
  have hx := C.1
  have hb := C.2.1
  intro fu
  induction fu with
  | zero =>
    intro x1 x2 x3 S H locs ls hW t0 hl hw
    unfold wX10_cause_b29 at hw
    exact hw.elim
  | succ fu ih =>
    intro x1 x2 x3 S H locs ls hW t0 hl hw
    unfold wX10_cause_b29 at hw
    refine lv_iload_n hx hb dX10_cause_29 rfl (lv_at hl 3 rfl) ?_
    refine lv_iload_n hx hb dX10_cause_30 rfl (lv_at hl 1 rfl) ?_
    refine lv_icmp_ge (tgt := 49) hx hb dX10_cause_31 (by decide) (fun c6 => ?_) (fun c6 => ?_)
    · have hw := w_t hw c6
      refine gx_aload_n hx hb dX10_cause_49 rfl (lv_at hl 2 rfl) ?_
      refine gx_ifnonnull (tgt := 57) hx hb dX10_cause_50 (by decide) (fun c7 => ?_) (fun c7 => ?_)
      · have hw := w_f hw c7
        refine gx_aload_n hx hb dX10_cause_57 rfl (lv_at hl 2 rfl) ?_
        obtain ⟨a8, ha8, ta8, hw⟩ := hw
        refine gx_getI C hW F10_75 (k := 0) ha8 ta8 rfl dX10_cause_58 ?_
        exact gx_iret C hW (Nat.le_of_ble_eq_true rfl) (Nat.le_of_ble_eq_true rfl) rfl hw dX10_cause_61
      · have hw := w_t hw c7
        refine lv_iconst (v := -1) hx hb dX10_cause_53 (by decide) ?_
        refine lv_goto (tgt := 61) hx hb dX10_cause_54 (by decide) ?_
        exact gx_iret C hW (Nat.le_of_ble_eq_true rfl) (Nat.le_of_ble_eq_true rfl) rfl hw dX10_cause_61
    · have hw := w_f hw c6
      refine gx_aload_n hx hb dX10_cause_34 rfl (lv_at hl 2 rfl) ?_
      refine gx_ifnull (tgt := 49) hx hb dX10_cause_35 (by decide) (fun c9 => ?_) (fun c9 => ?_)
      · have hw := w_t hw c9
        refine gx_aload_n hx hb dX10_cause_49 rfl (lv_at hl 2 rfl) ?_
        refine gx_ifnonnull (tgt := 57) hx hb dX10_cause_50 (by decide) (fun c10 => ?_) (fun c10 => ?_)
        · have hw := w_f hw c10
          refine gx_aload_n hx hb dX10_cause_57 rfl (lv_at hl 2 rfl) ?_
          obtain ⟨a11, ha11, ta11, hw⟩ := hw
          refine gx_getI C hW F10_75 (k := 0) ha11 ta11 rfl dX10_cause_58 ?_
          exact gx_iret C hW (Nat.le_of_ble_eq_true rfl) (Nat.le_of_ble_eq_true rfl) rfl hw dX10_cause_61
        · have hw := w_t hw c10
          refine lv_iconst (v := -1) hx hb dX10_cause_53 (by decide) ?_
          refine lv_goto (tgt := 61) hx hb dX10_cause_54 (by decide) ?_
          exact gx_iret C hW (Nat.le_of_ble_eq_true rfl) (Nat.le_of_ble_eq_true rfl) rfl hw dX10_cause_61
      · have hw := w_f hw c9
        refine gx_aload_n hx hb dX10_cause_38 rfl (lv_at hl 2 rfl) ?_
        obtain ⟨a12, ha12, ta12, hw⟩ := hw
        refine gx_getR C hW F10_80 (k := 1) ha12 ta12 rfl dX10_cause_39 ?_
        refine gx_topr (fun y13 ey13 => ?_)
        have hw := hw y13 ey13
        refine gx_astore_n (i := 2) (lv' := [(2, va_rf y13), (0, va_rf (some x0)), (1, .int x1), (3, .int x3)]) hx hb dX10_cause_42 rfl hl (by decide) rfl (fun ls hl => ?_)
        obtain ⟨y14, ey14⟩ : ∃ z : Int32, z = x3 + (1) := ⟨_, rfl⟩
        have hw := hw y14 ey14
        refine lv_iinc (v := y14) (lv' := [(3, .int y14), (2, va_rf y13), (0, va_rf (some x0)), (1, .int x1)]) hx hb dX10_cause_43 hl (k := 3) rfl (by rw [ey14]; rfl) (by decide) (by simp [List.filter, va_rf_cat, cat_i, cat_l]) (fun ls hl => ?_)
        refine lv_goto (tgt := 29) hx hb dX10_cause_46 (by decide) ?_
        exact ih _ _ _ _ _ _ _ hW t0 (lv_sub hl [2, 3, 1, 0] rfl) hw
theorem kX10_cause_b29 {p : Program} {l : Launch} {e : Env} {s : State} {m : MethodId} {args : Array Value} {below : List Frame} {meth : Method} {c : Code} {D : va_G} {cy : Nat → ClassId} {S0 : Sg} (C : gC p s m args meth c D cy cX10_cause 4 yX10_cause.cls (some .int) yX10_cause.name) {H : Heap} {locs : List Loc} {ls : Array Slot} {x0 : Nat} {x1 : Int32} {x2 : Option Nat} {x3 : Int32} {S : Sg} {Q : Int32 → Sg → Prop} (fu : Nat) (hW : gW D cy (gA S0) (tg S0) s.heap S H locs) (t0 : tg S x0 = 11) (hl : lv_has ls 4 [(0, va_rf (some x0)), (1, .int x1), (2, va_rf x2), (3, .int x3)]) (hw : wX10_cause_b29 fu x0 x1 x2 x3 S Q) : W p l e { frames := 0, cells := 0, slots := 0, locals := 0 } s m args below meth c H locs 0 0 (MQ below (va_Qi Q (gB D cy S0) (gA S0)) args s 0 0 (gA S0)) (F0 m 29 ls []) := kX10_cause_l29 C fu _ _ _ _ _ _ _ hW t0 hl hw
set_option maxHeartbeats 4000000 in
set_option maxRecDepth 100000 in
theorem mX10_cause (l : Launch) (D : va_G) (cy : Nat → ClassId) (x0 : Nat) (x1 : Int32) (S0 : Sg) (Q : Int32 → Sg → Prop) (t0 : tg S0 x0 = 11) (hw : wX10_cause x0 x1 S0 Q) : Met l yX10_cause (.code yX10_cause cX10_cause 4 (some .int) :: wsL_law) { frames := 0, cells := 0, slots := 0, locals := 0 } (gPc D cy [va_rf (some x0), .int x1] S0) (va_Qi Q (gB D cy S0) (gA S0)) 0 0 (gA S0) := by
  refine gx_met (by decide) (Nat.le_of_ble_eq_true rfl) ?_
  intro p e s m args below meth c ls C hW hl
  have hx := C.1
  have hb := C.2.1
  have hl : lv_has ls 4 [(0, va_rf (some x0)), (1, .int x1)] := hl
  unfold wX10_cause at hw
  refine lv_iload_n hx hb dX10_cause_0 rfl (lv_at hl 1 rfl) ?_
  refine lv_if_lt (tgt := 14) hx hb dX10_cause_1 (by decide) (fun c1 => ?_) (fun c1 => ?_)
  · have hw := w_t hw c1
    refine lv_iconst (v := -1) hx hb dX10_cause_14 (by decide) ?_
    exact gx_iret C hW (Nat.le_of_ble_eq_true rfl) (Nat.le_of_ble_eq_true rfl) rfl hw dX10_cause_15
  · have hw := w_f hw c1
    refine gx_aload_n hx hb dX10_cause_4 rfl (lv_at hl 0 rfl) ?_
    refine gx_getR C hW F10_26 (k := 642) rfl t0 rfl dX10_cause_5 ?_
    obtain ⟨a2, ha2, ta2, hw⟩ := hw
    refine gx_getR C hW F10_71 (k := 260) ha2 ta2 rfl dX10_cause_8 ?_
    refine gx_ifnonnull (tgt := 16) hx hb dX10_cause_11 (by decide) (fun c3 => ?_) (fun c3 => ?_)
    · have hw := w_f hw c3
      refine gx_aload_n hx hb dX10_cause_16 rfl (lv_at hl 0 rfl) ?_
      refine gx_getR C hW F10_26 (k := 642) rfl t0 rfl dX10_cause_17 ?_
      refine gx_getR C hW F10_71 (k := 260) ha2 ta2 rfl dX10_cause_20 ?_
      obtain ⟨a4, ha4, ta4, hw⟩ := hw
      refine gx_getR C hW F10_80 (k := 1) ha4 ta4 rfl dX10_cause_23 ?_
      refine gx_topr (fun y5 ey5 => ?_)
      have hw := hw y5 ey5
      refine gx_astore_n (i := 2) (lv' := [(2, va_rf y5), (0, va_rf (some x0)), (1, .int x1)]) hx hb dX10_cause_26 rfl hl (by decide) rfl (fun ls hl => ?_)
      refine lv_iconst (v := 0) hx hb dX10_cause_27 (by decide) ?_
      refine lv_istore_n (i := 3) (lv' := [(3, .int (0 : Int32)), (2, va_rf y5), (0, va_rf (some x0)), (1, .int x1)]) hx hb dX10_cause_28 rfl hl (by decide) (by simp [List.filter, va_rf_cat, cat_i, cat_l]) (fun ls hl => ?_)
      obtain ⟨fu15, hw⟩ := hw
      exact kX10_cause_b29 C fu15 hW t0 (lv_sub hl [2, 3, 1, 0] rfl) hw
    · have hw := w_t hw c3
      refine lv_iconst (v := -1) hx hb dX10_cause_14 (by decide) ?_
      exact gx_iret C hW (Nat.le_of_ble_eq_true rfl) (Nat.le_of_ble_eq_true rfl) rfl hw dX10_cause_15
/-! TrialStair.out -/
def wX10_out (x0 : Nat) (x1 : Int32) (S0 : Sg) (Q : Int64 → Sg → Prop) : Prop := (if x1 < 0 then Q (0 : Int64) S0 else ∃ a2 : Nat, (fR S0 642 x0) = some a2 ∧ tg S0 a2 = 5 ∧ (if (fI S0 261 a2) ≤ x1 then Q (0 : Int64) S0 else (if (500 : Int32) ≤ x1 then Q (0 : Int64) S0 else ∃ a5 : Nat, (fR S0 256 a2) = some a5 ∧ tg S0 a5 = 14 ∧ vp_in x1 (ln S0 a5) ∧ Q (aL S0 a5 (x1).toNatClampNeg) S0)))
set_option maxHeartbeats 4000000 in
set_option maxRecDepth 100000 in
theorem mX10_out (l : Launch) (D : va_G) (cy : Nat → ClassId) (x0 : Nat) (x1 : Int32) (S0 : Sg) (Q : Int64 → Sg → Prop) (t0 : tg S0 x0 = 11) (hw : wX10_out x0 x1 S0 Q) : Met l yX10_out (.code yX10_out cX10_out 2 (some .long) :: wsL_law) { frames := 0, cells := 0, slots := 0, locals := 0 } (gPc D cy [va_rf (some x0), .int x1] S0) (va_Ql Q (gB D cy S0) (gA S0)) 0 0 (gA S0) := by
  refine gx_met (by decide) (Nat.le_of_ble_eq_true rfl) ?_
  intro p e s m args below meth c ls C hW hl
  have hx := C.1
  have hb := C.2.1
  have hl : lv_has ls 2 [(0, va_rf (some x0)), (1, .int x1)] := hl
  unfold wX10_out at hw
  refine lv_iload_n hx hb dX10_out_0 rfl (lv_at hl 1 rfl) ?_
  refine lv_if_lt (tgt := 34) hx hb dX10_out_1 (by decide) (fun c1 => ?_) (fun c1 => ?_)
  · have hw := w_t hw c1
    refine lv_lconst (v := 0) hx hb dX10_out_34 (by decide) ?_
    exact gx_lret C hW (Nat.le_of_ble_eq_true rfl) (Nat.le_of_ble_eq_true rfl) hw dX10_out_35
  · have hw := w_f hw c1
    refine lv_iload_n hx hb dX10_out_4 rfl (lv_at hl 1 rfl) ?_
    refine gx_aload_n hx hb dX10_out_5 rfl (lv_at hl 0 rfl) ?_
    refine gx_getR C hW F10_26 (k := 642) rfl t0 rfl dX10_out_6 ?_
    obtain ⟨a2, ha2, ta2, hw⟩ := hw
    refine gx_getI C hW F10_83 (k := 261) ha2 ta2 rfl dX10_out_9 ?_
    refine lv_icmp_ge (tgt := 34) hx hb dX10_out_12 (by decide) (fun c3 => ?_) (fun c3 => ?_)
    · have hw := w_t hw c3
      refine lv_lconst (v := 0) hx hb dX10_out_34 (by decide) ?_
      exact gx_lret C hW (Nat.le_of_ble_eq_true rfl) (Nat.le_of_ble_eq_true rfl) hw dX10_out_35
    · have hw := w_f hw c3
      refine lv_iload_n hx hb dX10_out_15 rfl (lv_at hl 1 rfl) ?_
      refine lv_sipush (v := 500) hx hb dX10_out_16 (by decide) ?_
      refine lv_icmp_ge (tgt := 34) hx hb dX10_out_19 (by decide) (fun c4 => ?_) (fun c4 => ?_)
      · have hw := w_t hw c4
        refine lv_lconst (v := 0) hx hb dX10_out_34 (by decide) ?_
        exact gx_lret C hW (Nat.le_of_ble_eq_true rfl) (Nat.le_of_ble_eq_true rfl) hw dX10_out_35
      · have hw := w_f hw c4
        refine gx_aload_n hx hb dX10_out_22 rfl (lv_at hl 0 rfl) ?_
        refine gx_getR C hW F10_26 (k := 642) rfl t0 rfl dX10_out_23 ?_
        refine gx_getR C hW F10_86 (k := 256) ha2 ta2 rfl dX10_out_26 ?_
        refine lv_iload_n hx hb dX10_out_29 rfl (lv_at hl 1 rfl) ?_
        obtain ⟨a5, ha5, ta5, hw⟩ := hw
        obtain ⟨i6, hw⟩ := hw
        refine gx_lald C hW ha5 ta5 i6 dX10_out_30 ?_
        refine lv_goto (tgt := 35) hx hb dX10_out_31 (by decide) ?_
        exact gx_lret C hW (Nat.le_of_ble_eq_true rfl) (Nat.le_of_ble_eq_true rfl) hw dX10_out_35
/-! TrialStair.finished -/
def wX10_finished (x0 : Nat) (x1 : Int32) (S0 : Sg) (Q : Int32 → Sg → Prop) : Prop := (if x1 < 0 then Q (-1 : Int32) S0 else ∃ a2 : Nat, (fR S0 642 x0) = some a2 ∧ tg S0 a2 = 5 ∧ (if (fI S0 262 a2) ≤ x1 then Q (-1 : Int32) S0 else (if (1000 : Int32) ≤ x1 then Q (-1 : Int32) S0 else ∃ a5 : Nat, (fR S0 257 a2) = some a5 ∧ tg S0 a5 = 13 ∧ vp_in x1 (ln S0 a5) ∧ Q (aI S0 a5 (x1).toNatClampNeg) S0)))
set_option maxHeartbeats 4000000 in
set_option maxRecDepth 100000 in
theorem mX10_finished (l : Launch) (D : va_G) (cy : Nat → ClassId) (x0 : Nat) (x1 : Int32) (S0 : Sg) (Q : Int32 → Sg → Prop) (t0 : tg S0 x0 = 11) (hw : wX10_finished x0 x1 S0 Q) : Met l yX10_finished (.code yX10_finished cX10_finished 2 (some .int) :: wsL_law) { frames := 0, cells := 0, slots := 0, locals := 0 } (gPc D cy [va_rf (some x0), .int x1] S0) (va_Qi Q (gB D cy S0) (gA S0)) 0 0 (gA S0) := by
  refine gx_met (by decide) (Nat.le_of_ble_eq_true rfl) ?_
  intro p e s m args below meth c ls C hW hl
  have hx := C.1
  have hb := C.2.1
  have hl : lv_has ls 2 [(0, va_rf (some x0)), (1, .int x1)] := hl
  unfold wX10_finished at hw
  refine lv_iload_n hx hb dX10_finished_0 rfl (lv_at hl 1 rfl) ?_
  refine lv_if_lt (tgt := 34) hx hb dX10_finished_1 (by decide) (fun c1 => ?_) (fun c1 => ?_)
  · have hw := w_t hw c1
    refine lv_iconst (v := -1) hx hb dX10_finished_34 (by decide) ?_
    exact gx_iret C hW (Nat.le_of_ble_eq_true rfl) (Nat.le_of_ble_eq_true rfl) rfl hw dX10_finished_35
  · have hw := w_f hw c1
    refine lv_iload_n hx hb dX10_finished_4 rfl (lv_at hl 1 rfl) ?_
    refine gx_aload_n hx hb dX10_finished_5 rfl (lv_at hl 0 rfl) ?_
    refine gx_getR C hW F10_26 (k := 642) rfl t0 rfl dX10_finished_6 ?_
    obtain ⟨a2, ha2, ta2, hw⟩ := hw
    refine gx_getI C hW F10_90 (k := 262) ha2 ta2 rfl dX10_finished_9 ?_
    refine lv_icmp_ge (tgt := 34) hx hb dX10_finished_12 (by decide) (fun c3 => ?_) (fun c3 => ?_)
    · have hw := w_t hw c3
      refine lv_iconst (v := -1) hx hb dX10_finished_34 (by decide) ?_
      exact gx_iret C hW (Nat.le_of_ble_eq_true rfl) (Nat.le_of_ble_eq_true rfl) rfl hw dX10_finished_35
    · have hw := w_f hw c3
      refine lv_iload_n hx hb dX10_finished_15 rfl (lv_at hl 1 rfl) ?_
      refine lv_sipush (v := 1000) hx hb dX10_finished_16 (by decide) ?_
      refine lv_icmp_ge (tgt := 34) hx hb dX10_finished_19 (by decide) (fun c4 => ?_) (fun c4 => ?_)
      · have hw := w_t hw c4
        refine lv_iconst (v := -1) hx hb dX10_finished_34 (by decide) ?_
        exact gx_iret C hW (Nat.le_of_ble_eq_true rfl) (Nat.le_of_ble_eq_true rfl) rfl hw dX10_finished_35
      · have hw := w_f hw c4
        refine gx_aload_n hx hb dX10_finished_22 rfl (lv_at hl 0 rfl) ?_
        refine gx_getR C hW F10_26 (k := 642) rfl t0 rfl dX10_finished_23 ?_
        refine gx_getR C hW F10_93 (k := 257) ha2 ta2 rfl dX10_finished_26 ?_
        refine lv_iload_n hx hb dX10_finished_29 rfl (lv_at hl 1 rfl) ?_
        obtain ⟨a5, ha5, ta5, hw⟩ := hw
        obtain ⟨i6, hw⟩ := hw
        refine gx_iald C hW ha5 ta5 i6 dX10_finished_30 ?_
        refine lv_goto (tgt := 35) hx hb dX10_finished_31 (by decide) ?_
        exact gx_iret C hW (Nat.le_of_ble_eq_true rfl) (Nat.le_of_ble_eq_true rfl) rfl hw dX10_finished_35
/-! TrialStair.depth -/
def wX10_depth (x0 : Nat) (S0 : Sg) (Q : Int32 → Sg → Prop) : Prop := ∃ a1 : Nat, (fR S0 642 x0) = some a1 ∧ tg S0 a1 = 5 ∧ Q (fI S0 263 a1) S0
set_option maxHeartbeats 4000000 in
set_option maxRecDepth 100000 in
theorem mX10_depth (l : Launch) (D : va_G) (cy : Nat → ClassId) (x0 : Nat) (S0 : Sg) (Q : Int32 → Sg → Prop) (t0 : tg S0 x0 = 11) (hw : wX10_depth x0 S0 Q) : Met l yX10_depth (.code yX10_depth cX10_depth 1 (some .int) :: wsL_law) { frames := 0, cells := 0, slots := 0, locals := 0 } (gPc D cy [va_rf (some x0)] S0) (va_Qi Q (gB D cy S0) (gA S0)) 0 0 (gA S0) := by
  refine gx_met (by decide) (Nat.le_of_ble_eq_true rfl) ?_
  intro p e s m args below meth c ls C hW hl
  have hx := C.1
  have hb := C.2.1
  have hl : lv_has ls 1 [(0, va_rf (some x0))] := hl
  unfold wX10_depth at hw
  refine gx_aload_n hx hb dX10_depth_0 rfl (lv_at hl 0 rfl) ?_
  refine gx_getR C hW F10_26 (k := 642) rfl t0 rfl dX10_depth_1 ?_
  obtain ⟨a1, ha1, ta1, hw⟩ := hw
  refine gx_getI C hW F10_97 (k := 263) ha1 ta1 rfl dX10_depth_4 ?_
  exact gx_iret C hW (Nat.le_of_ble_eq_true rfl) (Nat.le_of_ble_eq_true rfl) rfl hw dX10_depth_7
/-! TrialStair.status -/
def wX10_status (x0 : Nat) (x1 : Int32) (S0 : Sg) (Q : Int32 → Sg → Prop) : Prop := (if x1 = 0 then ∃ a2 : Nat, (fR S0 640 x0) = some a2 ∧ tg S0 a2 = 7 ∧ Q (fI S0 387 a2) S0 else (if x1 = 1 then ∃ a4 : Nat, (fR S0 640 x0) = some a4 ∧ tg S0 a4 = 7 ∧ Q (fI S0 388 a4) S0 else (if x1 = 2 then Q (fI S0 644 x0) S0 else (if x1 = 3 then Q (fI S0 645 x0) S0 else (if x1 = 4 then ∃ a8 : Nat, (fR S0 642 x0) = some a8 ∧ tg S0 a8 = 5 ∧ Q (fI S0 261 a8) S0 else (if x1 = 5 then ∃ a10 : Nat, (fR S0 642 x0) = some a10 ∧ tg S0 a10 = 5 ∧ Q (fI S0 262 a10) S0 else (if x1 = 6 then ∃ a12 : Nat, (fR S0 642 x0) = some a12 ∧ tg S0 a12 = 5 ∧ wX4_countCauses a12  S0 (fun (r13 : Int32) (S14 : Sg) => Q r13 S14) else (if x1 = 7 then ∃ a16 : Nat, (fR S0 642 x0) = some a16 ∧ tg S0 a16 = 5 ∧ Q (fI S0 264 a16) S0 else Q (-1 : Int32) S0))))))))
set_option maxHeartbeats 4000000 in
set_option maxRecDepth 100000 in
theorem mX10_status (l : Launch) (D : va_G) (cy : Nat → ClassId) (x0 : Nat) (x1 : Int32) (S0 : Sg) (Q : Int32 → Sg → Prop) (t0 : tg S0 x0 = 11) (hw : wX10_status x0 x1 S0 Q) : Met l yX10_status (.code yX10_status cX10_status 2 (some .int) :: wsL_law) { frames := 1, cells := 0, slots := 0, locals := 22 } (gPc D cy [va_rf (some x0), .int x1] S0) (va_Qi Q (gB D cy S0) (gA S0)) 0 0 (gA S0) := by
  refine gx_met (by decide) (Nat.le_of_ble_eq_true rfl) ?_
  intro p e s m args below meth c ls C hW hl
  have hx := C.1
  have hb := C.2.1
  have hl : lv_has ls 2 [(0, va_rf (some x0)), (1, .int x1)] := hl
  unfold wX10_status at hw
  refine lv_iload_n hx hb dX10_status_0 rfl (lv_at hl 1 rfl) ?_
  by_cases c1 : x1 = (0 : Int32)
  · have hw := w_t hw c1
    refine lv_tableIn (off := 47) (tgt := 48) hx hb dX10_status_1 (by rw [c1]; decide) (by rw [c1]; decide) (by rw [c1]; rfl) (by decide) ?_
    refine gx_aload_n hx hb dX10_status_48 rfl (lv_at hl 0 rfl) ?_
    refine gx_getR C hW F10_10 (k := 640) rfl t0 rfl dX10_status_49 ?_
    obtain ⟨a2, ha2, ta2, hw⟩ := hw
    refine gx_getI C hW F10_39 (k := 387) ha2 ta2 rfl dX10_status_52 ?_
    exact gx_iret C hW (Nat.le_of_ble_eq_true rfl) (Nat.le_of_ble_eq_true rfl) rfl hw dX10_status_55
  · have hw := w_f hw c1
    by_cases c3 : x1 = (1 : Int32)
    · have hw := w_t hw c3
      refine lv_tableIn (off := 55) (tgt := 56) hx hb dX10_status_1 (by rw [c3]; decide) (by rw [c3]; decide) (by rw [c3]; rfl) (by decide) ?_
      refine gx_aload_n hx hb dX10_status_56 rfl (lv_at hl 0 rfl) ?_
      refine gx_getR C hW F10_10 (k := 640) rfl t0 rfl dX10_status_57 ?_
      obtain ⟨a4, ha4, ta4, hw⟩ := hw
      refine gx_getI C hW F10_100 (k := 388) ha4 ta4 rfl dX10_status_60 ?_
      exact gx_iret C hW (Nat.le_of_ble_eq_true rfl) (Nat.le_of_ble_eq_true rfl) rfl hw dX10_status_63
    · have hw := w_f hw c3
      by_cases c5 : x1 = (2 : Int32)
      · have hw := w_t hw c5
        refine lv_tableIn (off := 63) (tgt := 64) hx hb dX10_status_1 (by rw [c5]; decide) (by rw [c5]; decide) (by rw [c5]; rfl) (by decide) ?_
        refine gx_aload_n hx hb dX10_status_64 rfl (lv_at hl 0 rfl) ?_
        refine gx_getI C hW F10_54 (k := 644) rfl t0 rfl dX10_status_65 ?_
        exact gx_iret C hW (Nat.le_of_ble_eq_true rfl) (Nat.le_of_ble_eq_true rfl) rfl hw dX10_status_68
      · have hw := w_f hw c5
        by_cases c6 : x1 = (3 : Int32)
        · have hw := w_t hw c6
          refine lv_tableIn (off := 68) (tgt := 69) hx hb dX10_status_1 (by rw [c6]; decide) (by rw [c6]; decide) (by rw [c6]; rfl) (by decide) ?_
          refine gx_aload_n hx hb dX10_status_69 rfl (lv_at hl 0 rfl) ?_
          refine gx_getI C hW F10_61 (k := 645) rfl t0 rfl dX10_status_70 ?_
          exact gx_iret C hW (Nat.le_of_ble_eq_true rfl) (Nat.le_of_ble_eq_true rfl) rfl hw dX10_status_73
        · have hw := w_f hw c6
          by_cases c7 : x1 = (4 : Int32)
          · have hw := w_t hw c7
            refine lv_tableIn (off := 73) (tgt := 74) hx hb dX10_status_1 (by rw [c7]; decide) (by rw [c7]; decide) (by rw [c7]; rfl) (by decide) ?_
            refine gx_aload_n hx hb dX10_status_74 rfl (lv_at hl 0 rfl) ?_
            refine gx_getR C hW F10_26 (k := 642) rfl t0 rfl dX10_status_75 ?_
            obtain ⟨a8, ha8, ta8, hw⟩ := hw
            refine gx_getI C hW F10_83 (k := 261) ha8 ta8 rfl dX10_status_78 ?_
            exact gx_iret C hW (Nat.le_of_ble_eq_true rfl) (Nat.le_of_ble_eq_true rfl) rfl hw dX10_status_81
          · have hw := w_f hw c7
            by_cases c9 : x1 = (5 : Int32)
            · have hw := w_t hw c9
              refine lv_tableIn (off := 81) (tgt := 82) hx hb dX10_status_1 (by rw [c9]; decide) (by rw [c9]; decide) (by rw [c9]; rfl) (by decide) ?_
              refine gx_aload_n hx hb dX10_status_82 rfl (lv_at hl 0 rfl) ?_
              refine gx_getR C hW F10_26 (k := 642) rfl t0 rfl dX10_status_83 ?_
              obtain ⟨a10, ha10, ta10, hw⟩ := hw
              refine gx_getI C hW F10_90 (k := 262) ha10 ta10 rfl dX10_status_86 ?_
              exact gx_iret C hW (Nat.le_of_ble_eq_true rfl) (Nat.le_of_ble_eq_true rfl) rfl hw dX10_status_89
            · have hw := w_f hw c9
              by_cases c11 : x1 = (6 : Int32)
              · have hw := w_t hw c11
                refine lv_tableIn (off := 89) (tgt := 90) hx hb dX10_status_1 (by rw [c11]; decide) (by rw [c11]; decide) (by rw [c11]; rfl) (by decide) ?_
                refine gx_aload_n hx hb dX10_status_90 rfl (lv_at hl 0 rfl) ?_
                refine gx_getR C hW F10_26 (k := 642) rfl t0 rfl dX10_status_91 ?_
                obtain ⟨a12, ha12, ta12, hw⟩ := hw
                refine gx_ci (gx_rV C hW M10_103 (mX4_countCauses l D cy _ _ _ ta12 hw) rfl rfl ⟨Nat.le_of_ble_eq_true rfl, Nat.le_of_ble_eq_true rfl⟩ ha12 ta12 (by decide) rfl rfl hl.1 rfl (gx_room0 (n := 4) (Nat.le_of_ble_eq_true rfl)) dX10_status_94 ⟨Nat.le_of_ble_eq_true rfl, Nat.le_of_ble_eq_true rfl⟩) hW (fun r13 S14 H locs hW hm hw => ?_)
                have t0 := hm _ _ t0
                have ta12 := hm _ _ ta12
                exact gx_iret C hW (Nat.le_of_ble_eq_true rfl) (Nat.le_of_ble_eq_true rfl) rfl hw dX10_status_97
              · have hw := w_f hw c11
                by_cases c15 : x1 = (7 : Int32)
                · have hw := w_t hw c15
                  refine lv_tableIn (off := 97) (tgt := 98) hx hb dX10_status_1 (by rw [c15]; decide) (by rw [c15]; decide) (by rw [c15]; rfl) (by decide) ?_
                  refine gx_aload_n hx hb dX10_status_98 rfl (lv_at hl 0 rfl) ?_
                  refine gx_getR C hW F10_26 (k := 642) rfl t0 rfl dX10_status_99 ?_
                  obtain ⟨a16, ha16, ta16, hw⟩ := hw
                  refine gx_getI C hW F10_107 (k := 264) ha16 ta16 rfl dX10_status_102 ?_
                  exact gx_iret C hW (Nat.le_of_ble_eq_true rfl) (Nat.le_of_ble_eq_true rfl) rfl hw dX10_status_105
                · have hw := w_f hw c15
                  refine gx_tdef (n := 8) (tgt := 106) hx hb dX10_status_1 (by decide) (by decide) (lt_s (lt_s (lt_s (lt_s (lt_s (lt_s (lt_s (lt_s (lt_0) (fun hx9 => tb_ne c1 (by decide) hx9)) (fun hx9 => tb_ne c3 (by decide) hx9)) (fun hx9 => tb_ne c5 (by decide) hx9)) (fun hx9 => tb_ne c6 (by decide) hx9)) (fun hx9 => tb_ne c7 (by decide) hx9)) (fun hx9 => tb_ne c9 (by decide) hx9)) (fun hx9 => tb_ne c11 (by decide) hx9)) (fun hx9 => tb_ne c15 (by decide) hx9)) ?_
                  refine lv_iconst (v := -1) hx hb dX10_status_106 (by decide) ?_
                  exact gx_iret C hW (Nat.le_of_ble_eq_true rfl) (Nat.le_of_ble_eq_true rfl) rfl hw dX10_status_107
/-! TrialStair.isOfEight -/
def wX10_isOfEight (x0 : Int32) (S0 : Sg) (Q : Int32 → Sg → Prop) : Prop := (if x0 < 0 then Q (0 : Int32) S0 else (if (8 : Int32) ≤ x0 then Q (0 : Int32) S0 else Q (1 : Int32) S0))
set_option maxHeartbeats 4000000 in
set_option maxRecDepth 100000 in
theorem mX10_isOfEight (l : Launch) (D : va_G) (cy : Nat → ClassId) (x0 : Int32) (S0 : Sg) (Q : Int32 → Sg → Prop) (hw : wX10_isOfEight x0 S0 Q) : Met l yX10_isOfEight (.code yX10_isOfEight cX10_isOfEight 1 (some .boolean) :: wsL_law) { frames := 0, cells := 0, slots := 0, locals := 0 } (gPc D cy [.int x0] S0) (va_Qi Q (gB D cy S0) (gA S0)) 0 0 (gA S0) := by
  refine gx_met (by decide) (Nat.le_of_ble_eq_true rfl) ?_
  intro p e s m args below meth c ls C hW hl
  have hx := C.1
  have hb := C.2.1
  have hl : lv_has ls 1 [(0, .int x0)] := hl
  unfold wX10_isOfEight at hw
  refine lv_iload_n hx hb dX10_isOfEight_0 rfl (lv_at hl 0 rfl) ?_
  refine lv_if_lt (tgt := 14) hx hb dX10_isOfEight_1 (by decide) (fun c1 => ?_) (fun c1 => ?_)
  · have hw := w_t hw c1
    refine lv_iconst (v := 0) hx hb dX10_isOfEight_14 (by decide) ?_
    exact gx_iret C hW (Nat.le_of_ble_eq_true rfl) (Nat.le_of_ble_eq_true rfl) rfl hw dX10_isOfEight_15
  · have hw := w_f hw c1
    refine lv_iload_n hx hb dX10_isOfEight_4 rfl (lv_at hl 0 rfl) ?_
    refine lv_bipush (v := 8) hx hb dX10_isOfEight_5 (by decide) ?_
    refine lv_icmp_ge (tgt := 14) hx hb dX10_isOfEight_7 (by decide) (fun c2 => ?_) (fun c2 => ?_)
    · have hw := w_t hw c2
      refine lv_iconst (v := 0) hx hb dX10_isOfEight_14 (by decide) ?_
      exact gx_iret C hW (Nat.le_of_ble_eq_true rfl) (Nat.le_of_ble_eq_true rfl) rfl hw dX10_isOfEight_15
    · have hw := w_f hw c2
      refine lv_iconst (v := 1) hx hb dX10_isOfEight_10 (by decide) ?_
      refine lv_goto (tgt := 15) hx hb dX10_isOfEight_11 (by decide) ?_
      exact gx_iret C hW (Nat.le_of_ble_eq_true rfl) (Nat.le_of_ble_eq_true rfl) rfl hw dX10_isOfEight_15
/-! TrialStair.number -/
def wX10_number (x0 : Nat) (x1 : Int32) (S0 : Sg) (Q : Int64 → Sg → Prop) : Prop := wX10_isOfEight x1 S0 (fun (r1 : Int32) (S2 : Sg) => (if r1 = 0 then Q (0 : Int64) S2 else ∃ a4 : Nat, (fR S2 641 x0) = some a4 ∧ tg S2 a4 = 4 ∧ wX3_numberOf a4 x1 S2 (fun (r5 : Int64) (S6 : Sg) => Q r5 S6)))
set_option maxHeartbeats 4000000 in
set_option maxRecDepth 100000 in
theorem mX10_number (l : Launch) (D : va_G) (cy : Nat → ClassId) (x0 : Nat) (x1 : Int32) (S0 : Sg) (Q : Int64 → Sg → Prop) (t0 : tg S0 x0 = 11) (hw : wX10_number x0 x1 S0 Q) : Met l yX10_number (.code yX10_number cX10_number 2 (some .long) :: wsL_law) { frames := 1, cells := 0, slots := 0, locals := 21 } (gPc D cy [va_rf (some x0), .int x1] S0) (va_Ql Q (gB D cy S0) (gA S0)) 0 0 (gA S0) := by
  refine gx_met (by decide) (Nat.le_of_ble_eq_true rfl) ?_
  intro p e s m args below meth c ls C hW hl
  have hx := C.1
  have hb := C.2.1
  have hl : lv_has ls 2 [(0, va_rf (some x0)), (1, .int x1)] := hl
  unfold wX10_number at hw
  refine lv_iload_n hx hb dX10_number_0 rfl (lv_at hl 1 rfl) ?_
  refine gx_ci (gx_rS C hW M10_110 (mX10_isOfEight l D cy _ _ _  hw) rfl rfl ⟨Nat.le_of_ble_eq_true rfl, Nat.le_of_ble_eq_true rfl⟩ rfl hl.1 rfl (gx_room0 (n := 4) (Nat.le_of_ble_eq_true rfl)) dX10_number_1 ⟨Nat.le_of_ble_eq_true rfl, Nat.le_of_ble_eq_true rfl⟩) hW (fun r1 S2 H locs hW hm hw => ?_)
  have t0 := hm _ _ t0
  refine lv_if_eq (tgt := 18) hx hb dX10_number_4 (by decide) (fun c3 => ?_) (fun c3 => ?_)
  · have hw := w_t hw c3
    refine lv_lconst (v := 0) hx hb dX10_number_18 (by decide) ?_
    exact gx_lret C hW (Nat.le_of_ble_eq_true rfl) (Nat.le_of_ble_eq_true rfl) hw dX10_number_19
  · have hw := w_f hw c3
    refine gx_aload_n hx hb dX10_number_7 rfl (lv_at hl 0 rfl) ?_
    refine gx_getR C hW F10_19 (k := 641) rfl t0 rfl dX10_number_8 ?_
    refine lv_iload_n hx hb dX10_number_11 rfl (lv_at hl 1 rfl) ?_
    obtain ⟨a4, ha4, ta4, hw⟩ := hw
    refine gx_cl (gx_rV C hW M10_113 (mX3_numberOf l D cy _ _ _ _ ta4 hw) rfl rfl ⟨Nat.le_of_ble_eq_true rfl, Nat.le_of_ble_eq_true rfl⟩ ha4 ta4 (by decide) rfl rfl hl.1 rfl (gx_room0 (n := 4) (Nat.le_of_ble_eq_true rfl)) dX10_number_12 ⟨Nat.le_of_ble_eq_true rfl, Nat.le_of_ble_eq_true rfl⟩) hW (fun r5 S6 H locs hW hm hw => ?_)
    have t0 := hm _ _ t0
    have ta4 := hm _ _ ta4
    refine lv_goto (tgt := 19) hx hb dX10_number_15 (by decide) ?_
    exact gx_lret C hW (Nat.le_of_ble_eq_true rfl) (Nat.le_of_ble_eq_true rfl) hw dX10_number_19
/-! TrialStair.kindOf -/
def wX10_kindOf (x0 : Option Nat) (S0 : Sg) (Q : Int32 → Sg → Prop) : Prop := (if x0 = none then Q (-1 : Int32) S0 else ∃ a2 : Nat, x0 = some a2 ∧ tg S0 a2 = 9 ∧ Q (fI S0 512 a2) S0)
set_option maxHeartbeats 4000000 in
set_option maxRecDepth 100000 in
theorem mX10_kindOf (l : Launch) (D : va_G) (cy : Nat → ClassId) (x0 : Option Nat) (S0 : Sg) (Q : Int32 → Sg → Prop) (hw : wX10_kindOf x0 S0 Q) : Met l yX10_kindOf (.code yX10_kindOf cX10_kindOf 1 (some .int) :: wsL_law) { frames := 0, cells := 0, slots := 0, locals := 0 } (gPc D cy [va_rf x0] S0) (va_Qi Q (gB D cy S0) (gA S0)) 0 0 (gA S0) := by
  refine gx_met (by decide) (by simp [lg_sl, va_rf_cat, cat_i, cat_l]) ?_
  intro p e s m args below meth c ls C hW hl
  have hx := C.1
  have hb := C.2.1
  have hl : lv_has ls 1 [(0, va_rf x0)] := by simpa [lv_args, va_rf_cat, cat_i, cat_l] using hl
  unfold wX10_kindOf at hw
  refine gx_aload_n hx hb dX10_kindOf_0 rfl (lv_at hl 0 rfl) ?_
  refine gx_ifnonnull (tgt := 8) hx hb dX10_kindOf_1 (by decide) (fun c1 => ?_) (fun c1 => ?_)
  · have hw := w_f hw c1
    refine gx_aload_n hx hb dX10_kindOf_8 rfl (lv_at hl 0 rfl) ?_
    obtain ⟨a2, ha2, ta2, hw⟩ := hw
    refine gx_getI C hW F10_160 (k := 512) ha2 ta2 rfl dX10_kindOf_9 ?_
    exact gx_iret C hW (Nat.le_of_ble_eq_true rfl) (Nat.le_of_ble_eq_true rfl) rfl hw dX10_kindOf_12
  · have hw := w_t hw c1
    refine lv_iconst (v := -1) hx hb dX10_kindOf_4 (by decide) ?_
    refine lv_goto (tgt := 12) hx hb dX10_kindOf_5 (by decide) ?_
    exact gx_iret C hW (Nat.le_of_ble_eq_true rfl) (Nat.le_of_ble_eq_true rfl) rfl hw dX10_kindOf_12
/-! TrialStair.hand -/
def wX10_hand (x0 : Nat) (x1 : Int32) (S0 : Sg) (Q : Int32 → Sg → Prop) : Prop := wX10_isOfEight x1 S0 (fun (r1 : Int32) (S2 : Sg) => (if r1 = 0 then Q (-2 : Int32) S2 else ∃ a4 : Nat, (fR S2 641 x0) = some a4 ∧ tg S2 a4 = 4 ∧ wX3_thingOf a4 x1 S2 (fun (r5 : Option Nat) (S6 : Sg) => wX10_kindOf r5 S6 (fun (r7 : Int32) (S8 : Sg) => Q r7 S8))))
set_option maxHeartbeats 4000000 in
set_option maxRecDepth 100000 in
theorem mX10_hand (l : Launch) (D : va_G) (cy : Nat → ClassId) (x0 : Nat) (x1 : Int32) (S0 : Sg) (Q : Int32 → Sg → Prop) (t0 : tg S0 x0 = 11) (hw : wX10_hand x0 x1 S0 Q) : Met l yX10_hand (.code yX10_hand cX10_hand 2 (some .int) :: wsL_law) { frames := 1, cells := 0, slots := 0, locals := 21 } (gPc D cy [va_rf (some x0), .int x1] S0) (va_Qi Q (gB D cy S0) (gA S0)) 0 0 (gA S0) := by
  refine gx_met (by decide) (Nat.le_of_ble_eq_true rfl) ?_
  intro p e s m args below meth c ls C hW hl
  have hx := C.1
  have hb := C.2.1
  have hl : lv_has ls 2 [(0, va_rf (some x0)), (1, .int x1)] := hl
  unfold wX10_hand at hw
  refine lv_iload_n hx hb dX10_hand_0 rfl (lv_at hl 1 rfl) ?_
  refine gx_ci (gx_rS C hW M10_110 (mX10_isOfEight l D cy _ _ _  hw) rfl rfl ⟨Nat.le_of_ble_eq_true rfl, Nat.le_of_ble_eq_true rfl⟩ rfl hl.1 rfl (gx_room0 (n := 4) (Nat.le_of_ble_eq_true rfl)) dX10_hand_1 ⟨Nat.le_of_ble_eq_true rfl, Nat.le_of_ble_eq_true rfl⟩) hW (fun r1 S2 H locs hW hm hw => ?_)
  have t0 := hm _ _ t0
  refine lv_if_ne (tgt := 10) hx hb dX10_hand_4 (by decide) (fun c3 => ?_) (fun c3 => ?_)
  · have hw := w_f hw c3
    refine gx_aload_n hx hb dX10_hand_10 rfl (lv_at hl 0 rfl) ?_
    refine gx_getR C hW F10_19 (k := 641) rfl t0 rfl dX10_hand_11 ?_
    refine lv_iload_n hx hb dX10_hand_14 rfl (lv_at hl 1 rfl) ?_
    obtain ⟨a4, ha4, ta4, hw⟩ := hw
    refine gx_cq (gx_rV C hW M10_117 (mX3_thingOf l D cy _ _ _ _ ta4 hw) rfl rfl ⟨Nat.le_of_ble_eq_true rfl, Nat.le_of_ble_eq_true rfl⟩ ha4 ta4 (by decide) rfl rfl hl.1 rfl (gx_room0 (n := 4) (Nat.le_of_ble_eq_true rfl)) dX10_hand_15 ⟨Nat.le_of_ble_eq_true rfl, Nat.le_of_ble_eq_true rfl⟩) hW (fun r5 S6 H locs hW hm hw => ?_)
    have t0 := hm _ _ t0
    have ta4 := hm _ _ ta4
    refine gx_ci (gx_rS C hW M10_121 (mX10_kindOf l D cy _ _ _  hw) rfl rfl ⟨Nat.le_of_ble_eq_true rfl, Nat.le_of_ble_eq_true rfl⟩ rfl hl.1 rfl (gx_room0 (n := 4) (Nat.le_of_ble_eq_true rfl)) dX10_hand_18 ⟨Nat.le_of_ble_eq_true rfl, Nat.le_of_ble_eq_true rfl⟩) hW (fun r7 S8 H locs hW hm hw => ?_)
    have t0 := hm _ _ t0
    have ta4 := hm _ _ ta4
    exact gx_iret C hW (Nat.le_of_ble_eq_true rfl) (Nat.le_of_ble_eq_true rfl) rfl hw dX10_hand_21
  · have hw := w_t hw c3
    refine lv_bipush (v := -2) hx hb dX10_hand_7 (by decide) ?_
    exact gx_iret C hW (Nat.le_of_ble_eq_true rfl) (Nat.le_of_ble_eq_true rfl) rfl hw dX10_hand_9
/-! TrialStair.mark -/
def wX10_mark (x0 : Nat) (x1 : Int32) (S0 : Sg) (Q : Int64 → Sg → Prop) : Prop := wX10_isOfEight x1 S0 (fun (r1 : Int32) (S2 : Sg) => (if r1 = 0 then Q (0 : Int64) S2 else ∃ a5 : Nat, (fR S2 641 x0) = some a5 ∧ tg S2 a5 = 4 ∧ wX3_thingOf a5 x1 S2 (fun (r6 : Option Nat) (S7 : Sg) => (if r6 = none then Q (0 : Int64) S7 else ∃ a9 : Nat, r6 = some a9 ∧ tg S7 a9 = 9 ∧ Q (fL S7 513 a9) S7))))
set_option maxHeartbeats 4000000 in
set_option maxRecDepth 100000 in
theorem mX10_mark (l : Launch) (D : va_G) (cy : Nat → ClassId) (x0 : Nat) (x1 : Int32) (S0 : Sg) (Q : Int64 → Sg → Prop) (t0 : tg S0 x0 = 11) (hw : wX10_mark x0 x1 S0 Q) : Met l yX10_mark (.code yX10_mark cX10_mark 3 (some .long) :: wsL_law) { frames := 1, cells := 0, slots := 0, locals := 21 } (gPc D cy [va_rf (some x0), .int x1] S0) (va_Ql Q (gB D cy S0) (gA S0)) 0 0 (gA S0) := by
  refine gx_met (by decide) (Nat.le_of_ble_eq_true rfl) ?_
  intro p e s m args below meth c ls C hW hl
  have hx := C.1
  have hb := C.2.1
  have hl : lv_has ls 3 [(0, va_rf (some x0)), (1, .int x1)] := hl
  unfold wX10_mark at hw
  refine lv_iload_n hx hb dX10_mark_0 rfl (lv_at hl 1 rfl) ?_
  refine gx_ci (gx_rS C hW M10_110 (mX10_isOfEight l D cy _ _ _  hw) rfl rfl ⟨Nat.le_of_ble_eq_true rfl, Nat.le_of_ble_eq_true rfl⟩ rfl hl.1 rfl (gx_room0 (n := 4) (Nat.le_of_ble_eq_true rfl)) dX10_mark_1 ⟨Nat.le_of_ble_eq_true rfl, Nat.le_of_ble_eq_true rfl⟩) hW (fun r1 S2 H locs hW hm hw => ?_)
  have t0 := hm _ _ t0
  refine lv_if_eq (tgt := 18) hx hb dX10_mark_4 (by decide) (fun c3 => ?_) (fun c3 => ?_)
  · have hw := w_t hw c3
    refine gx_null hx hb dX10_mark_18 ?_
    refine gx_astore_n (i := 2) (lv' := [(2, va_rf none), (0, va_rf (some x0)), (1, .int x1)]) hx hb dX10_mark_19 rfl hl (by decide) rfl (fun ls hl => ?_)
    refine gx_aload_n hx hb dX10_mark_20 rfl (lv_at hl 0 rfl) ?_
    refine gx_ifnonnull (tgt := 28) hx hb dX10_mark_21 (by decide) (fun c4 => ?_) (fun c4 => ?_)
    · exact absurd rfl c4
    · refine lv_lconst (v := 0) hx hb dX10_mark_24 (by decide) ?_
      refine lv_goto (tgt := 32) hx hb dX10_mark_25 (by decide) ?_
      exact gx_lret C hW (Nat.le_of_ble_eq_true rfl) (Nat.le_of_ble_eq_true rfl) hw dX10_mark_32
  · have hw := w_f hw c3
    refine gx_aload_n hx hb dX10_mark_7 rfl (lv_at hl 0 rfl) ?_
    refine gx_getR C hW F10_19 (k := 641) rfl t0 rfl dX10_mark_8 ?_
    refine lv_iload_n hx hb dX10_mark_11 rfl (lv_at hl 1 rfl) ?_
    obtain ⟨a5, ha5, ta5, hw⟩ := hw
    refine gx_cq (gx_rV C hW M10_117 (mX3_thingOf l D cy _ _ _ _ ta5 hw) rfl rfl ⟨Nat.le_of_ble_eq_true rfl, Nat.le_of_ble_eq_true rfl⟩ ha5 ta5 (by decide) rfl rfl hl.1 rfl (gx_room0 (n := 4) (Nat.le_of_ble_eq_true rfl)) dX10_mark_12 ⟨Nat.le_of_ble_eq_true rfl, Nat.le_of_ble_eq_true rfl⟩) hW (fun r6 S7 H locs hW hm hw => ?_)
    have t0 := hm _ _ t0
    have ta5 := hm _ _ ta5
    refine lv_goto (tgt := 19) hx hb dX10_mark_15 (by decide) ?_
    refine gx_astore_n (i := 2) (lv' := [(2, va_rf r6), (0, va_rf (some x0)), (1, .int x1)]) hx hb dX10_mark_19 rfl hl (by decide) rfl (fun ls hl => ?_)
    refine gx_aload_n hx hb dX10_mark_20 rfl (lv_at hl 0 rfl) ?_
    refine gx_ifnonnull (tgt := 28) hx hb dX10_mark_21 (by decide) (fun c8 => ?_) (fun c8 => ?_)
    · have hw := w_f hw c8
      refine gx_aload_n hx hb dX10_mark_28 rfl (lv_at hl 0 rfl) ?_
      obtain ⟨a9, ha9, ta9, hw⟩ := hw
      refine gx_getL C hW F10_125 (k := 513) ha9 ta9 rfl dX10_mark_29 ?_
      exact gx_lret C hW (Nat.le_of_ble_eq_true rfl) (Nat.le_of_ble_eq_true rfl) hw dX10_mark_32
    · have hw := w_t hw c8
      refine lv_lconst (v := 0) hx hb dX10_mark_24 (by decide) ?_
      refine lv_goto (tgt := 32) hx hb dX10_mark_25 (by decide) ?_
      exact gx_lret C hW (Nat.le_of_ble_eq_true rfl) (Nat.le_of_ble_eq_true rfl) hw dX10_mark_32
/-! TrialStair.size -/
def wX10_size (x0 : Nat) (x1 : Int32) (x2 : Int32) (S0 : Sg) (Q : Int32 → Sg → Prop) : Prop := wX10_isOfEight x1 S0 (fun (r1 : Int32) (S2 : Sg) => (if r1 = 0 then Q (-2 : Int32) S2 else wX10_isOfEight x2 S2 (fun (r4 : Int32) (S5 : Sg) => (if r4 = 0 then Q (-2 : Int32) S5 else ∃ a7 : Nat, (fR S5 641 x0) = some a7 ∧ tg S5 a7 = 4 ∧ wX3_rowOf a7 x1 x2 S5 (fun (r8 : Option Nat) (S9 : Sg) => (if r8 = none then Q (-1 : Int32) S9 else ∃ a11 : Nat, r8 = some a11 ∧ tg S9 a11 = 6 ∧ Q (fI S9 323 a11) S9))))))
set_option maxHeartbeats 4000000 in
set_option maxRecDepth 100000 in
theorem mX10_size (l : Launch) (D : va_G) (cy : Nat → ClassId) (x0 : Nat) (x1 : Int32) (x2 : Int32) (S0 : Sg) (Q : Int32 → Sg → Prop) (t0 : tg S0 x0 = 11) (hw : wX10_size x0 x1 x2 S0 Q) : Met l yX10_size (.code yX10_size cX10_size 4 (some .int) :: wsL_law) { frames := 1, cells := 0, slots := 0, locals := 22 } (gPc D cy [va_rf (some x0), .int x1, .int x2] S0) (va_Qi Q (gB D cy S0) (gA S0)) 0 0 (gA S0) := by
  refine gx_met (by decide) (Nat.le_of_ble_eq_true rfl) ?_
  intro p e s m args below meth c ls C hW hl
  have hx := C.1
  have hb := C.2.1
  have hl : lv_has ls 4 [(0, va_rf (some x0)), (1, .int x1), (2, .int x2)] := hl
  unfold wX10_size at hw
  refine lv_iload_n hx hb dX10_size_0 rfl (lv_at hl 1 rfl) ?_
  refine gx_ci (gx_rS C hW M10_110 (mX10_isOfEight l D cy _ _ _  hw) rfl rfl ⟨Nat.le_of_ble_eq_true rfl, Nat.le_of_ble_eq_true rfl⟩ rfl hl.1 rfl (gx_room0 (n := 4) (Nat.le_of_ble_eq_true rfl)) dX10_size_1 ⟨Nat.le_of_ble_eq_true rfl, Nat.le_of_ble_eq_true rfl⟩) hW (fun r1 S2 H locs hW hm hw => ?_)
  have t0 := hm _ _ t0
  refine lv_if_eq (tgt := 14) hx hb dX10_size_4 (by decide) (fun c3 => ?_) (fun c3 => ?_)
  · have hw := w_t hw c3
    refine lv_bipush (v := -2) hx hb dX10_size_14 (by decide) ?_
    exact gx_iret C hW (Nat.le_of_ble_eq_true rfl) (Nat.le_of_ble_eq_true rfl) rfl hw dX10_size_16
  · have hw := w_f hw c3
    refine lv_iload_n hx hb dX10_size_7 rfl (lv_at hl 2 rfl) ?_
    refine gx_ci (gx_rS C hW M10_110 (mX10_isOfEight l D cy _ _ _  hw) rfl rfl ⟨Nat.le_of_ble_eq_true rfl, Nat.le_of_ble_eq_true rfl⟩ rfl hl.1 rfl (gx_room0 (n := 4) (Nat.le_of_ble_eq_true rfl)) dX10_size_8 ⟨Nat.le_of_ble_eq_true rfl, Nat.le_of_ble_eq_true rfl⟩) hW (fun r4 S5 H locs hW hm hw => ?_)
    have t0 := hm _ _ t0
    refine lv_if_ne (tgt := 17) hx hb dX10_size_11 (by decide) (fun c6 => ?_) (fun c6 => ?_)
    · have hw := w_f hw c6
      refine gx_aload_n hx hb dX10_size_17 rfl (lv_at hl 0 rfl) ?_
      refine gx_getR C hW F10_19 (k := 641) rfl t0 rfl dX10_size_18 ?_
      refine lv_iload_n hx hb dX10_size_21 rfl (lv_at hl 1 rfl) ?_
      refine lv_iload_n hx hb dX10_size_22 rfl (lv_at hl 2 rfl) ?_
      obtain ⟨a7, ha7, ta7, hw⟩ := hw
      refine gx_cq (gx_rV C hW M10_130 (mX3_rowOf l D cy _ _ _ _ _ ta7 hw) rfl rfl ⟨Nat.le_of_ble_eq_true rfl, Nat.le_of_ble_eq_true rfl⟩ ha7 ta7 (by decide) rfl rfl hl.1 rfl (gx_room0 (n := 4) (Nat.le_of_ble_eq_true rfl)) dX10_size_23 ⟨Nat.le_of_ble_eq_true rfl, Nat.le_of_ble_eq_true rfl⟩) hW (fun r8 S9 H locs hW hm hw => ?_)
      have t0 := hm _ _ t0
      have ta7 := hm _ _ ta7
      refine gx_astore_n (i := 3) (lv' := [(3, va_rf r8), (0, va_rf (some x0)), (1, .int x1), (2, .int x2)]) hx hb dX10_size_26 rfl hl (by decide) rfl (fun ls hl => ?_)
      refine gx_aload_n hx hb dX10_size_27 rfl (lv_at hl 0 rfl) ?_
      refine gx_ifnonnull (tgt := 35) hx hb dX10_size_28 (by decide) (fun c10 => ?_) (fun c10 => ?_)
      · have hw := w_f hw c10
        refine gx_aload_n hx hb dX10_size_35 rfl (lv_at hl 0 rfl) ?_
        obtain ⟨a11, ha11, ta11, hw⟩ := hw
        refine gx_getI C hW F10_134 (k := 323) ha11 ta11 rfl dX10_size_36 ?_
        exact gx_iret C hW (Nat.le_of_ble_eq_true rfl) (Nat.le_of_ble_eq_true rfl) rfl hw dX10_size_39
      · have hw := w_t hw c10
        refine lv_iconst (v := -1) hx hb dX10_size_31 (by decide) ?_
        refine lv_goto (tgt := 39) hx hb dX10_size_32 (by decide) ?_
        exact gx_iret C hW (Nat.le_of_ble_eq_true rfl) (Nat.le_of_ble_eq_true rfl) rfl hw dX10_size_39
    · have hw := w_t hw c6
      refine lv_bipush (v := -2) hx hb dX10_size_14 (by decide) ?_
      exact gx_iret C hW (Nat.le_of_ble_eq_true rfl) (Nat.le_of_ble_eq_true rfl) rfl hw dX10_size_16
/-! TrialStair.value -/
def wX10_value_b27 (x0 : Nat) (x1 : Int32) (x3 : Int32) (q0 : Option Nat) (S : Sg) (Q : Int64 → Sg → Prop) : Prop := (if q0 = none then Q (0 : Int64) S else ∃ a5 : Nat, q0 = some a5 ∧ tg S a5 = 6 ∧ wX5_has a5 x3 S (fun (r6 : Int32) (S7 : Sg) => (if r6 = 0 then Q (0 : Int64) S7 else (if x1 = (7 : Int32) then wX5_thingAt a5 x3 S7 (fun (r12 : Option Nat) (S13 : Sg) => wX10_kindOf r12 S13 (fun (r14 : Int32) (S15 : Sg) => Q ((r14).toInt64) S15)) else wX5_numberAt a5 x3 S7 (fun (r10 : Int64) (S11 : Sg) => Q r10 S11)))))
def wX10_value_b26 (x0 : Nat) (x1 : Int32) (x3 : Int32) (S : Sg) (Q : Int64 → Sg → Prop) : Prop := wX10_value_b27 x0 x1 x3 none S Q
def wX10_value (x0 : Nat) (x1 : Int32) (x2 : Int32) (x3 : Int32) (S0 : Sg) (Q : Int64 → Sg → Prop) : Prop := wX10_isOfEight x1 S0 (fun (r1 : Int32) (S2 : Sg) => (if r1 = 0 then wX10_value_b26 x0 x1 x3 S2 Q else wX10_isOfEight x2 S2 (fun (r16 : Int32) (S17 : Sg) => (if r16 = 0 then wX10_value_b26 x0 x1 x3 S17 Q else ∃ a19 : Nat, (fR S17 641 x0) = some a19 ∧ tg S17 a19 = 4 ∧ wX3_rowOf a19 x1 x2 S17 (fun (r20 : Option Nat) (S21 : Sg) => wX10_value_b27 x0 x1 x3 r20 S21 Q)))))
set_option maxHeartbeats 4000000 in
set_option maxRecDepth 100000 in
theorem kX10_value_b27 {p : Program} {l : Launch} {e : Env} {s : State} {m : MethodId} {args : Array Value} {below : List Frame} {meth : Method} {c : Code} {D : va_G} {cy : Nat → ClassId} {S0 : Sg} (C : gC p s m args meth c D cy cX10_value 5 yX10_value.cls (some .long) yX10_value.name) {H : Heap} {locs : List Loc} {ls : Array Slot} {x0 : Nat} {x1 : Int32} {x3 : Int32} {q0 : Option Nat} {S : Sg} {Q : Int64 → Sg → Prop} (hW : gW D cy (gA S0) (tg S0) s.heap S H locs) (t0 : tg S x0 = 11) (hl : lv_has ls 5 [(0, va_rf (some x0)), (1, .int x1), (3, .int x3)]) (hw : wX10_value_b27 x0 x1 x3 q0 S Q) : W p l e { frames := 1, cells := 0, slots := 0, locals := 22 } s m args below meth c H locs 0 0 (MQ below (va_Ql Q (gB D cy S0) (gA S0)) args s 0 0 (gA S0)) (F0 m 27 ls [va_rf q0]) := by
  have hx := C.1
  have hb := C.2.1
  unfold wX10_value_b27 at hw
  refine gx_astore (lv' := [(4, va_rf q0), (0, va_rf (some x0)), (1, .int x1), (3, .int x3)]) hx hb dX10_value_27 hl (by decide) rfl (fun ls hl => ?_)
  refine gx_aload hx hb dX10_value_29 (lv_at hl 0 rfl) ?_
  refine gx_ifnull (tgt := 43) hx hb dX10_value_31 (by decide) (fun c4 => ?_) (fun c4 => ?_)
  · have hw := w_t hw c4
    refine lv_lconst (v := 0) hx hb dX10_value_43 (by decide) ?_
    exact gx_lret C hW (Nat.le_of_ble_eq_true rfl) (Nat.le_of_ble_eq_true rfl) hw dX10_value_44
  · have hw := w_f hw c4
    refine gx_aload hx hb dX10_value_34 (lv_at hl 0 rfl) ?_
    refine lv_iload_n hx hb dX10_value_36 rfl (lv_at hl 3 rfl) ?_
    obtain ⟨a5, ha5, ta5, hw⟩ := hw
    refine gx_ci (gx_rV C hW M10_139 (mX5_has l D cy _ _ _ _ ta5 hw) rfl rfl ⟨Nat.le_of_ble_eq_true rfl, Nat.le_of_ble_eq_true rfl⟩ ha5 ta5 (by decide) rfl rfl hl.1 rfl (gx_room0 (n := 4) (Nat.le_of_ble_eq_true rfl)) dX10_value_37 ⟨Nat.le_of_ble_eq_true rfl, Nat.le_of_ble_eq_true rfl⟩) hW (fun r6 S7 H locs hW hm hw => ?_)
    have t0 := hm _ _ t0
    have ta5 := hm _ _ ta5
    refine lv_if_ne (tgt := 45) hx hb dX10_value_40 (by decide) (fun c8 => ?_) (fun c8 => ?_)
    · have hw := w_f hw c8
      refine lv_iload_n hx hb dX10_value_45 rfl (lv_at hl 2 rfl) ?_
      refine lv_bipush (v := 7) hx hb dX10_value_46 (by decide) ?_
      refine lv_icmp_ne (tgt := 64) hx hb dX10_value_48 (by decide) (fun c9 => ?_) (fun c9 => ?_)
      · have hw := w_f hw c9
        refine gx_aload hx hb dX10_value_64 (lv_at hl 0 rfl) ?_
        refine lv_iload_n hx hb dX10_value_66 rfl (lv_at hl 3 rfl) ?_
        refine gx_cl (gx_rV C hW M10_145 (mX5_numberAt l D cy _ _ _ _ ta5 hw) rfl rfl ⟨Nat.le_of_ble_eq_true rfl, Nat.le_of_ble_eq_true rfl⟩ ha5 ta5 (by decide) rfl rfl hl.1 rfl (gx_room0 (n := 4) (Nat.le_of_ble_eq_true rfl)) dX10_value_67 ⟨Nat.le_of_ble_eq_true rfl, Nat.le_of_ble_eq_true rfl⟩) hW (fun r10 S11 H locs hW hm hw => ?_)
        have t0 := hm _ _ t0
        have ta5 := hm _ _ ta5
        exact gx_lret C hW (Nat.le_of_ble_eq_true rfl) (Nat.le_of_ble_eq_true rfl) hw dX10_value_70
      · have hw := w_t hw c9
        refine gx_aload hx hb dX10_value_51 (lv_at hl 0 rfl) ?_
        refine lv_iload_n hx hb dX10_value_53 rfl (lv_at hl 3 rfl) ?_
        refine gx_cq (gx_rV C hW M10_142 (mX5_thingAt l D cy _ _ _ _ ta5 hw) rfl rfl ⟨Nat.le_of_ble_eq_true rfl, Nat.le_of_ble_eq_true rfl⟩ ha5 ta5 (by decide) rfl rfl hl.1 rfl (gx_room0 (n := 4) (Nat.le_of_ble_eq_true rfl)) dX10_value_54 ⟨Nat.le_of_ble_eq_true rfl, Nat.le_of_ble_eq_true rfl⟩) hW (fun r12 S13 H locs hW hm hw => ?_)
        have t0 := hm _ _ t0
        have ta5 := hm _ _ ta5
        refine gx_ci (gx_rS C hW M10_121 (mX10_kindOf l D cy _ _ _  hw) rfl rfl ⟨Nat.le_of_ble_eq_true rfl, Nat.le_of_ble_eq_true rfl⟩ rfl hl.1 rfl (gx_room0 (n := 4) (Nat.le_of_ble_eq_true rfl)) dX10_value_57 ⟨Nat.le_of_ble_eq_true rfl, Nat.le_of_ble_eq_true rfl⟩) hW (fun r14 S15 H locs hW hm hw => ?_)
        have t0 := hm _ _ t0
        have ta5 := hm _ _ ta5
        refine lv_i2l (v := _) hx hb dX10_value_60 rfl ?_
        refine lv_goto (tgt := 70) hx hb dX10_value_61 (by decide) ?_
        exact gx_lret C hW (Nat.le_of_ble_eq_true rfl) (Nat.le_of_ble_eq_true rfl) hw dX10_value_70
    · have hw := w_t hw c8
      refine lv_lconst (v := 0) hx hb dX10_value_43 (by decide) ?_
      exact gx_lret C hW (Nat.le_of_ble_eq_true rfl) (Nat.le_of_ble_eq_true rfl) hw dX10_value_44
set_option maxHeartbeats 4000000 in
set_option maxRecDepth 100000 in
theorem kX10_value_b26 {p : Program} {l : Launch} {e : Env} {s : State} {m : MethodId} {args : Array Value} {below : List Frame} {meth : Method} {c : Code} {D : va_G} {cy : Nat → ClassId} {S0 : Sg} (C : gC p s m args meth c D cy cX10_value 5 yX10_value.cls (some .long) yX10_value.name) {H : Heap} {locs : List Loc} {ls : Array Slot} {x0 : Nat} {x1 : Int32} {x3 : Int32} {S : Sg} {Q : Int64 → Sg → Prop} (hW : gW D cy (gA S0) (tg S0) s.heap S H locs) (t0 : tg S x0 = 11) (hl : lv_has ls 5 [(0, va_rf (some x0)), (1, .int x1), (3, .int x3)]) (hw : wX10_value_b26 x0 x1 x3 S Q) : W p l e { frames := 1, cells := 0, slots := 0, locals := 22 } s m args below meth c H locs 0 0 (MQ below (va_Ql Q (gB D cy S0) (gA S0)) args s 0 0 (gA S0)) (F0 m 26 ls []) := by
  have hx := C.1
  have hb := C.2.1
  unfold wX10_value_b26 at hw
  refine gx_null hx hb dX10_value_26 ?_
  exact kX10_value_b27 C hW t0 (lv_sub hl [0, 1, 2] rfl) hw
set_option maxHeartbeats 4000000 in
set_option maxRecDepth 100000 in
theorem mX10_value (l : Launch) (D : va_G) (cy : Nat → ClassId) (x0 : Nat) (x1 : Int32) (x2 : Int32) (x3 : Int32) (S0 : Sg) (Q : Int64 → Sg → Prop) (t0 : tg S0 x0 = 11) (hw : wX10_value x0 x1 x2 x3 S0 Q) : Met l yX10_value (.code yX10_value cX10_value 5 (some .long) :: wsL_law) { frames := 1, cells := 0, slots := 0, locals := 22 } (gPc D cy [va_rf (some x0), .int x1, .int x2, .int x3] S0) (va_Ql Q (gB D cy S0) (gA S0)) 0 0 (gA S0) := by
  refine gx_met (by decide) (Nat.le_of_ble_eq_true rfl) ?_
  intro p e s m args below meth c ls C hW hl
  have hx := C.1
  have hb := C.2.1
  have hl : lv_has ls 5 [(0, va_rf (some x0)), (1, .int x1), (2, .int x2), (3, .int x3)] := hl
  unfold wX10_value at hw
  refine lv_iload_n hx hb dX10_value_0 rfl (lv_at hl 1 rfl) ?_
  refine gx_ci (gx_rS C hW M10_110 (mX10_isOfEight l D cy _ _ _  hw) rfl rfl ⟨Nat.le_of_ble_eq_true rfl, Nat.le_of_ble_eq_true rfl⟩ rfl hl.1 rfl (gx_room0 (n := 4) (Nat.le_of_ble_eq_true rfl)) dX10_value_1 ⟨Nat.le_of_ble_eq_true rfl, Nat.le_of_ble_eq_true rfl⟩) hW (fun r1 S2 H locs hW hm hw => ?_)
  have t0 := hm _ _ t0
  refine lv_if_eq (tgt := 26) hx hb dX10_value_4 (by decide) (fun c3 => ?_) (fun c3 => ?_)
  · have hw := w_t hw c3
    exact kX10_value_b26 C hW t0 (lv_sub hl [0, 1, 3] rfl) hw
  · have hw := w_f hw c3
    refine lv_iload_n hx hb dX10_value_7 rfl (lv_at hl 2 rfl) ?_
    refine gx_ci (gx_rS C hW M10_110 (mX10_isOfEight l D cy _ _ _  hw) rfl rfl ⟨Nat.le_of_ble_eq_true rfl, Nat.le_of_ble_eq_true rfl⟩ rfl hl.1 rfl (gx_room0 (n := 4) (Nat.le_of_ble_eq_true rfl)) dX10_value_8 ⟨Nat.le_of_ble_eq_true rfl, Nat.le_of_ble_eq_true rfl⟩) hW (fun r16 S17 H locs hW hm hw => ?_)
    have t0 := hm _ _ t0
    refine lv_if_eq (tgt := 26) hx hb dX10_value_11 (by decide) (fun c18 => ?_) (fun c18 => ?_)
    · have hw := w_t hw c18
      exact kX10_value_b26 C hW t0 (lv_sub hl [0, 1, 3] rfl) hw
    · have hw := w_f hw c18
      refine gx_aload_n hx hb dX10_value_14 rfl (lv_at hl 0 rfl) ?_
      refine gx_getR C hW F10_19 (k := 641) rfl t0 rfl dX10_value_15 ?_
      refine lv_iload_n hx hb dX10_value_18 rfl (lv_at hl 1 rfl) ?_
      refine lv_iload_n hx hb dX10_value_19 rfl (lv_at hl 2 rfl) ?_
      obtain ⟨a19, ha19, ta19, hw⟩ := hw
      refine gx_cq (gx_rV C hW M10_130 (mX3_rowOf l D cy _ _ _ _ _ ta19 hw) rfl rfl ⟨Nat.le_of_ble_eq_true rfl, Nat.le_of_ble_eq_true rfl⟩ ha19 ta19 (by decide) rfl rfl hl.1 rfl (gx_room0 (n := 4) (Nat.le_of_ble_eq_true rfl)) dX10_value_20 ⟨Nat.le_of_ble_eq_true rfl, Nat.le_of_ble_eq_true rfl⟩) hW (fun r20 S21 H locs hW hm hw => ?_)
      have t0 := hm _ _ t0
      have ta19 := hm _ _ ta19
      refine lv_goto (tgt := 27) hx hb dX10_value_23 (by decide) ?_
      exact kX10_value_b27 C hW t0 (lv_sub hl [0, 1, 3] rfl) hw
/-! TrialStair.grid -/
def wX10_grid (x0 : Nat) (x1 : Int32) (x2 : Int32) (S0 : Sg) (Q : Int32 → Sg → Prop) : Prop := ∃ a1 : Nat, (fR S0 641 x0) = some a1 ∧ tg S0 a1 = 4 ∧ ∃ a2 : Nat, (fR S0 195 a1) = some a2 ∧ tg S0 a2 = 3 ∧ wX2_has a2 x1 x2 S0 (fun (r3 : Int32) (S4 : Sg) => (if r3 = 0 then Q (0 : Int32) S4 else ∃ a6 : Nat, (fR S4 641 x0) = some a6 ∧ tg S4 a6 = 4 ∧ ∃ a7 : Nat, (fR S4 195 a6) = some a7 ∧ tg S4 a7 = 3 ∧ wX2_cellAt a7 x1 x2 S4 (fun (r8 : Int32) (S9 : Sg) => Q r8 S9)))
set_option maxHeartbeats 4000000 in
set_option maxRecDepth 100000 in
theorem mX10_grid (l : Launch) (D : va_G) (cy : Nat → ClassId) (x0 : Nat) (x1 : Int32) (x2 : Int32) (S0 : Sg) (Q : Int32 → Sg → Prop) (t0 : tg S0 x0 = 11) (hw : wX10_grid x0 x1 x2 S0 Q) : Met l yX10_grid (.code yX10_grid cX10_grid 3 (some .int) :: wsL_law) { frames := 1, cells := 0, slots := 0, locals := 23 } (gPc D cy [va_rf (some x0), .int x1, .int x2] S0) (va_Qi Q (gB D cy S0) (gA S0)) 0 0 (gA S0) := by
  refine gx_met (by decide) (Nat.le_of_ble_eq_true rfl) ?_
  intro p e s m args below meth c ls C hW hl
  have hx := C.1
  have hb := C.2.1
  have hl : lv_has ls 3 [(0, va_rf (some x0)), (1, .int x1), (2, .int x2)] := hl
  unfold wX10_grid at hw
  refine gx_aload_n hx hb dX10_grid_0 rfl (lv_at hl 0 rfl) ?_
  refine gx_getR C hW F10_19 (k := 641) rfl t0 rfl dX10_grid_1 ?_
  obtain ⟨a1, ha1, ta1, hw⟩ := hw
  refine gx_getR C hW F10_148 (k := 195) ha1 ta1 rfl dX10_grid_4 ?_
  refine lv_iload_n hx hb dX10_grid_7 rfl (lv_at hl 1 rfl) ?_
  refine lv_iload_n hx hb dX10_grid_8 rfl (lv_at hl 2 rfl) ?_
  obtain ⟨a2, ha2, ta2, hw⟩ := hw
  refine gx_ci (gx_rV C hW M10_152 (mX2_has l D cy _ _ _ _ _ ta2 hw) rfl rfl ⟨Nat.le_of_ble_eq_true rfl, Nat.le_of_ble_eq_true rfl⟩ ha2 ta2 (by decide) rfl rfl hl.1 rfl (gx_room0 (n := 4) (Nat.le_of_ble_eq_true rfl)) dX10_grid_9 ⟨Nat.le_of_ble_eq_true rfl, Nat.le_of_ble_eq_true rfl⟩) hW (fun r3 S4 H locs hW hm hw => ?_)
  have t0 := hm _ _ t0
  have ta1 := hm _ _ ta1
  have ta2 := hm _ _ ta2
  refine lv_if_eq (tgt := 30) hx hb dX10_grid_12 (by decide) (fun c5 => ?_) (fun c5 => ?_)
  · have hw := w_t hw c5
    refine lv_iconst (v := 0) hx hb dX10_grid_30 (by decide) ?_
    exact gx_iret C hW (Nat.le_of_ble_eq_true rfl) (Nat.le_of_ble_eq_true rfl) rfl hw dX10_grid_31
  · have hw := w_f hw c5
    refine gx_aload_n hx hb dX10_grid_15 rfl (lv_at hl 0 rfl) ?_
    refine gx_getR C hW F10_19 (k := 641) rfl t0 rfl dX10_grid_16 ?_
    obtain ⟨a6, ha6, ta6, hw⟩ := hw
    refine gx_getR C hW F10_148 (k := 195) ha6 ta6 rfl dX10_grid_19 ?_
    refine lv_iload_n hx hb dX10_grid_22 rfl (lv_at hl 1 rfl) ?_
    refine lv_iload_n hx hb dX10_grid_23 rfl (lv_at hl 2 rfl) ?_
    obtain ⟨a7, ha7, ta7, hw⟩ := hw
    refine gx_ci (gx_rV C hW M10_157 (mX2_cellAt l D cy _ _ _ _ _ ta7 hw) rfl rfl ⟨Nat.le_of_ble_eq_true rfl, Nat.le_of_ble_eq_true rfl⟩ ha7 ta7 (by decide) rfl rfl hl.1 rfl (gx_room0 (n := 4) (Nat.le_of_ble_eq_true rfl)) dX10_grid_24 ⟨Nat.le_of_ble_eq_true rfl, Nat.le_of_ble_eq_true rfl⟩) hW (fun r8 S9 H locs hW hm hw => ?_)
    have t0 := hm _ _ t0
    have ta1 := hm _ _ ta1
    have ta2 := hm _ _ ta2
    have ta6 := hm _ _ ta6
    have ta7 := hm _ _ ta7
    refine lv_goto (tgt := 31) hx hb dX10_grid_27 (by decide) ?_
    exact gx_iret C hW (Nat.le_of_ble_eq_true rfl) (Nat.le_of_ble_eq_true rfl) rfl hw dX10_grid_31
