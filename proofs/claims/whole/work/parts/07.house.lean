/-! TrialStair$House.<init> -/
def wX3_init (x0 : Nat) (S0 : Sg) (Q : Sg → Prop) : Prop := ∀ S2 : Sg, S2 = nw S0 14 8 → ∀ S3 : Sg, S3 = sFR S2 192 x0 (some (sz S0)) → ∀ S5 : Sg, S5 = nw S3 18 8 → ∀ S6 : Sg, S6 = sFR S5 193 x0 (some (sz S3)) → ∀ S8 : Sg, S8 = nw S6 16 64 → ∀ S9 : Sg, S9 = sFR S8 194 x0 (some (sz S6)) → ∀ S11 : Sg, S11 = nw S9 3 0 → wX2_init (sz S9)  S11 (fun (S13 : Sg) => ∀ S14 : Sg, S14 = sFR S13 195 x0 (some (sz S9)) → Q S14)
set_option maxHeartbeats 4000000 in
set_option maxRecDepth 100000 in
theorem mX3_init (l : Launch) (D : va_G) (cy : Nat → ClassId) (x0 : Nat) (S0 : Sg) (Q : Sg → Prop) (t0 : tg S0 x0 = 4) (hw : wX3_init x0 S0 Q) : Met l yX3_init (.code yX3_init cX3_init 1 none :: wsL_law) { frames := 2, cells := 5, slots := 133, locals := 40 } (gPc D cy [va_rf (some x0)] S0) (va_Qv Q (gB D cy S0) (gA S0)) 5 133 (gA S0) := by
  refine gx_met (by decide) (Nat.le_of_ble_eq_true rfl) ?_
  intro p e s m args below meth c ls C hW hl
  have hx := C.1
  have hb := C.2.1
  have hl : lv_has ls 1 [(0, va_rf (some x0))] := hl
  unfold wX3_init at hw
  refine gx_aload_n hx hb dX3_init_0 rfl (lv_at hl 0 rfl) ?_
  refine gx_objInit C (List.mem_of_getElem? (i := 37) (by decide +kernel)) (List.mem_of_getElem? (i := 10) (by decide +kernel)) (List.mem_of_getElem? (i := 11) (by decide +kernel)) rfl hl.1 dX3_init_1 (Nat.le_of_ble_eq_true rfl) (Nat.le_of_ble_eq_true rfl) (Nat.le_of_ble_eq_true rfl) ?_
  refine gx_aload_n hx hb dX3_init_4 rfl (lv_at hl 0 rfl) ?_
  refine lv_bipush (v := 8) hx hb dX3_init_5 (by decide) ?_
  refine gx_newa (at0 := .long) (k := 1) (K := 8) (N := 8) C hW (List.mem_of_getElem? (i := 38) (by decide +kernel)) (Or.inr (Or.inl ⟨rfl, rfl⟩)) (by decide) (by decide) (by decide) (by decide) (Nat.le_of_ble_eq_true rfl) (Nat.le_of_ble_eq_true rfl) dX3_init_7 (fun H S2 eS2 hW hm t1 => ?_)
  have hw := hw S2 eS2
  have t0 := hm _ _ t0
  refine gx_putR (k := 192) C hW F3_9 (Or.inr ⟨rfl, rfl, rfl⟩) rfl rfl t0 rfl dX3_init_9 (fun H locs S3 eS3 hW hm => ?_)
  have hw := hw S3 eS3
  have t0 := hm _ _ t0
  have t1 := hm _ _ t1
  refine gx_aload_n hx hb dX3_init_12 rfl (lv_at hl 0 rfl) ?_
  refine lv_bipush (v := 8) hx hb dX3_init_13 (by decide) ?_
  refine gx_newq (Cn := RX8) (k := 5) (K := 8) (N := 8) C hW (List.mem_of_getElem? (i := 40) (by decide +kernel)) (Or.inr (Or.inr ⟨rfl, rfl⟩)) (by decide) (by decide) (by decide) (by decide) (Nat.le_of_ble_eq_true rfl) (Nat.le_of_ble_eq_true rfl) dX3_init_15 (fun H S5 eS5 hW hm t4 => ?_)
  have hw := hw S5 eS5
  have t0 := hm _ _ t0
  have t1 := hm _ _ t1
  refine gx_putR (k := 193) C hW F3_17 (Or.inr ⟨rfl, rfl, rfl⟩) rfl rfl t0 rfl dX3_init_18 (fun H locs S6 eS6 hW hm => ?_)
  have hw := hw S6 eS6
  have t0 := hm _ _ t0
  have t1 := hm _ _ t1
  have t4 := hm _ _ t4
  refine gx_aload_n hx hb dX3_init_21 rfl (lv_at hl 0 rfl) ?_
  refine lv_bipush (v := 64) hx hb dX3_init_22 (by decide) ?_
  refine gx_newq (Cn := RX5) (k := 3) (K := 64) (N := 64) C hW (List.mem_of_getElem? (i := 42) (by decide +kernel)) (Or.inl ⟨rfl, rfl⟩) (by decide) (by decide) (by decide) (by decide) (Nat.le_of_ble_eq_true rfl) (Nat.le_of_ble_eq_true rfl) dX3_init_24 (fun H S8 eS8 hW hm t7 => ?_)
  have hw := hw S8 eS8
  have t0 := hm _ _ t0
  have t1 := hm _ _ t1
  have t4 := hm _ _ t4
  refine gx_putR (k := 194) C hW F3_23 (Or.inr ⟨rfl, rfl, rfl⟩) rfl rfl t0 rfl dX3_init_27 (fun H locs S9 eS9 hW hm => ?_)
  have hw := hw S9 eS9
  have t0 := hm _ _ t0
  have t1 := hm _ _ t1
  have t4 := hm _ _ t4
  have t7 := hm _ _ t7
  refine gx_aload_n hx hb dX3_init_30 rfl (lv_at hl 0 rfl) ?_
  refine gx_new C hW N3_27 (Nat.le_of_ble_eq_true rfl) (Nat.le_of_ble_eq_true rfl) dX3_init_31 (fun H S11 eS11 hW hm t10 => ?_)
  have hw := hw S11 eS11
  have t0 := hm _ _ t0
  have t1 := hm _ _ t1
  have t4 := hm _ _ t4
  have t7 := hm _ _ t7
  refine lv_dup hx hb dX3_init_34 (va_rf_cat _) ?_
  refine gx_cv (gx_rN C hW M3_29 C.2.2.2.2.2.2.2.1.2.2.1 (mX2_init l D cy _ _ _ t10 hw) rfl rfl ⟨Nat.le_of_ble_eq_true rfl, Nat.le_of_ble_eq_true rfl⟩ rfl rfl hl.1 rfl (gx_room0 (n := 4) (Nat.le_of_ble_eq_true rfl)) dX3_init_35 ⟨Nat.le_of_ble_eq_true rfl, Nat.le_of_ble_eq_true rfl⟩) hW (fun S13 H locs hW hm hw => ?_)
  have t0 := hm _ _ t0
  have t1 := hm _ _ t1
  have t4 := hm _ _ t4
  have t7 := hm _ _ t7
  have t10 := hm _ _ t10
  refine gx_putR (k := 195) C hW F3_30 (Or.inr ⟨rfl, rfl, rfl⟩) rfl rfl t0 rfl dX3_init_38 (fun H locs S14 eS14 hW hm => ?_)
  have hw := hw S14 eS14
  have t0 := hm _ _ t0
  have t1 := hm _ _ t1
  have t4 := hm _ _ t4
  have t7 := hm _ _ t7
  have t10 := hm _ _ t10
  exact gx_vret C hW (Nat.le_of_ble_eq_true rfl) (Nat.le_of_ble_eq_true rfl) hw dX3_init_41
/-! TrialStair$House.numberOf -/
def wX3_numberOf (x0 : Nat) (x1 : Int32) (S0 : Sg) (Q : Int64 → Sg → Prop) : Prop := ∃ a1 : Nat, (fR S0 192 x0) = some a1 ∧ tg S0 a1 = 14 ∧ vp_in (x1 &&& (7 : Int32)) (ln S0 a1) ∧ Q (aL S0 a1 ((x1 &&& (7 : Int32))).toNatClampNeg) S0
set_option maxHeartbeats 4000000 in
set_option maxRecDepth 100000 in
theorem mX3_numberOf (l : Launch) (D : va_G) (cy : Nat → ClassId) (x0 : Nat) (x1 : Int32) (S0 : Sg) (Q : Int64 → Sg → Prop) (t0 : tg S0 x0 = 4) (hw : wX3_numberOf x0 x1 S0 Q) : Met l yX3_numberOf (.code yX3_numberOf cX3_numberOf 2 (some .long) :: wsL_law) { frames := 0, cells := 0, slots := 0, locals := 0 } (gPc D cy [va_rf (some x0), .int x1] S0) (va_Ql Q (gB D cy S0) (gA S0)) 0 0 (gA S0) := by
  refine gx_met (by decide) (Nat.le_of_ble_eq_true rfl) ?_
  intro p e s m args below meth c ls C hW hl
  have hx := C.1
  have hb := C.2.1
  have hl : lv_has ls 2 [(0, va_rf (some x0)), (1, .int x1)] := hl
  unfold wX3_numberOf at hw
  refine gx_aload_n hx hb dX3_numberOf_0 rfl (lv_at hl 0 rfl) ?_
  refine gx_getR C hW F3_9 (k := 192) rfl t0 rfl dX3_numberOf_1 ?_
  refine lv_iload_n hx hb dX3_numberOf_4 rfl (lv_at hl 1 rfl) ?_
  refine lv_bipush (v := 7) hx hb dX3_numberOf_5 (by decide) ?_
  refine lv_iand hx hb dX3_numberOf_7 ?_
  obtain ⟨a1, ha1, ta1, hw⟩ := hw
  obtain ⟨i2, hw⟩ := hw
  refine gx_lald C hW ha1 ta1 i2 dX3_numberOf_8 ?_
  exact gx_lret C hW (Nat.le_of_ble_eq_true rfl) (Nat.le_of_ble_eq_true rfl) hw dX3_numberOf_9
/-! TrialStair$House.setNumber -/
def wX3_setNumber (x0 : Nat) (x1 : Int32) (x2 : Int64) (S0 : Sg) (Q : Sg → Prop) : Prop := ∃ a1 : Nat, (fR S0 192 x0) = some a1 ∧ tg S0 a1 = 14 ∧ vp_in (x1 &&& (7 : Int32)) (ln S0 a1) ∧ ∀ S3 : Sg, S3 = sAL S0 a1 ((x1 &&& (7 : Int32))).toNatClampNeg x2 → Q S3
set_option maxHeartbeats 4000000 in
set_option maxRecDepth 100000 in
theorem mX3_setNumber (l : Launch) (D : va_G) (cy : Nat → ClassId) (x0 : Nat) (x1 : Int32) (x2 : Int64) (S0 : Sg) (Q : Sg → Prop) (t0 : tg S0 x0 = 4) (hw : wX3_setNumber x0 x1 x2 S0 Q) : Met l yX3_setNumber (.code yX3_setNumber cX3_setNumber 4 none :: wsL_law) { frames := 0, cells := 0, slots := 0, locals := 0 } (gPc D cy [va_rf (some x0), .int x1, .long x2] S0) (va_Qv Q (gB D cy S0) (gA S0)) 0 0 (gA S0) := by
  refine gx_met (by decide) (Nat.le_of_ble_eq_true rfl) ?_
  intro p e s m args below meth c ls C hW hl
  have hx := C.1
  have hb := C.2.1
  have hl : lv_has ls 4 [(0, va_rf (some x0)), (1, .int x1), (2, .long x2)] := hl
  unfold wX3_setNumber at hw
  refine gx_aload_n hx hb dX3_setNumber_0 rfl (lv_at hl 0 rfl) ?_
  refine gx_getR C hW F3_9 (k := 192) rfl t0 rfl dX3_setNumber_1 ?_
  refine lv_iload_n hx hb dX3_setNumber_4 rfl (lv_at hl 1 rfl) ?_
  refine lv_bipush (v := 7) hx hb dX3_setNumber_5 (by decide) ?_
  refine lv_iand hx hb dX3_setNumber_7 ?_
  refine lv_lload_n hx hb dX3_setNumber_8 rfl (lv_at hl 2 rfl) ?_
  obtain ⟨a1, ha1, ta1, hw⟩ := hw
  obtain ⟨i2, hw⟩ := hw
  refine gx_last C hW ha1 ta1 i2 dX3_setNumber_9 (fun H locs S3 eS3 hW hm => ?_)
  have hw := hw S3 eS3
  have t0 := hm _ _ t0
  have ta1 := hm _ _ ta1
  exact gx_vret C hW (Nat.le_of_ble_eq_true rfl) (Nat.le_of_ble_eq_true rfl) hw dX3_setNumber_10
/-! TrialStair$House.thingOf -/
def wX3_thingOf (x0 : Nat) (x1 : Int32) (S0 : Sg) (Q : Option Nat → Sg → Prop) : Prop := ∃ a1 : Nat, (fR S0 193 x0) = some a1 ∧ tg S0 a1 = 18 ∧ vp_in (x1 &&& (7 : Int32)) (ln S0 a1) ∧ Q (aR S0 a1 ((x1 &&& (7 : Int32))).toNatClampNeg) S0
set_option maxHeartbeats 4000000 in
set_option maxRecDepth 100000 in
theorem mX3_thingOf (l : Launch) (D : va_G) (cy : Nat → ClassId) (x0 : Nat) (x1 : Int32) (S0 : Sg) (Q : Option Nat → Sg → Prop) (t0 : tg S0 x0 = 4) (hw : wX3_thingOf x0 x1 S0 Q) : Met l yX3_thingOf (.code yX3_thingOf cX3_thingOf 2 (some (.object "TrialStair$Thing")) :: wsL_law) { frames := 0, cells := 0, slots := 0, locals := 0 } (gPc D cy [va_rf (some x0), .int x1] S0) (va_Qq Q (gB D cy S0) (gA S0)) 0 0 (gA S0) := by
  refine gx_met (by decide) (Nat.le_of_ble_eq_true rfl) ?_
  intro p e s m args below meth c ls C hW hl
  have hx := C.1
  have hb := C.2.1
  have hl : lv_has ls 2 [(0, va_rf (some x0)), (1, .int x1)] := hl
  unfold wX3_thingOf at hw
  refine gx_aload_n hx hb dX3_thingOf_0 rfl (lv_at hl 0 rfl) ?_
  refine gx_getR C hW F3_17 (k := 193) rfl t0 rfl dX3_thingOf_1 ?_
  refine lv_iload_n hx hb dX3_thingOf_4 rfl (lv_at hl 1 rfl) ?_
  refine lv_bipush (v := 7) hx hb dX3_thingOf_5 (by decide) ?_
  refine lv_iand hx hb dX3_thingOf_7 ?_
  obtain ⟨a1, ha1, ta1, hw⟩ := hw
  obtain ⟨i2, hw⟩ := hw
  refine gx_aald C hW ha1 (Or.inr (Or.inr ta1)) i2 dX3_thingOf_8 ?_
  exact gx_aret C hW (Nat.le_of_ble_eq_true rfl) (Nat.le_of_ble_eq_true rfl) hw dX3_thingOf_9
/-! TrialStair$House.rowOf -/
def wX3_rowOf (x0 : Nat) (x1 : Int32) (x2 : Int32) (S0 : Sg) (Q : Option Nat → Sg → Prop) : Prop := ∃ a1 : Nat, (fR S0 194 x0) = some a1 ∧ tg S0 a1 = 16 ∧ vp_in (((x1 &&& (7 : Int32)) <<< ((3 : Int32) &&& 31)) ||| (x2 &&& (7 : Int32))) (ln S0 a1) ∧ Q (aR S0 a1 ((((x1 &&& (7 : Int32)) <<< ((3 : Int32) &&& 31)) ||| (x2 &&& (7 : Int32)))).toNatClampNeg) S0
set_option maxHeartbeats 4000000 in
set_option maxRecDepth 100000 in
theorem mX3_rowOf (l : Launch) (D : va_G) (cy : Nat → ClassId) (x0 : Nat) (x1 : Int32) (x2 : Int32) (S0 : Sg) (Q : Option Nat → Sg → Prop) (t0 : tg S0 x0 = 4) (hw : wX3_rowOf x0 x1 x2 S0 Q) : Met l yX3_rowOf (.code yX3_rowOf cX3_rowOf 3 (some (.object "TrialStair$Row")) :: wsL_law) { frames := 0, cells := 0, slots := 0, locals := 0 } (gPc D cy [va_rf (some x0), .int x1, .int x2] S0) (va_Qq Q (gB D cy S0) (gA S0)) 0 0 (gA S0) := by
  refine gx_met (by decide) (Nat.le_of_ble_eq_true rfl) ?_
  intro p e s m args below meth c ls C hW hl
  have hx := C.1
  have hb := C.2.1
  have hl : lv_has ls 3 [(0, va_rf (some x0)), (1, .int x1), (2, .int x2)] := hl
  unfold wX3_rowOf at hw
  refine gx_aload_n hx hb dX3_rowOf_0 rfl (lv_at hl 0 rfl) ?_
  refine gx_getR C hW F3_23 (k := 194) rfl t0 rfl dX3_rowOf_1 ?_
  refine lv_iload_n hx hb dX3_rowOf_4 rfl (lv_at hl 1 rfl) ?_
  refine lv_bipush (v := 7) hx hb dX3_rowOf_5 (by decide) ?_
  refine lv_iand hx hb dX3_rowOf_7 ?_
  refine lv_iconst (v := 3) hx hb dX3_rowOf_8 (by decide) ?_
  refine lv_ishl hx hb dX3_rowOf_9 ?_
  refine lv_iload_n hx hb dX3_rowOf_10 rfl (lv_at hl 2 rfl) ?_
  refine lv_bipush (v := 7) hx hb dX3_rowOf_11 (by decide) ?_
  refine lv_iand hx hb dX3_rowOf_13 ?_
  refine lv_ior hx hb dX3_rowOf_14 ?_
  obtain ⟨a1, ha1, ta1, hw⟩ := hw
  obtain ⟨i2, hw⟩ := hw
  refine gx_aald C hW ha1 (Or.inl ta1) i2 dX3_rowOf_15 ?_
  exact gx_aret C hW (Nat.le_of_ble_eq_true rfl) (Nat.le_of_ble_eq_true rfl) hw dX3_rowOf_16
/-! TrialStair$House.intOf -/
def wX3_intOf (x0 : Nat) (x1 : Int32) (S0 : Sg) (Q : Int32 → Sg → Prop) : Prop := wX3_numberOf x0 x1 S0 (fun (r1 : Int64) (S2 : Sg) => Q ((r1).toInt32) S2)
set_option maxHeartbeats 4000000 in
set_option maxRecDepth 100000 in
theorem mX3_intOf (l : Launch) (D : va_G) (cy : Nat → ClassId) (x0 : Nat) (x1 : Int32) (S0 : Sg) (Q : Int32 → Sg → Prop) (t0 : tg S0 x0 = 4) (hw : wX3_intOf x0 x1 S0 Q) : Met l yX3_intOf (.code yX3_intOf cX3_intOf 2 (some .int) :: wsL_law) { frames := 1, cells := 0, slots := 0, locals := 21 } (gPc D cy [va_rf (some x0), .int x1] S0) (va_Qi Q (gB D cy S0) (gA S0)) 0 0 (gA S0) := by
  refine gx_met (by decide) (Nat.le_of_ble_eq_true rfl) ?_
  intro p e s m args below meth c ls C hW hl
  have hx := C.1
  have hb := C.2.1
  have hl : lv_has ls 2 [(0, va_rf (some x0)), (1, .int x1)] := hl
  unfold wX3_intOf at hw
  refine gx_aload_n hx hb dX3_intOf_0 rfl (lv_at hl 0 rfl) ?_
  refine lv_iload_n hx hb dX3_intOf_1 rfl (lv_at hl 1 rfl) ?_
  refine gx_cl (gx_rV C hW M3_34 (mX3_numberOf l D cy _ _ _ _ t0 hw) rfl rfl ⟨Nat.le_of_ble_eq_true rfl, Nat.le_of_ble_eq_true rfl⟩ rfl t0 (by decide) rfl rfl hl.1 rfl (gx_room0 (n := 4) (Nat.le_of_ble_eq_true rfl)) dX3_intOf_2 ⟨Nat.le_of_ble_eq_true rfl, Nat.le_of_ble_eq_true rfl⟩) hW (fun r1 S2 H locs hW hm hw => ?_)
  have t0 := hm _ _ t0
  refine lv_l2i (v := _) hx hb dX3_intOf_5 rfl ?_
  exact gx_iret C hW (Nat.le_of_ble_eq_true rfl) (Nat.le_of_ble_eq_true rfl) rfl hw dX3_intOf_6
/-! TrialStair$House.reckoned -/
def wX3_reckoned (x0 : Option Nat) (x1 : Int64) (x3 : Int64) (S0 : Sg) (Q : Int64 → Sg → Prop) : Prop := ∃ a1 : Nat, x0 = some a1 ∧ tg S0 a1 = 8 ∧ (if (fI S0 449 a1) = 1 then Q (((fI S0 451 a1)).toInt64) S0 else (if (fI S0 449 a1) = 2 then Q (x1 + x3) S0 else (if (fI S0 449 a1) = 3 then Q (x1 - x3) S0 else (if (fI S0 449 a1) = 4 then Q (x1 * x3) S0 else (if (fI S0 449 a1) = 5 then (if (lg_cmp x3 (0 : Int64)) = 0 then Q (0 : Int64) S0 else ¬ x3 = 0 ∧ Q (x1 / x3) S0) else (if (lg_cmp x3 (0 : Int64)) = 0 then Q (0 : Int64) S0 else ¬ x3 = 0 ∧ Q (x1 - x1 / x3 * x3) S0))))))
set_option maxHeartbeats 4000000 in
set_option maxRecDepth 100000 in
theorem mX3_reckoned (l : Launch) (D : va_G) (cy : Nat → ClassId) (x0 : Option Nat) (x1 : Int64) (x3 : Int64) (S0 : Sg) (Q : Int64 → Sg → Prop) (hw : wX3_reckoned x0 x1 x3 S0 Q) : Met l yX3_reckoned (.code yX3_reckoned cX3_reckoned 5 (some .long) :: wsL_law) { frames := 0, cells := 0, slots := 0, locals := 0 } (gPc D cy [va_rf x0, .long x1, .long x3] S0) (va_Ql Q (gB D cy S0) (gA S0)) 0 0 (gA S0) := by
  refine gx_met (by decide) (by simp [lg_sl, va_rf_cat, cat_i, cat_l]) ?_
  intro p e s m args below meth c ls C hW hl
  have hx := C.1
  have hb := C.2.1
  have hl : lv_has ls 5 [(0, va_rf x0), (1, .long x1), (3, .long x3)] := by simpa [lv_args, va_rf_cat, cat_i, cat_l] using hl
  unfold wX3_reckoned at hw
  refine gx_aload_n hx hb dX3_reckoned_0 rfl (lv_at hl 0 rfl) ?_
  obtain ⟨a1, ha1, ta1, hw⟩ := hw
  refine gx_getI C hW F3_38 (k := 449) ha1 ta1 rfl dX3_reckoned_1 ?_
  by_cases c2 : (fI S0 449 a1) = (1 : Int32)
  · have hw := w_t hw c2
    refine lv_tableIn (off := 36) (tgt := 40) hx hb dX3_reckoned_4 (by rw [c2]; decide) (by rw [c2]; decide) (by rw [c2]; rfl) (by decide) ?_
    refine gx_aload_n hx hb dX3_reckoned_40 rfl (lv_at hl 0 rfl) ?_
    refine gx_getI C hW F3_63 (k := 451) ha1 ta1 rfl dX3_reckoned_41 ?_
    refine lv_i2l (v := _) hx hb dX3_reckoned_44 rfl ?_
    exact gx_lret C hW (Nat.le_of_ble_eq_true rfl) (Nat.le_of_ble_eq_true rfl) hw dX3_reckoned_45
  · have hw := w_f hw c2
    by_cases c3 : (fI S0 449 a1) = (2 : Int32)
    · have hw := w_t hw c3
      refine lv_tableIn (off := 42) (tgt := 46) hx hb dX3_reckoned_4 (by rw [c3]; decide) (by rw [c3]; decide) (by rw [c3]; rfl) (by decide) ?_
      refine lv_lload_n hx hb dX3_reckoned_46 rfl (lv_at hl 1 rfl) ?_
      refine lv_lload_n hx hb dX3_reckoned_47 rfl (lv_at hl 2 rfl) ?_
      refine lv_ladd hx hb dX3_reckoned_48 ?_
      exact gx_lret C hW (Nat.le_of_ble_eq_true rfl) (Nat.le_of_ble_eq_true rfl) hw dX3_reckoned_49
    · have hw := w_f hw c3
      by_cases c4 : (fI S0 449 a1) = (3 : Int32)
      · have hw := w_t hw c4
        refine lv_tableIn (off := 46) (tgt := 50) hx hb dX3_reckoned_4 (by rw [c4]; decide) (by rw [c4]; decide) (by rw [c4]; rfl) (by decide) ?_
        refine lv_lload_n hx hb dX3_reckoned_50 rfl (lv_at hl 1 rfl) ?_
        refine lv_lload_n hx hb dX3_reckoned_51 rfl (lv_at hl 2 rfl) ?_
        refine lv_lsub hx hb dX3_reckoned_52 ?_
        exact gx_lret C hW (Nat.le_of_ble_eq_true rfl) (Nat.le_of_ble_eq_true rfl) hw dX3_reckoned_53
      · have hw := w_f hw c4
        by_cases c5 : (fI S0 449 a1) = (4 : Int32)
        · have hw := w_t hw c5
          refine lv_tableIn (off := 50) (tgt := 54) hx hb dX3_reckoned_4 (by rw [c5]; decide) (by rw [c5]; decide) (by rw [c5]; rfl) (by decide) ?_
          refine lv_lload_n hx hb dX3_reckoned_54 rfl (lv_at hl 1 rfl) ?_
          refine lv_lload_n hx hb dX3_reckoned_55 rfl (lv_at hl 2 rfl) ?_
          refine lv_lmul hx hb dX3_reckoned_56 ?_
          exact gx_lret C hW (Nat.le_of_ble_eq_true rfl) (Nat.le_of_ble_eq_true rfl) hw dX3_reckoned_57
        · have hw := w_f hw c5
          by_cases c6 : (fI S0 449 a1) = (5 : Int32)
          · have hw := w_t hw c6
            refine lv_tableIn (off := 54) (tgt := 58) hx hb dX3_reckoned_4 (by rw [c6]; decide) (by rw [c6]; decide) (by rw [c6]; rfl) (by decide) ?_
            refine lv_lload_n hx hb dX3_reckoned_58 rfl (lv_at hl 2 rfl) ?_
            refine lv_lconst (v := 0) hx hb dX3_reckoned_59 (by decide) ?_
            refine W.lcmp hx hb dX3_reckoned_60 ?_
            refine lv_if_ne (tgt := 68) hx hb dX3_reckoned_61 (by decide) (fun c7 => ?_) (fun c7 => ?_)
            · have hw := w_f hw c7
              refine lv_lload_n hx hb dX3_reckoned_68 rfl (lv_at hl 1 rfl) ?_
              refine lv_lload_n hx hb dX3_reckoned_69 rfl (lv_at hl 2 rfl) ?_
              obtain ⟨n8, hw⟩ := hw
              refine lv_ldiv hx hb dX3_reckoned_70 n8 ?_
              exact gx_lret C hW (Nat.le_of_ble_eq_true rfl) (Nat.le_of_ble_eq_true rfl) hw dX3_reckoned_71
            · have hw := w_t hw c7
              refine lv_lconst (v := 0) hx hb dX3_reckoned_64 (by decide) ?_
              refine lv_goto (tgt := 71) hx hb dX3_reckoned_65 (by decide) ?_
              exact gx_lret C hW (Nat.le_of_ble_eq_true rfl) (Nat.le_of_ble_eq_true rfl) hw dX3_reckoned_71
          · have hw := w_f hw c6
            refine gx_tdef (n := 5) (tgt := 72) hx hb dX3_reckoned_4 (by decide) (by decide) (lt_s (lt_s (lt_s (lt_s (lt_s (lt_0) (fun hx9 => tb_ne c2 (by decide) hx9)) (fun hx9 => tb_ne c3 (by decide) hx9)) (fun hx9 => tb_ne c4 (by decide) hx9)) (fun hx9 => tb_ne c5 (by decide) hx9)) (fun hx9 => tb_ne c6 (by decide) hx9)) ?_
            refine lv_lload_n hx hb dX3_reckoned_72 rfl (lv_at hl 2 rfl) ?_
            refine lv_lconst (v := 0) hx hb dX3_reckoned_73 (by decide) ?_
            refine W.lcmp hx hb dX3_reckoned_74 ?_
            refine lv_if_ne (tgt := 82) hx hb dX3_reckoned_75 (by decide) (fun c9 => ?_) (fun c9 => ?_)
            · have hw := w_f hw c9
              refine lv_lload_n hx hb dX3_reckoned_82 rfl (lv_at hl 1 rfl) ?_
              refine lv_lload_n hx hb dX3_reckoned_83 rfl (lv_at hl 2 rfl) ?_
              obtain ⟨n10, hw⟩ := hw
              refine lv_lrem hx hb dX3_reckoned_84 n10 ?_
              exact gx_lret C hW (Nat.le_of_ble_eq_true rfl) (Nat.le_of_ble_eq_true rfl) hw dX3_reckoned_85
            · have hw := w_t hw c9
              refine lv_lconst (v := 0) hx hb dX3_reckoned_78 (by decide) ?_
              refine lv_goto (tgt := 85) hx hb dX3_reckoned_79 (by decide) ?_
              exact gx_lret C hW (Nat.le_of_ble_eq_true rfl) (Nat.le_of_ble_eq_true rfl) hw dX3_reckoned_85
/-! TrialStair$House.reckon -/
def wX3_reckon_b36 (x0 : Nat) (x1 : Option Nat) (x2 : Int64) (x4 : Int64) (S : Sg) (Q : Int32 → Sg → Prop) : Prop := ∃ a7 : Nat, x1 = some a7 ∧ tg S a7 = 8 ∧ wX3_reckoned x1 x2 x4 S (fun (r8 : Int64) (S9 : Sg) => wX3_setNumber x0 (fI S 450 a7) r8 S9 (fun (S11 : Sg) => Q (-1 : Int32) S11))
def wX3_reckon (x0 : Nat) (x1 : Option Nat) (S0 : Sg) (Q : Int32 → Sg → Prop) : Prop := ∃ a1 : Nat, x1 = some a1 ∧ tg S0 a1 = 8 ∧ wX3_numberOf x0 (fI S0 451 a1) S0 (fun (r2 : Int64) (S3 : Sg) => wX3_numberOf x0 (fI S3 452 a1) S3 (fun (r4 : Int64) (S5 : Sg) => (if (lg_cmp r4 (0 : Int64)) = 0 then (if (fI S5 449 a1) < (5 : Int32) then wX3_reckon_b36 x0 x1 r2 r4 S5 Q else Q (4 : Int32) S5) else wX3_reckon_b36 x0 x1 r2 r4 S5 Q)))
set_option maxHeartbeats 4000000 in
set_option maxRecDepth 100000 in
theorem kX3_reckon_b36 {p : Program} {l : Launch} {e : Env} {s : State} {m : MethodId} {args : Array Value} {below : List Frame} {meth : Method} {c : Code} {D : va_G} {cy : Nat → ClassId} {S0 : Sg} (C : gC p s m args meth c D cy cX3_reckon 6 yX3_reckon.cls (some .int) yX3_reckon.name) {H : Heap} {locs : List Loc} {ls : Array Slot} {x0 : Nat} {x1 : Option Nat} {x2 : Int64} {x4 : Int64} {S : Sg} {Q : Int32 → Sg → Prop} (hW : gW D cy (gA S0) (tg S0) s.heap S H locs) (t0 : tg S x0 = 4) (hl : lv_has ls 6 [(0, va_rf (some x0)), (1, va_rf x1), (2, .long x2), (4, .long x4)]) (hw : wX3_reckon_b36 x0 x1 x2 x4 S Q) : W p l e { frames := 1, cells := 0, slots := 0, locals := 24 } s m args below meth c H locs 0 0 (MQ below (va_Qi Q (gB D cy S0) (gA S0)) args s 0 0 (gA S0)) (F0 m 36 ls []) := by
  have hx := C.1
  have hb := C.2.1
  unfold wX3_reckon_b36 at hw
  refine gx_aload_n hx hb dX3_reckon_36 rfl (lv_at hl 0 rfl) ?_
  refine gx_aload_n hx hb dX3_reckon_37 rfl (lv_at hl 1 rfl) ?_
  obtain ⟨a7, ha7, ta7, hw⟩ := hw
  refine gx_getI C hW F3_69 (k := 450) ha7 ta7 rfl dX3_reckon_38 ?_
  refine gx_aload_n hx hb dX3_reckon_41 rfl (lv_at hl 1 rfl) ?_
  refine lv_lload_n hx hb dX3_reckon_42 rfl (lv_at hl 2 rfl) ?_
  refine lv_lload hx hb dX3_reckon_43 (lv_at hl 3 rfl) ?_
  refine gx_cl (gx_rS C hW M3_72 (mX3_reckoned l D cy _ _ _ _ _  hw) rfl rfl ⟨Nat.le_of_ble_eq_true rfl, Nat.le_of_ble_eq_true rfl⟩ rfl hl.1 rfl (gx_room0 (n := 4) (Nat.le_of_ble_eq_true rfl)) dX3_reckon_45 ⟨Nat.le_of_ble_eq_true rfl, Nat.le_of_ble_eq_true rfl⟩) hW (fun r8 S9 H locs hW hm hw => ?_)
  have t0 := hm _ _ t0
  have ta7 := hm _ _ ta7
  refine gx_cv (gx_rV C hW M3_76 (mX3_setNumber l D cy _ _ _ _ _ t0 hw) rfl rfl ⟨Nat.le_of_ble_eq_true rfl, Nat.le_of_ble_eq_true rfl⟩ rfl t0 (by decide) rfl rfl hl.1 rfl (gx_room0 (n := 4) (Nat.le_of_ble_eq_true rfl)) dX3_reckon_48 ⟨Nat.le_of_ble_eq_true rfl, Nat.le_of_ble_eq_true rfl⟩) hW (fun S11 H locs hW hm hw => ?_)
  have t0 := hm _ _ t0
  have ta7 := hm _ _ ta7
  refine lv_iconst (v := -1) hx hb dX3_reckon_51 (by decide) ?_
  exact gx_iret C hW (Nat.le_of_ble_eq_true rfl) (Nat.le_of_ble_eq_true rfl) rfl hw dX3_reckon_52
set_option maxHeartbeats 4000000 in
set_option maxRecDepth 100000 in
theorem mX3_reckon (l : Launch) (D : va_G) (cy : Nat → ClassId) (x0 : Nat) (x1 : Option Nat) (S0 : Sg) (Q : Int32 → Sg → Prop) (t0 : tg S0 x0 = 4) (hw : wX3_reckon x0 x1 S0 Q) : Met l yX3_reckon (.code yX3_reckon cX3_reckon 6 (some .int) :: wsL_law) { frames := 1, cells := 0, slots := 0, locals := 24 } (gPc D cy [va_rf (some x0), va_rf x1] S0) (va_Qi Q (gB D cy S0) (gA S0)) 0 0 (gA S0) := by
  refine gx_met (by decide) (by simp [lg_sl, va_rf_cat, cat_i, cat_l]) ?_
  intro p e s m args below meth c ls C hW hl
  have hx := C.1
  have hb := C.2.1
  have hl : lv_has ls 6 [(0, va_rf (some x0)), (1, va_rf x1)] := by simpa [lv_args, va_rf_cat, cat_i, cat_l] using hl
  unfold wX3_reckon at hw
  refine gx_aload_n hx hb dX3_reckon_0 rfl (lv_at hl 0 rfl) ?_
  refine gx_aload_n hx hb dX3_reckon_1 rfl (lv_at hl 1 rfl) ?_
  obtain ⟨a1, ha1, ta1, hw⟩ := hw
  refine gx_getI C hW F3_63 (k := 451) ha1 ta1 rfl dX3_reckon_2 ?_
  refine gx_cl (gx_rV C hW M3_34 (mX3_numberOf l D cy _ _ _ _ t0 hw) rfl rfl ⟨Nat.le_of_ble_eq_true rfl, Nat.le_of_ble_eq_true rfl⟩ rfl t0 (by decide) rfl rfl hl.1 rfl (gx_room0 (n := 4) (Nat.le_of_ble_eq_true rfl)) dX3_reckon_5 ⟨Nat.le_of_ble_eq_true rfl, Nat.le_of_ble_eq_true rfl⟩) hW (fun r2 S3 H locs hW hm hw => ?_)
  have t0 := hm _ _ t0
  have ta1 := hm _ _ ta1
  refine lv_lstore_n (i := 2) (lv' := [(2, .long r2), (0, va_rf (some x0)), (1, va_rf x1)]) hx hb dX3_reckon_8 rfl hl (by decide) (by simp [List.filter, va_rf_cat, cat_i, cat_l]) (fun ls hl => ?_)
  refine gx_aload_n hx hb dX3_reckon_9 rfl (lv_at hl 1 rfl) ?_
  refine gx_aload_n hx hb dX3_reckon_10 rfl (lv_at hl 2 rfl) ?_
  refine gx_getI C hW F3_66 (k := 452) ha1 ta1 rfl dX3_reckon_11 ?_
  refine gx_cl (gx_rV C hW M3_34 (mX3_numberOf l D cy _ _ _ _ t0 hw) rfl rfl ⟨Nat.le_of_ble_eq_true rfl, Nat.le_of_ble_eq_true rfl⟩ rfl t0 (by decide) rfl rfl hl.1 rfl (gx_room0 (n := 4) (Nat.le_of_ble_eq_true rfl)) dX3_reckon_14 ⟨Nat.le_of_ble_eq_true rfl, Nat.le_of_ble_eq_true rfl⟩) hW (fun r4 S5 H locs hW hm hw => ?_)
  have t0 := hm _ _ t0
  have ta1 := hm _ _ ta1
  refine lv_lstore (lv' := [(4, .long r4), (2, .long r2), (0, va_rf (some x0)), (1, va_rf x1)]) hx hb dX3_reckon_17 hl (by decide) rfl (fun ls hl => ?_)
  refine lv_lload hx hb dX3_reckon_19 (lv_at hl 0 rfl) ?_
  refine lv_lconst (v := 0) hx hb dX3_reckon_21 (by decide) ?_
  refine W.lcmp hx hb dX3_reckon_22 ?_
  refine lv_if_ne (tgt := 36) hx hb dX3_reckon_23 (by decide) (fun c6 => ?_) (fun c6 => ?_)
  · have hw := w_f hw c6
    exact kX3_reckon_b36 C hW t0 (lv_sub hl [2, 3, 1, 0] rfl) hw
  · have hw := w_t hw c6
    refine gx_aload_n hx hb dX3_reckon_26 rfl (lv_at hl 3 rfl) ?_
    refine gx_getI C hW F3_38 (k := 449) ha1 ta1 rfl dX3_reckon_27 ?_
    refine lv_iconst (v := 5) hx hb dX3_reckon_30 (by decide) ?_
    refine lv_icmp_lt (tgt := 36) hx hb dX3_reckon_31 (by decide) (fun c12 => ?_) (fun c12 => ?_)
    · have hw := w_t hw c12
      exact kX3_reckon_b36 C hW t0 (lv_sub hl [2, 3, 1, 0] rfl) hw
    · have hw := w_f hw c12
      refine lv_iconst (v := 4) hx hb dX3_reckon_34 (by decide) ?_
      exact gx_iret C hW (Nat.le_of_ble_eq_true rfl) (Nat.le_of_ble_eq_true rfl) rfl hw dX3_reckon_35
/-! TrialStair$House.makeRow -/
def wX3_makeRow_b70 (x0 : Nat) (x1 : Option Nat) (x2 : Int32) (x3 : Int32) (x4 : Option Nat) (S : Sg) (Q : Int32 → Sg → Prop) : Prop := (if x2 = (7 : Int32) then ∃ a13 : Nat, x1 = some a13 ∧ tg S a13 = 8 ∧ (if ((fI S 452 a13) &&& (1 : Int32)) = (1 : Int32) then ∃ a18 : Nat, x4 = some a18 ∧ tg S a18 = 6 ∧ wX5_empty a18 (x3 &&& (63 : Int32)) (1 : Int32) S (fun (S20 : Sg) => Q (-1 : Int32) S20) else ∃ a15 : Nat, x4 = some a15 ∧ tg S a15 = 6 ∧ wX5_empty a15 (x3 &&& (63 : Int32)) (0 : Int32) S (fun (S17 : Sg) => Q (-1 : Int32) S17)) else ∃ a10 : Nat, x4 = some a10 ∧ tg S a10 = 6 ∧ wX5_empty a10 (x3 &&& (63 : Int32)) (0 : Int32) S (fun (S12 : Sg) => Q (-1 : Int32) S12))
def wX3_makeRow (x0 : Nat) (x1 : Option Nat) (S0 : Sg) (Q : Int32 → Sg → Prop) : Prop := ∃ a1 : Nat, x1 = some a1 ∧ tg S0 a1 = 8 ∧ ∀ y2 : Int32, y2 = (((fI S0 450 a1) >>> ((3 : Int32) &&& 31)) &&& (7 : Int32)) → wX3_intOf x0 (fI S0 451 a1) S0 (fun (r3 : Int32) (S4 : Sg) => (if 0 ≤ r3 then wX3_rowOf x0 y2 (fI S4 450 a1) S4 (fun (r6 : Option Nat) (S7 : Sg) => (if r6 = none then ∀ S22 : Sg, S22 = nw S7 6 0 → wX5_init (sz S7) y2 S22 (fun (S24 : Sg) => ∀ y25 : Option Nat, y25 = (some (sz S7)) → ∃ a26 : Nat, (fR S24 194 x0) = some a26 ∧ tg S24 a26 = 16 ∧ vp_in ((y2 <<< ((3 : Int32) &&& 31)) ||| ((fI S24 450 a1) &&& (7 : Int32))) (ln S24 a26) ∧ ∀ S28 : Sg, S28 = sAR S24 a26 (((y2 <<< ((3 : Int32) &&& 31)) ||| ((fI S24 450 a1) &&& (7 : Int32)))).toNatClampNeg (some (sz S7)) → wX3_makeRow_b70 x0 x1 y2 r3 y25 S28 Q) else wX3_makeRow_b70 x0 x1 y2 r3 r6 S7 Q)) else Q (7 : Int32) S4))
set_option maxHeartbeats 4000000 in
set_option maxRecDepth 100000 in
theorem kX3_makeRow_b70 {p : Program} {l : Launch} {e : Env} {s : State} {m : MethodId} {args : Array Value} {below : List Frame} {meth : Method} {c : Code} {D : va_G} {cy : Nat → ClassId} {S0 : Sg} (C : gC p s m args meth c D cy cX3_makeRow 5 yX3_makeRow.cls (some .int) yX3_makeRow.name) {H : Heap} {locs : List Loc} {ls : Array Slot} {x0 : Nat} {x1 : Option Nat} {x2 : Int32} {x3 : Int32} {x4 : Option Nat} {S : Sg} {Q : Int32 → Sg → Prop} (hW : gW D cy (gA S0) (tg S0) s.heap S H locs) (t0 : tg S x0 = 4) (hl : lv_has ls 5 [(0, va_rf (some x0)), (1, va_rf x1), (2, .int x2), (3, .int x3), (4, va_rf x4)]) (hw : wX3_makeRow_b70 x0 x1 x2 x3 x4 S Q) : W p l e { frames := 2, cells := 3, slots := 68, locals := 47 } s m args below meth c H locs 3 68 (MQ below (va_Qi Q (gB D cy S0) (gA S0)) args s 3 68 (gA S0)) (F0 m 70 ls []) := by
  have hx := C.1
  have hb := C.2.1
  unfold wX3_makeRow_b70 at hw
  refine gx_aload hx hb dX3_makeRow_70 (lv_at hl 4 rfl) ?_
  refine lv_iload_n hx hb dX3_makeRow_72 rfl (lv_at hl 3 rfl) ?_
  refine lv_bipush (v := 63) hx hb dX3_makeRow_73 (by decide) ?_
  refine lv_iand hx hb dX3_makeRow_75 ?_
  refine lv_iload_n hx hb dX3_makeRow_76 rfl (lv_at hl 2 rfl) ?_
  refine lv_bipush (v := 7) hx hb dX3_makeRow_77 (by decide) ?_
  refine lv_icmp_ne (tgt := 96) hx hb dX3_makeRow_79 (by decide) (fun c9 => ?_) (fun c9 => ?_)
  · have hw := w_f hw c9
    refine lv_iconst (v := 0) hx hb dX3_makeRow_96 (by decide) ?_
    obtain ⟨a10, ha10, ta10, hw⟩ := hw
    refine gx_cv (gx_rV C hW M3_111 (mX5_empty l D cy _ _ _ _ _ ta10 hw) rfl rfl ⟨Nat.le_of_ble_eq_true rfl, Nat.le_of_ble_eq_true rfl⟩ ha10 ta10 (by decide) rfl rfl hl.1 rfl (gx_room0 (n := 4) (Nat.le_of_ble_eq_true rfl)) dX3_makeRow_97 ⟨Nat.le_of_ble_eq_true rfl, Nat.le_of_ble_eq_true rfl⟩) hW (fun S12 H locs hW hm hw => ?_)
    have t0 := hm _ _ t0
    have ta10 := hm _ _ ta10
    refine lv_iconst (v := -1) hx hb dX3_makeRow_100 (by decide) ?_
    exact gx_iret C hW (Nat.le_of_ble_eq_true rfl) (Nat.le_of_ble_eq_true rfl) rfl hw dX3_makeRow_101
  · have hw := w_t hw c9
    refine gx_aload_n hx hb dX3_makeRow_82 rfl (lv_at hl 1 rfl) ?_
    obtain ⟨a13, ha13, ta13, hw⟩ := hw
    refine gx_getI C hW F3_66 (k := 452) ha13 ta13 rfl dX3_makeRow_83 ?_
    refine lv_iconst (v := 1) hx hb dX3_makeRow_86 (by decide) ?_
    refine lv_iand hx hb dX3_makeRow_87 ?_
    refine lv_iconst (v := 1) hx hb dX3_makeRow_88 (by decide) ?_
    refine lv_icmp_ne (tgt := 96) hx hb dX3_makeRow_89 (by decide) (fun c14 => ?_) (fun c14 => ?_)
    · have hw := w_f hw c14
      refine lv_iconst (v := 0) hx hb dX3_makeRow_96 (by decide) ?_
      obtain ⟨a15, ha15, ta15, hw⟩ := hw
      refine gx_cv (gx_rV C hW M3_111 (mX5_empty l D cy _ _ _ _ _ ta15 hw) rfl rfl ⟨Nat.le_of_ble_eq_true rfl, Nat.le_of_ble_eq_true rfl⟩ ha15 ta15 (by decide) rfl rfl hl.1 rfl (gx_room0 (n := 4) (Nat.le_of_ble_eq_true rfl)) dX3_makeRow_97 ⟨Nat.le_of_ble_eq_true rfl, Nat.le_of_ble_eq_true rfl⟩) hW (fun S17 H locs hW hm hw => ?_)
      have t0 := hm _ _ t0
      have ta13 := hm _ _ ta13
      have ta15 := hm _ _ ta15
      refine lv_iconst (v := -1) hx hb dX3_makeRow_100 (by decide) ?_
      exact gx_iret C hW (Nat.le_of_ble_eq_true rfl) (Nat.le_of_ble_eq_true rfl) rfl hw dX3_makeRow_101
    · have hw := w_t hw c14
      refine lv_iconst (v := 1) hx hb dX3_makeRow_92 (by decide) ?_
      refine lv_goto (tgt := 97) hx hb dX3_makeRow_93 (by decide) ?_
      obtain ⟨a18, ha18, ta18, hw⟩ := hw
      refine gx_cv (gx_rV C hW M3_111 (mX5_empty l D cy _ _ _ _ _ ta18 hw) rfl rfl ⟨Nat.le_of_ble_eq_true rfl, Nat.le_of_ble_eq_true rfl⟩ ha18 ta18 (by decide) rfl rfl hl.1 rfl (gx_room0 (n := 4) (Nat.le_of_ble_eq_true rfl)) dX3_makeRow_97 ⟨Nat.le_of_ble_eq_true rfl, Nat.le_of_ble_eq_true rfl⟩) hW (fun S20 H locs hW hm hw => ?_)
      have t0 := hm _ _ t0
      have ta13 := hm _ _ ta13
      have ta18 := hm _ _ ta18
      refine lv_iconst (v := -1) hx hb dX3_makeRow_100 (by decide) ?_
      exact gx_iret C hW (Nat.le_of_ble_eq_true rfl) (Nat.le_of_ble_eq_true rfl) rfl hw dX3_makeRow_101
set_option maxHeartbeats 4000000 in
set_option maxRecDepth 100000 in
theorem mX3_makeRow (l : Launch) (D : va_G) (cy : Nat → ClassId) (x0 : Nat) (x1 : Option Nat) (S0 : Sg) (Q : Int32 → Sg → Prop) (t0 : tg S0 x0 = 4) (hw : wX3_makeRow x0 x1 S0 Q) : Met l yX3_makeRow (.code yX3_makeRow cX3_makeRow 5 (some .int) :: wsL_law) { frames := 2, cells := 3, slots := 68, locals := 47 } (gPc D cy [va_rf (some x0), va_rf x1] S0) (va_Qi Q (gB D cy S0) (gA S0)) 3 68 (gA S0) := by
  refine gx_met (by decide) (by simp [lg_sl, va_rf_cat, cat_i, cat_l]) ?_
  intro p e s m args below meth c ls C hW hl
  have hx := C.1
  have hb := C.2.1
  have hl : lv_has ls 5 [(0, va_rf (some x0)), (1, va_rf x1)] := by simpa [lv_args, va_rf_cat, cat_i, cat_l] using hl
  unfold wX3_makeRow at hw
  refine gx_aload_n hx hb dX3_makeRow_0 rfl (lv_at hl 1 rfl) ?_
  obtain ⟨a1, ha1, ta1, hw⟩ := hw
  refine gx_getI C hW F3_69 (k := 450) ha1 ta1 rfl dX3_makeRow_1 ?_
  refine lv_iconst (v := 3) hx hb dX3_makeRow_4 (by decide) ?_
  refine lv_ishr hx hb dX3_makeRow_5 ?_
  refine lv_bipush (v := 7) hx hb dX3_makeRow_6 (by decide) ?_
  refine lv_iand hx hb dX3_makeRow_8 ?_
  refine lv_topi (fun y2 ey2 => ?_)
  have hw := hw y2 ey2
  refine lv_istore_n (i := 2) (lv' := [(2, .int y2), (0, va_rf (some x0)), (1, va_rf x1)]) hx hb dX3_makeRow_9 rfl hl (by decide) (by simp [List.filter, va_rf_cat, cat_i, cat_l]) (fun ls hl => ?_)
  refine gx_aload_n hx hb dX3_makeRow_10 rfl (lv_at hl 1 rfl) ?_
  refine gx_aload_n hx hb dX3_makeRow_11 rfl (lv_at hl 2 rfl) ?_
  refine gx_getI C hW F3_63 (k := 451) ha1 ta1 rfl dX3_makeRow_12 ?_
  refine gx_ci (gx_rV C hW M3_87 (mX3_intOf l D cy _ _ _ _ t0 hw) rfl rfl ⟨Nat.le_of_ble_eq_true rfl, Nat.le_of_ble_eq_true rfl⟩ rfl t0 (by decide) rfl rfl hl.1 rfl (gx_room0 (n := 4) (Nat.le_of_ble_eq_true rfl)) dX3_makeRow_15 ⟨Nat.le_of_ble_eq_true rfl, Nat.le_of_ble_eq_true rfl⟩) hW (fun r3 S4 H locs hW hm hw => ?_)
  have t0 := hm _ _ t0
  have ta1 := hm _ _ ta1
  refine lv_istore_n (i := 3) (lv' := [(3, .int r3), (2, .int y2), (0, va_rf (some x0)), (1, va_rf x1)]) hx hb dX3_makeRow_18 rfl hl (by decide) rfl (fun ls hl => ?_)
  refine lv_iload_n hx hb dX3_makeRow_19 rfl (lv_at hl 0 rfl) ?_
  refine lv_if_ge (tgt := 26) hx hb dX3_makeRow_20 (by decide) (fun c5 => ?_) (fun c5 => ?_)
  · have hw := w_t hw c5
    refine gx_aload_n hx hb dX3_makeRow_26 rfl (lv_at hl 2 rfl) ?_
    refine lv_iload_n hx hb dX3_makeRow_27 rfl (lv_at hl 1 rfl) ?_
    refine gx_aload_n hx hb dX3_makeRow_28 rfl (lv_at hl 3 rfl) ?_
    refine gx_getI C hW F3_69 (k := 450) ha1 ta1 rfl dX3_makeRow_29 ?_
    refine gx_cq (gx_rV C hW M3_80 (mX3_rowOf l D cy _ _ _ _ _ t0 hw) rfl rfl ⟨Nat.le_of_ble_eq_true rfl, Nat.le_of_ble_eq_true rfl⟩ rfl t0 (by decide) rfl rfl hl.1 rfl (gx_room0 (n := 4) (Nat.le_of_ble_eq_true rfl)) dX3_makeRow_32 ⟨Nat.le_of_ble_eq_true rfl, Nat.le_of_ble_eq_true rfl⟩) hW (fun r6 S7 H locs hW hm hw => ?_)
    have t0 := hm _ _ t0
    have ta1 := hm _ _ ta1
    refine gx_astore (lv' := [(4, va_rf r6), (3, .int r3), (2, .int y2), (0, va_rf (some x0)), (1, va_rf x1)]) hx hb dX3_makeRow_35 hl (by decide) rfl (fun ls hl => ?_)
    refine gx_aload hx hb dX3_makeRow_37 (lv_at hl 0 rfl) ?_
    refine gx_ifnonnull (tgt := 70) hx hb dX3_makeRow_39 (by decide) (fun c8 => ?_) (fun c8 => ?_)
    · have hw := w_f hw c8
      refine W.widen (k := 3) (n := 68) (Nat.le_of_ble_eq_true rfl) (Nat.le_of_ble_eq_true rfl) ?_
      exact kX3_makeRow_b70 C hW t0 (lv_sub hl [3, 4, 2, 1, 0] rfl) hw
    · have hw := w_t hw c8
      refine gx_new C hW N3_21 (Nat.le_of_ble_eq_true rfl) (Nat.le_of_ble_eq_true rfl) dX3_makeRow_42 (fun H S22 eS22 hW hm t21 => ?_)
      have hw := hw S22 eS22
      have t0 := hm _ _ t0
      have ta1 := hm _ _ ta1
      refine lv_dup hx hb dX3_makeRow_45 (va_rf_cat _) ?_
      refine lv_iload_n hx hb dX3_makeRow_46 rfl (lv_at hl 2 rfl) ?_
      refine gx_cv (gx_rI C hW M3_108 (mX5_init l D cy _ _ _ _ t21 hw) rfl rfl ⟨Nat.le_of_ble_eq_true rfl, Nat.le_of_ble_eq_true rfl⟩ rfl rfl hl.1 rfl (gx_room0 (n := 4) (Nat.le_of_ble_eq_true rfl)) dX3_makeRow_47 ⟨Nat.le_of_ble_eq_true rfl, Nat.le_of_ble_eq_true rfl⟩) hW (fun S24 H locs hW hm hw => ?_)
      have t0 := hm _ _ t0
      have ta1 := hm _ _ ta1
      have t21 := hm _ _ t21
      refine gx_topr (fun y25 ey25 => ?_)
      have hw := hw y25 ey25
      refine gx_astore (lv' := [(4, va_rf y25), (3, .int r3), (2, .int y2), (0, va_rf (some x0)), (1, va_rf x1)]) hx hb dX3_makeRow_50 hl (by decide) rfl (fun ls hl => ?_)
      refine gx_aload_n hx hb dX3_makeRow_52 rfl (lv_at hl 3 rfl) ?_
      refine gx_getR C hW F3_23 (k := 194) rfl t0 rfl dX3_makeRow_53 ?_
      refine lv_iload_n hx hb dX3_makeRow_56 rfl (lv_at hl 2 rfl) ?_
      refine lv_iconst (v := 3) hx hb dX3_makeRow_57 (by decide) ?_
      refine lv_ishl hx hb dX3_makeRow_58 ?_
      refine gx_aload_n hx hb dX3_makeRow_59 rfl (lv_at hl 4 rfl) ?_
      refine gx_getI C hW F3_69 (k := 450) ha1 ta1 rfl dX3_makeRow_60 ?_
      refine lv_bipush (v := 7) hx hb dX3_makeRow_63 (by decide) ?_
      refine lv_iand hx hb dX3_makeRow_65 ?_
      refine lv_ior hx hb dX3_makeRow_66 ?_
      refine gx_aload hx hb dX3_makeRow_67 (lv_at hl 0 rfl) ?_
      obtain ⟨a26, ha26, ta26, hw⟩ := hw
      obtain ⟨i27, hw⟩ := hw
      refine gx_aast3 C hW ha26 ey25 ta26 t21 i27 dX3_makeRow_69 (fun H locs S28 eS28 hW hm => ?_)
      have hw := hw S28 eS28
      have t0 := hm _ _ t0
      have ta1 := hm _ _ ta1
      have t21 := hm _ _ t21
      have ta26 := hm _ _ ta26
      exact kX3_makeRow_b70 C hW t0 (lv_sub hl [3, 4, 2, 1, 0] rfl) hw
  · have hw := w_f hw c5
    refine lv_bipush (v := 7) hx hb dX3_makeRow_23 (by decide) ?_
    exact gx_iret C hW (Nat.le_of_ble_eq_true rfl) (Nat.le_of_ble_eq_true rfl) rfl hw dX3_makeRow_25
/-! TrialStair$House.takeThing -/
def wX3_takeThing (x0 : Nat) (x1 : Option Nat) (x2 : Int32) (x3 : Int32) (S0 : Sg) (Q : Int32 → Sg → Prop) : Prop := ∃ a1 : Nat, x1 = some a1 ∧ tg S0 a1 = 6 ∧ wX5_thingAt a1 x2 S0 (fun (r2 : Option Nat) (S3 : Sg) => ∃ a4 : Nat, (fR S0 193 x0) = some a4 ∧ tg S3 a4 = 18 ∧ vp_in (x3 &&& (7 : Int32)) (ln S3 a4) ∧ (∀ v, r2 = some v → tg S3 v = 9) ∧ ∀ S6 : Sg, S6 = sAR S3 a4 ((x3 &&& (7 : Int32))).toNatClampNeg r2 → Q (-1 : Int32) S6)
set_option maxHeartbeats 4000000 in
set_option maxRecDepth 100000 in
theorem mX3_takeThing (l : Launch) (D : va_G) (cy : Nat → ClassId) (x0 : Nat) (x1 : Option Nat) (x2 : Int32) (x3 : Int32) (S0 : Sg) (Q : Int32 → Sg → Prop) (t0 : tg S0 x0 = 4) (hw : wX3_takeThing x0 x1 x2 x3 S0 Q) : Met l yX3_takeThing (.code yX3_takeThing cX3_takeThing 4 (some .int) :: wsL_law) { frames := 1, cells := 0, slots := 0, locals := 21 } (gPc D cy [va_rf (some x0), va_rf x1, .int x2, .int x3] S0) (va_Qi Q (gB D cy S0) (gA S0)) 0 0 (gA S0) := by
  refine gx_met (by decide) (by simp [lg_sl, va_rf_cat, cat_i, cat_l]) ?_
  intro p e s m args below meth c ls C hW hl
  have hx := C.1
  have hb := C.2.1
  have hl : lv_has ls 4 [(0, va_rf (some x0)), (1, va_rf x1), (2, .int x2), (3, .int x3)] := by simpa [lv_args, va_rf_cat, cat_i, cat_l] using hl
  unfold wX3_takeThing at hw
  refine gx_aload_n hx hb dX3_takeThing_0 rfl (lv_at hl 0 rfl) ?_
  refine gx_getR C hW F3_17 (k := 193) rfl t0 rfl dX3_takeThing_1 ?_
  refine lv_iload_n hx hb dX3_takeThing_4 rfl (lv_at hl 3 rfl) ?_
  refine lv_bipush (v := 7) hx hb dX3_takeThing_5 (by decide) ?_
  refine lv_iand hx hb dX3_takeThing_7 ?_
  refine gx_aload_n hx hb dX3_takeThing_8 rfl (lv_at hl 1 rfl) ?_
  refine lv_iload_n hx hb dX3_takeThing_9 rfl (lv_at hl 2 rfl) ?_
  obtain ⟨a1, ha1, ta1, hw⟩ := hw
  refine gx_cq (gx_rV C hW M3_115 (mX5_thingAt l D cy _ _ _ _ ta1 hw) rfl rfl ⟨Nat.le_of_ble_eq_true rfl, Nat.le_of_ble_eq_true rfl⟩ ha1 ta1 (by decide) rfl rfl hl.1 rfl (gx_room0 (n := 4) (Nat.le_of_ble_eq_true rfl)) dX3_takeThing_10 ⟨Nat.le_of_ble_eq_true rfl, Nat.le_of_ble_eq_true rfl⟩) hW (fun r2 S3 H locs hW hm hw => ?_)
  have t0 := hm _ _ t0
  have ta1 := hm _ _ ta1
  obtain ⟨a4, ha4, ta4, hw⟩ := hw
  obtain ⟨i5, hw⟩ := hw
  obtain ⟨v7, hw⟩ := hw
  refine gx_aast5 C hW ha4 ta4 v7 i5 dX3_takeThing_13 (fun H locs S6 eS6 hW hm => ?_)
  have hw := hw S6 eS6
  have t0 := hm _ _ t0
  have ta1 := hm _ _ ta1
  have ta4 := hm _ _ ta4
  refine lv_iconst (v := -1) hx hb dX3_takeThing_14 (by decide) ?_
  exact gx_iret C hW (Nat.le_of_ble_eq_true rfl) (Nat.le_of_ble_eq_true rfl) rfl hw dX3_takeThing_15
/-! TrialStair$House.putThing -/
def wX3_putThing (x0 : Nat) (x1 : Option Nat) (x2 : Int32) (x3 : Int32) (S0 : Sg) (Q : Int32 → Sg → Prop) : Prop := wX3_thingOf x0 x3 S0 (fun (r1 : Option Nat) (S2 : Sg) => ∃ a3 : Nat, x1 = some a3 ∧ tg S2 a3 = 6 ∧ (if (fI S2 324 a3) = 0 then wX5_putThing a3 x2 r1 S2 (fun (S6 : Sg) => Q (-1 : Int32) S6) else (if r1 = none then wX5_putThing a3 x2 r1 S2 (fun (S9 : Sg) => Q (-1 : Int32) S9) else ∃ a10 : Nat, r1 = some a10 ∧ tg S2 a10 = 9 ∧ (if (fI S2 512 a10) = 0 then Q (9 : Int32) S2 else wX5_putThing a3 x2 r1 S2 (fun (S13 : Sg) => Q (-1 : Int32) S13)))))
set_option maxHeartbeats 4000000 in
set_option maxRecDepth 100000 in
theorem mX3_putThing (l : Launch) (D : va_G) (cy : Nat → ClassId) (x0 : Nat) (x1 : Option Nat) (x2 : Int32) (x3 : Int32) (S0 : Sg) (Q : Int32 → Sg → Prop) (t0 : tg S0 x0 = 4) (hw : wX3_putThing x0 x1 x2 x3 S0 Q) : Met l yX3_putThing (.code yX3_putThing cX3_putThing 5 (some .int) :: wsL_law) { frames := 1, cells := 0, slots := 0, locals := 22 } (gPc D cy [va_rf (some x0), va_rf x1, .int x2, .int x3] S0) (va_Qi Q (gB D cy S0) (gA S0)) 0 0 (gA S0) := by
  refine gx_met (by decide) (by simp [lg_sl, va_rf_cat, cat_i, cat_l]) ?_
  intro p e s m args below meth c ls C hW hl
  have hx := C.1
  have hb := C.2.1
  have hl : lv_has ls 5 [(0, va_rf (some x0)), (1, va_rf x1), (2, .int x2), (3, .int x3)] := by simpa [lv_args, va_rf_cat, cat_i, cat_l] using hl
  unfold wX3_putThing at hw
  refine gx_aload_n hx hb dX3_putThing_0 rfl (lv_at hl 0 rfl) ?_
  refine lv_iload_n hx hb dX3_putThing_1 rfl (lv_at hl 3 rfl) ?_
  refine gx_cq (gx_rV C hW M3_119 (mX3_thingOf l D cy _ _ _ _ t0 hw) rfl rfl ⟨Nat.le_of_ble_eq_true rfl, Nat.le_of_ble_eq_true rfl⟩ rfl t0 (by decide) rfl rfl hl.1 rfl (gx_room0 (n := 4) (Nat.le_of_ble_eq_true rfl)) dX3_putThing_2 ⟨Nat.le_of_ble_eq_true rfl, Nat.le_of_ble_eq_true rfl⟩) hW (fun r1 S2 H locs hW hm hw => ?_)
  have t0 := hm _ _ t0
  refine gx_astore (lv' := [(4, va_rf r1), (0, va_rf (some x0)), (1, va_rf x1), (2, .int x2), (3, .int x3)]) hx hb dX3_putThing_5 hl (by decide) rfl (fun ls hl => ?_)
  refine gx_aload_n hx hb dX3_putThing_7 rfl (lv_at hl 2 rfl) ?_
  obtain ⟨a3, ha3, ta3, hw⟩ := hw
  refine gx_getI C hW F3_122 (k := 324) ha3 ta3 rfl dX3_putThing_8 ?_
  refine lv_if_eq (tgt := 30) hx hb dX3_putThing_11 (by decide) (fun c4 => ?_) (fun c4 => ?_)
  · have hw := w_t hw c4
    refine gx_aload_n hx hb dX3_putThing_30 rfl (lv_at hl 2 rfl) ?_
    refine lv_iload_n hx hb dX3_putThing_31 rfl (lv_at hl 3 rfl) ?_
    refine gx_aload hx hb dX3_putThing_32 (lv_at hl 0 rfl) ?_
    refine gx_cv (gx_rV C hW M3_129 (mX5_putThing l D cy _ _ _ _ _ ta3 hw) rfl rfl ⟨Nat.le_of_ble_eq_true rfl, Nat.le_of_ble_eq_true rfl⟩ ha3 ta3 (by decide) rfl rfl hl.1 rfl (gx_room0 (n := 4) (Nat.le_of_ble_eq_true rfl)) dX3_putThing_34 ⟨Nat.le_of_ble_eq_true rfl, Nat.le_of_ble_eq_true rfl⟩) hW (fun S6 H locs hW hm hw => ?_)
    have t0 := hm _ _ t0
    have ta3 := hm _ _ ta3
    refine lv_iconst (v := -1) hx hb dX3_putThing_37 (by decide) ?_
    exact gx_iret C hW (Nat.le_of_ble_eq_true rfl) (Nat.le_of_ble_eq_true rfl) rfl hw dX3_putThing_38
  · have hw := w_f hw c4
    refine gx_aload hx hb dX3_putThing_14 (lv_at hl 0 rfl) ?_
    refine gx_ifnull (tgt := 30) hx hb dX3_putThing_16 (by decide) (fun c7 => ?_) (fun c7 => ?_)
    · have hw := w_t hw c7
      refine gx_aload_n hx hb dX3_putThing_30 rfl (lv_at hl 2 rfl) ?_
      refine lv_iload_n hx hb dX3_putThing_31 rfl (lv_at hl 3 rfl) ?_
      refine gx_aload hx hb dX3_putThing_32 (lv_at hl 0 rfl) ?_
      refine gx_cv (gx_rV C hW M3_129 (mX5_putThing l D cy _ _ _ _ _ ta3 hw) rfl rfl ⟨Nat.le_of_ble_eq_true rfl, Nat.le_of_ble_eq_true rfl⟩ ha3 ta3 (by decide) rfl rfl hl.1 rfl (gx_room0 (n := 4) (Nat.le_of_ble_eq_true rfl)) dX3_putThing_34 ⟨Nat.le_of_ble_eq_true rfl, Nat.le_of_ble_eq_true rfl⟩) hW (fun S9 H locs hW hm hw => ?_)
      have t0 := hm _ _ t0
      have ta3 := hm _ _ ta3
      refine lv_iconst (v := -1) hx hb dX3_putThing_37 (by decide) ?_
      exact gx_iret C hW (Nat.le_of_ble_eq_true rfl) (Nat.le_of_ble_eq_true rfl) rfl hw dX3_putThing_38
    · have hw := w_f hw c7
      refine gx_aload hx hb dX3_putThing_19 (lv_at hl 0 rfl) ?_
      obtain ⟨a10, ha10, ta10, hw⟩ := hw
      refine gx_getI C hW F3_126 (k := 512) ha10 ta10 rfl dX3_putThing_21 ?_
      refine lv_if_ne (tgt := 30) hx hb dX3_putThing_24 (by decide) (fun c11 => ?_) (fun c11 => ?_)
      · have hw := w_f hw c11
        refine gx_aload_n hx hb dX3_putThing_30 rfl (lv_at hl 2 rfl) ?_
        refine lv_iload_n hx hb dX3_putThing_31 rfl (lv_at hl 3 rfl) ?_
        refine gx_aload hx hb dX3_putThing_32 (lv_at hl 0 rfl) ?_
        refine gx_cv (gx_rV C hW M3_129 (mX5_putThing l D cy _ _ _ _ _ ta3 hw) rfl rfl ⟨Nat.le_of_ble_eq_true rfl, Nat.le_of_ble_eq_true rfl⟩ ha3 ta3 (by decide) rfl rfl hl.1 rfl (gx_room0 (n := 4) (Nat.le_of_ble_eq_true rfl)) dX3_putThing_34 ⟨Nat.le_of_ble_eq_true rfl, Nat.le_of_ble_eq_true rfl⟩) hW (fun S13 H locs hW hm hw => ?_)
        have t0 := hm _ _ t0
        have ta3 := hm _ _ ta3
        have ta10 := hm _ _ ta10
        refine lv_iconst (v := -1) hx hb dX3_putThing_37 (by decide) ?_
        exact gx_iret C hW (Nat.le_of_ble_eq_true rfl) (Nat.le_of_ble_eq_true rfl) rfl hw dX3_putThing_38
      · have hw := w_t hw c11
        refine lv_bipush (v := 9) hx hb dX3_putThing_27 (by decide) ?_
        exact gx_iret C hW (Nat.le_of_ble_eq_true rfl) (Nat.le_of_ble_eq_true rfl) rfl hw dX3_putThing_29
/-! TrialStair$House.workRow -/
def wX3_workRow (x0 : Nat) (x1 : Option Nat) (S0 : Sg) (Q : Int32 → Sg → Prop) : Prop := ∃ a1 : Nat, x1 = some a1 ∧ tg S0 a1 = 8 ∧ ∀ y2 : Int32, y2 = (((fI S0 450 a1) >>> ((3 : Int32) &&& 31)) &&& (7 : Int32)) → wX3_rowOf x0 y2 (fI S0 450 a1) S0 (fun (r3 : Option Nat) (S4 : Sg) => (if r3 = none then Q (6 : Int32) S4 else (if (fI S4 449 a1) = (10 : Int32) then ∃ a28 : Nat, r3 = some a28 ∧ tg S4 a28 = 6 ∧ wX3_setNumber x0 (fI S4 451 a1) (((fI S4 323 a28)).toInt64) S4 (fun (S30 : Sg) => Q (-1 : Int32) S30) else wX3_intOf x0 (fI S4 451 a1) S4 (fun (r7 : Int32) (S8 : Sg) => ∃ a9 : Nat, r3 = some a9 ∧ tg S8 a9 = 6 ∧ wX5_has a9 r7 S8 (fun (r10 : Int32) (S11 : Sg) => (if r10 = 0 then Q (5 : Int32) S11 else (if y2 = (7 : Int32) then (if (fI S11 449 a1) = (8 : Int32) then wX3_takeThing x0 r3 r7 (fI S11 452 a1) S11 (fun (r26 : Int32) (S27 : Sg) => Q r26 S27) else wX3_putThing x0 r3 r7 (fI S11 452 a1) S11 (fun (r24 : Int32) (S25 : Sg) => Q r24 S25)) else (if (fI S11 449 a1) = (8 : Int32) then wX5_numberAt a9 r7 S11 (fun (r19 : Int64) (S20 : Sg) => wX3_setNumber x0 (fI S11 452 a1) r19 S20 (fun (S22 : Sg) => Q (-1 : Int32) S22)) else wX3_numberOf x0 (fI S11 452 a1) S11 (fun (r15 : Int64) (S16 : Sg) => wX5_putNumber a9 r7 r15 S16 (fun (S18 : Sg) => Q (-1 : Int32) S18))))))))))
set_option maxHeartbeats 4000000 in
set_option maxRecDepth 100000 in
theorem mX3_workRow (l : Launch) (D : va_G) (cy : Nat → ClassId) (x0 : Nat) (x1 : Option Nat) (S0 : Sg) (Q : Int32 → Sg → Prop) (t0 : tg S0 x0 = 4) (hw : wX3_workRow x0 x1 S0 Q) : Met l yX3_workRow (.code yX3_workRow cX3_workRow 5 (some .int) :: wsL_law) { frames := 2, cells := 0, slots := 0, locals := 46 } (gPc D cy [va_rf (some x0), va_rf x1] S0) (va_Qi Q (gB D cy S0) (gA S0)) 0 0 (gA S0) := by
  refine gx_met (by decide) (by simp [lg_sl, va_rf_cat, cat_i, cat_l]) ?_
  intro p e s m args below meth c ls C hW hl
  have hx := C.1
  have hb := C.2.1
  have hl : lv_has ls 5 [(0, va_rf (some x0)), (1, va_rf x1)] := by simpa [lv_args, va_rf_cat, cat_i, cat_l] using hl
  unfold wX3_workRow at hw
  refine gx_aload_n hx hb dX3_workRow_0 rfl (lv_at hl 1 rfl) ?_
  obtain ⟨a1, ha1, ta1, hw⟩ := hw
  refine gx_getI C hW F3_69 (k := 450) ha1 ta1 rfl dX3_workRow_1 ?_
  refine lv_iconst (v := 3) hx hb dX3_workRow_4 (by decide) ?_
  refine lv_ishr hx hb dX3_workRow_5 ?_
  refine lv_bipush (v := 7) hx hb dX3_workRow_6 (by decide) ?_
  refine lv_iand hx hb dX3_workRow_8 ?_
  refine lv_topi (fun y2 ey2 => ?_)
  have hw := hw y2 ey2
  refine lv_istore_n (i := 2) (lv' := [(2, .int y2), (0, va_rf (some x0)), (1, va_rf x1)]) hx hb dX3_workRow_9 rfl hl (by decide) (by simp [List.filter, va_rf_cat, cat_i, cat_l]) (fun ls hl => ?_)
  refine gx_aload_n hx hb dX3_workRow_10 rfl (lv_at hl 1 rfl) ?_
  refine lv_iload_n hx hb dX3_workRow_11 rfl (lv_at hl 0 rfl) ?_
  refine gx_aload_n hx hb dX3_workRow_12 rfl (lv_at hl 2 rfl) ?_
  refine gx_getI C hW F3_69 (k := 450) ha1 ta1 rfl dX3_workRow_13 ?_
  refine gx_cq (gx_rV C hW M3_80 (mX3_rowOf l D cy _ _ _ _ _ t0 hw) rfl rfl ⟨Nat.le_of_ble_eq_true rfl, Nat.le_of_ble_eq_true rfl⟩ rfl t0 (by decide) rfl rfl hl.1 rfl (gx_room0 (n := 4) (Nat.le_of_ble_eq_true rfl)) dX3_workRow_16 ⟨Nat.le_of_ble_eq_true rfl, Nat.le_of_ble_eq_true rfl⟩) hW (fun r3 S4 H locs hW hm hw => ?_)
  have t0 := hm _ _ t0
  have ta1 := hm _ _ ta1
  refine gx_astore_n (i := 3) (lv' := [(3, va_rf r3), (2, .int y2), (0, va_rf (some x0)), (1, va_rf x1)]) hx hb dX3_workRow_19 rfl hl (by decide) rfl (fun ls hl => ?_)
  refine gx_aload_n hx hb dX3_workRow_20 rfl (lv_at hl 0 rfl) ?_
  refine gx_ifnonnull (tgt := 27) hx hb dX3_workRow_21 (by decide) (fun c5 => ?_) (fun c5 => ?_)
  · have hw := w_f hw c5
    refine gx_aload_n hx hb dX3_workRow_27 rfl (lv_at hl 3 rfl) ?_
    refine gx_getI C hW F3_38 (k := 449) ha1 ta1 rfl dX3_workRow_28 ?_
    refine lv_bipush (v := 10) hx hb dX3_workRow_31 (by decide) ?_
    refine lv_icmp_ne (tgt := 51) hx hb dX3_workRow_33 (by decide) (fun c6 => ?_) (fun c6 => ?_)
    · have hw := w_f hw c6
      refine gx_aload_n hx hb dX3_workRow_51 rfl (lv_at hl 2 rfl) ?_
      refine gx_aload_n hx hb dX3_workRow_52 rfl (lv_at hl 3 rfl) ?_
      refine gx_getI C hW F3_63 (k := 451) ha1 ta1 rfl dX3_workRow_53 ?_
      refine gx_ci (gx_rV C hW M3_87 (mX3_intOf l D cy _ _ _ _ t0 hw) rfl rfl ⟨Nat.le_of_ble_eq_true rfl, Nat.le_of_ble_eq_true rfl⟩ rfl t0 (by decide) rfl rfl hl.1 rfl (gx_room0 (n := 4) (Nat.le_of_ble_eq_true rfl)) dX3_workRow_56 ⟨Nat.le_of_ble_eq_true rfl, Nat.le_of_ble_eq_true rfl⟩) hW (fun r7 S8 H locs hW hm hw => ?_)
      have t0 := hm _ _ t0
      have ta1 := hm _ _ ta1
      refine lv_istore (lv' := [(4, .int r7), (3, va_rf r3), (2, .int y2), (0, va_rf (some x0)), (1, va_rf x1)]) hx hb dX3_workRow_59 hl (by decide) (by simp [List.filter, va_rf_cat, cat_i, cat_l]) (fun ls hl => ?_)
      refine gx_aload_n hx hb dX3_workRow_61 rfl (lv_at hl 1 rfl) ?_
      refine lv_iload hx hb dX3_workRow_62 (lv_at hl 0 rfl) ?_
      obtain ⟨a9, ha9, ta9, hw⟩ := hw
      refine gx_ci (gx_rV C hW M3_91 (mX5_has l D cy _ _ _ _ ta9 hw) rfl rfl ⟨Nat.le_of_ble_eq_true rfl, Nat.le_of_ble_eq_true rfl⟩ ha9 ta9 (by decide) rfl rfl hl.1 rfl (gx_room0 (n := 4) (Nat.le_of_ble_eq_true rfl)) dX3_workRow_64 ⟨Nat.le_of_ble_eq_true rfl, Nat.le_of_ble_eq_true rfl⟩) hW (fun r10 S11 H locs hW hm hw => ?_)
      have t0 := hm _ _ t0
      have ta1 := hm _ _ ta1
      have ta9 := hm _ _ ta9
      refine lv_if_ne (tgt := 72) hx hb dX3_workRow_67 (by decide) (fun c12 => ?_) (fun c12 => ?_)
      · have hw := w_f hw c12
        refine lv_iload_n hx hb dX3_workRow_72 rfl (lv_at hl 2 rfl) ?_
        refine lv_bipush (v := 7) hx hb dX3_workRow_73 (by decide) ?_
        refine lv_icmp_ne (tgt := 113) hx hb dX3_workRow_75 (by decide) (fun c13 => ?_) (fun c13 => ?_)
        · have hw := w_f hw c13
          refine gx_aload_n hx hb dX3_workRow_113 rfl (lv_at hl 4 rfl) ?_
          refine gx_getI C hW F3_38 (k := 449) ha1 ta1 rfl dX3_workRow_114 ?_
          refine lv_bipush (v := 8) hx hb dX3_workRow_117 (by decide) ?_
          refine lv_icmp_ne (tgt := 139) hx hb dX3_workRow_119 (by decide) (fun c14 => ?_) (fun c14 => ?_)
          · have hw := w_f hw c14
            refine gx_aload_n hx hb dX3_workRow_139 rfl (lv_at hl 1 rfl) ?_
            refine lv_iload hx hb dX3_workRow_140 (lv_at hl 0 rfl) ?_
            refine gx_aload_n hx hb dX3_workRow_142 rfl (lv_at hl 3 rfl) ?_
            refine gx_aload_n hx hb dX3_workRow_143 rfl (lv_at hl 4 rfl) ?_
            refine gx_getI C hW F3_66 (k := 452) ha1 ta1 rfl dX3_workRow_144 ?_
            refine gx_cl (gx_rV C hW M3_34 (mX3_numberOf l D cy _ _ _ _ t0 hw) rfl rfl ⟨Nat.le_of_ble_eq_true rfl, Nat.le_of_ble_eq_true rfl⟩ rfl t0 (by decide) rfl rfl hl.1 rfl (gx_room0 (n := 4) (Nat.le_of_ble_eq_true rfl)) dX3_workRow_147 ⟨Nat.le_of_ble_eq_true rfl, Nat.le_of_ble_eq_true rfl⟩) hW (fun r15 S16 H locs hW hm hw => ?_)
            have t0 := hm _ _ t0
            have ta1 := hm _ _ ta1
            have ta9 := hm _ _ ta9
            refine gx_cv (gx_rV C hW M3_105 (mX5_putNumber l D cy _ _ _ _ _ ta9 hw) rfl rfl ⟨Nat.le_of_ble_eq_true rfl, Nat.le_of_ble_eq_true rfl⟩ ha9 ta9 (by decide) rfl rfl hl.1 rfl (gx_room0 (n := 4) (Nat.le_of_ble_eq_true rfl)) dX3_workRow_150 ⟨Nat.le_of_ble_eq_true rfl, Nat.le_of_ble_eq_true rfl⟩) hW (fun S18 H locs hW hm hw => ?_)
            have t0 := hm _ _ t0
            have ta1 := hm _ _ ta1
            have ta9 := hm _ _ ta9
            refine lv_iconst (v := -1) hx hb dX3_workRow_153 (by decide) ?_
            exact gx_iret C hW (Nat.le_of_ble_eq_true rfl) (Nat.le_of_ble_eq_true rfl) rfl hw dX3_workRow_154
          · have hw := w_t hw c14
            refine gx_aload_n hx hb dX3_workRow_122 rfl (lv_at hl 3 rfl) ?_
            refine gx_aload_n hx hb dX3_workRow_123 rfl (lv_at hl 4 rfl) ?_
            refine gx_getI C hW F3_66 (k := 452) ha1 ta1 rfl dX3_workRow_124 ?_
            refine gx_aload_n hx hb dX3_workRow_127 rfl (lv_at hl 1 rfl) ?_
            refine lv_iload hx hb dX3_workRow_128 (lv_at hl 0 rfl) ?_
            refine gx_cl (gx_rV C hW M3_102 (mX5_numberAt l D cy _ _ _ _ ta9 hw) rfl rfl ⟨Nat.le_of_ble_eq_true rfl, Nat.le_of_ble_eq_true rfl⟩ ha9 ta9 (by decide) rfl rfl hl.1 rfl (gx_room0 (n := 4) (Nat.le_of_ble_eq_true rfl)) dX3_workRow_130 ⟨Nat.le_of_ble_eq_true rfl, Nat.le_of_ble_eq_true rfl⟩) hW (fun r19 S20 H locs hW hm hw => ?_)
            have t0 := hm _ _ t0
            have ta1 := hm _ _ ta1
            have ta9 := hm _ _ ta9
            refine gx_cv (gx_rV C hW M3_76 (mX3_setNumber l D cy _ _ _ _ _ t0 hw) rfl rfl ⟨Nat.le_of_ble_eq_true rfl, Nat.le_of_ble_eq_true rfl⟩ rfl t0 (by decide) rfl rfl hl.1 rfl (gx_room0 (n := 4) (Nat.le_of_ble_eq_true rfl)) dX3_workRow_133 ⟨Nat.le_of_ble_eq_true rfl, Nat.le_of_ble_eq_true rfl⟩) hW (fun S22 H locs hW hm hw => ?_)
            have t0 := hm _ _ t0
            have ta1 := hm _ _ ta1
            have ta9 := hm _ _ ta9
            refine lv_goto (tgt := 153) hx hb dX3_workRow_136 (by decide) ?_
            refine lv_iconst (v := -1) hx hb dX3_workRow_153 (by decide) ?_
            exact gx_iret C hW (Nat.le_of_ble_eq_true rfl) (Nat.le_of_ble_eq_true rfl) rfl hw dX3_workRow_154
        · have hw := w_t hw c13
          refine gx_aload_n hx hb dX3_workRow_78 rfl (lv_at hl 4 rfl) ?_
          refine gx_getI C hW F3_38 (k := 449) ha1 ta1 rfl dX3_workRow_79 ?_
          refine lv_bipush (v := 8) hx hb dX3_workRow_82 (by decide) ?_
          refine lv_icmp_ne (tgt := 101) hx hb dX3_workRow_84 (by decide) (fun c23 => ?_) (fun c23 => ?_)
          · have hw := w_f hw c23
            refine gx_aload_n hx hb dX3_workRow_101 rfl (lv_at hl 3 rfl) ?_
            refine gx_aload_n hx hb dX3_workRow_102 rfl (lv_at hl 1 rfl) ?_
            refine lv_iload hx hb dX3_workRow_103 (lv_at hl 0 rfl) ?_
            refine gx_aload_n hx hb dX3_workRow_105 rfl (lv_at hl 4 rfl) ?_
            refine gx_getI C hW F3_66 (k := 452) ha1 ta1 rfl dX3_workRow_106 ?_
            refine gx_ci (gx_rV C hW M3_99 (mX3_putThing l D cy _ _ _ _ _ _ t0 hw) rfl rfl ⟨Nat.le_of_ble_eq_true rfl, Nat.le_of_ble_eq_true rfl⟩ rfl t0 (by decide) rfl rfl hl.1 rfl (gx_room0 (n := 4) (Nat.le_of_ble_eq_true rfl)) dX3_workRow_109 ⟨Nat.le_of_ble_eq_true rfl, Nat.le_of_ble_eq_true rfl⟩) hW (fun r24 S25 H locs hW hm hw => ?_)
            have t0 := hm _ _ t0
            have ta1 := hm _ _ ta1
            have ta9 := hm _ _ ta9
            exact gx_iret C hW (Nat.le_of_ble_eq_true rfl) (Nat.le_of_ble_eq_true rfl) rfl hw dX3_workRow_112
          · have hw := w_t hw c23
            refine gx_aload_n hx hb dX3_workRow_87 rfl (lv_at hl 3 rfl) ?_
            refine gx_aload_n hx hb dX3_workRow_88 rfl (lv_at hl 1 rfl) ?_
            refine lv_iload hx hb dX3_workRow_89 (lv_at hl 0 rfl) ?_
            refine gx_aload_n hx hb dX3_workRow_91 rfl (lv_at hl 4 rfl) ?_
            refine gx_getI C hW F3_66 (k := 452) ha1 ta1 rfl dX3_workRow_92 ?_
            refine gx_ci (gx_rV C hW M3_95 (mX3_takeThing l D cy _ _ _ _ _ _ t0 hw) rfl rfl ⟨Nat.le_of_ble_eq_true rfl, Nat.le_of_ble_eq_true rfl⟩ rfl t0 (by decide) rfl rfl hl.1 rfl (gx_room0 (n := 4) (Nat.le_of_ble_eq_true rfl)) dX3_workRow_95 ⟨Nat.le_of_ble_eq_true rfl, Nat.le_of_ble_eq_true rfl⟩) hW (fun r26 S27 H locs hW hm hw => ?_)
            have t0 := hm _ _ t0
            have ta1 := hm _ _ ta1
            have ta9 := hm _ _ ta9
            refine lv_goto (tgt := 112) hx hb dX3_workRow_98 (by decide) ?_
            exact gx_iret C hW (Nat.le_of_ble_eq_true rfl) (Nat.le_of_ble_eq_true rfl) rfl hw dX3_workRow_112
      · have hw := w_t hw c12
        refine lv_iconst (v := 5) hx hb dX3_workRow_70 (by decide) ?_
        exact gx_iret C hW (Nat.le_of_ble_eq_true rfl) (Nat.le_of_ble_eq_true rfl) rfl hw dX3_workRow_71
    · have hw := w_t hw c6
      refine gx_aload_n hx hb dX3_workRow_36 rfl (lv_at hl 2 rfl) ?_
      refine gx_aload_n hx hb dX3_workRow_37 rfl (lv_at hl 3 rfl) ?_
      refine gx_getI C hW F3_63 (k := 451) ha1 ta1 rfl dX3_workRow_38 ?_
      refine gx_aload_n hx hb dX3_workRow_41 rfl (lv_at hl 0 rfl) ?_
      obtain ⟨a28, ha28, ta28, hw⟩ := hw
      refine gx_getI C hW F3_84 (k := 323) ha28 ta28 rfl dX3_workRow_42 ?_
      refine lv_i2l (v := _) hx hb dX3_workRow_45 rfl ?_
      refine gx_cv (gx_rV C hW M3_76 (mX3_setNumber l D cy _ _ _ _ _ t0 hw) rfl rfl ⟨Nat.le_of_ble_eq_true rfl, Nat.le_of_ble_eq_true rfl⟩ rfl t0 (by decide) rfl rfl hl.1 rfl (gx_room0 (n := 4) (Nat.le_of_ble_eq_true rfl)) dX3_workRow_46 ⟨Nat.le_of_ble_eq_true rfl, Nat.le_of_ble_eq_true rfl⟩) hW (fun S30 H locs hW hm hw => ?_)
      have t0 := hm _ _ t0
      have ta1 := hm _ _ ta1
      have ta28 := hm _ _ ta28
      refine lv_iconst (v := -1) hx hb dX3_workRow_49 (by decide) ?_
      exact gx_iret C hW (Nat.le_of_ble_eq_true rfl) (Nat.le_of_ble_eq_true rfl) rfl hw dX3_workRow_50
  · have hw := w_t hw c5
    refine lv_bipush (v := 6) hx hb dX3_workRow_24 (by decide) ?_
    exact gx_iret C hW (Nat.le_of_ble_eq_true rfl) (Nat.le_of_ble_eq_true rfl) rfl hw dX3_workRow_26
/-! TrialStair$House.workGrid -/
def wX3_workGrid (x0 : Nat) (x1 : Option Nat) (S0 : Sg) (Q : Int32 → Sg → Prop) : Prop := ∃ a1 : Nat, x1 = some a1 ∧ tg S0 a1 = 8 ∧ wX3_intOf x0 (fI S0 450 a1) S0 (fun (r2 : Int32) (S3 : Sg) => wX3_intOf x0 (fI S3 451 a1) S3 (fun (r4 : Int32) (S5 : Sg) => (if (fI S5 449 a1) = (11 : Int32) then (if r2 < 0 then Q (7 : Int32) S5 else (if 0 ≤ r4 then ∃ a25 : Nat, (fR S5 195 x0) = some a25 ∧ tg S5 a25 = 3 ∧ wX2_make a25 (r2 &&& (7 : Int32)) (r4 &&& (7 : Int32)) S5 (fun (S27 : Sg) => Q (-1 : Int32) S27) else Q (7 : Int32) S5)) else ∃ a7 : Nat, (fR S5 195 x0) = some a7 ∧ tg S5 a7 = 3 ∧ (if (fI S5 129 a7) = 0 then Q (6 : Int32) S5 else wX2_has a7 r2 r4 S5 (fun (r9 : Int32) (S10 : Sg) => (if r9 = 0 then Q (5 : Int32) S10 else (if (fI S10 449 a1) = (12 : Int32) then ∃ a18 : Nat, (fR S10 195 x0) = some a18 ∧ tg S10 a18 = 3 ∧ wX2_cellAt a18 r2 r4 S10 (fun (r19 : Int32) (S20 : Sg) => wX3_setNumber x0 (fI S10 452 a1) ((r19).toInt64) S20 (fun (S22 : Sg) => Q (-1 : Int32) S22)) else wX3_intOf x0 (fI S10 452 a1) S10 (fun (r13 : Int32) (S14 : Sg) => ∃ a15 : Nat, (fR S10 195 x0) = some a15 ∧ tg S14 a15 = 3 ∧ wX2_putCell a15 r2 r4 r13 S14 (fun (S17 : Sg) => Q (-1 : Int32) S17)))))))))
set_option maxHeartbeats 4000000 in
set_option maxRecDepth 100000 in
theorem mX3_workGrid (l : Launch) (D : va_G) (cy : Nat → ClassId) (x0 : Nat) (x1 : Option Nat) (S0 : Sg) (Q : Int32 → Sg → Prop) (t0 : tg S0 x0 = 4) (hw : wX3_workGrid x0 x1 S0 Q) : Met l yX3_workGrid (.code yX3_workGrid cX3_workGrid 4 (some .int) :: wsL_law) { frames := 2, cells := 0, slots := 0, locals := 45 } (gPc D cy [va_rf (some x0), va_rf x1] S0) (va_Qi Q (gB D cy S0) (gA S0)) 0 0 (gA S0) := by
  refine gx_met (by decide) (by simp [lg_sl, va_rf_cat, cat_i, cat_l]) ?_
  intro p e s m args below meth c ls C hW hl
  have hx := C.1
  have hb := C.2.1
  have hl : lv_has ls 4 [(0, va_rf (some x0)), (1, va_rf x1)] := by simpa [lv_args, va_rf_cat, cat_i, cat_l] using hl
  unfold wX3_workGrid at hw
  refine gx_aload_n hx hb dX3_workGrid_0 rfl (lv_at hl 0 rfl) ?_
  refine gx_aload_n hx hb dX3_workGrid_1 rfl (lv_at hl 1 rfl) ?_
  obtain ⟨a1, ha1, ta1, hw⟩ := hw
  refine gx_getI C hW F3_69 (k := 450) ha1 ta1 rfl dX3_workGrid_2 ?_
  refine gx_ci (gx_rV C hW M3_87 (mX3_intOf l D cy _ _ _ _ t0 hw) rfl rfl ⟨Nat.le_of_ble_eq_true rfl, Nat.le_of_ble_eq_true rfl⟩ rfl t0 (by decide) rfl rfl hl.1 rfl (gx_room0 (n := 4) (Nat.le_of_ble_eq_true rfl)) dX3_workGrid_5 ⟨Nat.le_of_ble_eq_true rfl, Nat.le_of_ble_eq_true rfl⟩) hW (fun r2 S3 H locs hW hm hw => ?_)
  have t0 := hm _ _ t0
  have ta1 := hm _ _ ta1
  refine lv_istore_n (i := 2) (lv' := [(2, .int r2), (0, va_rf (some x0)), (1, va_rf x1)]) hx hb dX3_workGrid_8 rfl hl (by decide) (by simp [List.filter, va_rf_cat, cat_i, cat_l]) (fun ls hl => ?_)
  refine gx_aload_n hx hb dX3_workGrid_9 rfl (lv_at hl 1 rfl) ?_
  refine gx_aload_n hx hb dX3_workGrid_10 rfl (lv_at hl 2 rfl) ?_
  refine gx_getI C hW F3_63 (k := 451) ha1 ta1 rfl dX3_workGrid_11 ?_
  refine gx_ci (gx_rV C hW M3_87 (mX3_intOf l D cy _ _ _ _ t0 hw) rfl rfl ⟨Nat.le_of_ble_eq_true rfl, Nat.le_of_ble_eq_true rfl⟩ rfl t0 (by decide) rfl rfl hl.1 rfl (gx_room0 (n := 4) (Nat.le_of_ble_eq_true rfl)) dX3_workGrid_14 ⟨Nat.le_of_ble_eq_true rfl, Nat.le_of_ble_eq_true rfl⟩) hW (fun r4 S5 H locs hW hm hw => ?_)
  have t0 := hm _ _ t0
  have ta1 := hm _ _ ta1
  refine lv_istore_n (i := 3) (lv' := [(3, .int r4), (2, .int r2), (0, va_rf (some x0)), (1, va_rf x1)]) hx hb dX3_workGrid_17 rfl hl (by decide) rfl (fun ls hl => ?_)
  refine gx_aload_n hx hb dX3_workGrid_18 rfl (lv_at hl 3 rfl) ?_
  refine gx_getI C hW F3_38 (k := 449) ha1 ta1 rfl dX3_workGrid_19 ?_
  refine lv_bipush (v := 11) hx hb dX3_workGrid_22 (by decide) ?_
  refine lv_icmp_ne (tgt := 55) hx hb dX3_workGrid_24 (by decide) (fun c6 => ?_) (fun c6 => ?_)
  · have hw := w_f hw c6
    refine gx_aload_n hx hb dX3_workGrid_55 rfl (lv_at hl 2 rfl) ?_
    refine gx_getR C hW F3_30 (k := 195) rfl t0 rfl dX3_workGrid_56 ?_
    obtain ⟨a7, ha7, ta7, hw⟩ := hw
    refine gx_getI C hW F3_136 (k := 129) ha7 ta7 rfl dX3_workGrid_59 ?_
    refine lv_if_ne (tgt := 68) hx hb dX3_workGrid_62 (by decide) (fun c8 => ?_) (fun c8 => ?_)
    · have hw := w_f hw c8
      refine gx_aload_n hx hb dX3_workGrid_68 rfl (lv_at hl 2 rfl) ?_
      refine gx_getR C hW F3_30 (k := 195) rfl t0 rfl dX3_workGrid_69 ?_
      refine lv_iload_n hx hb dX3_workGrid_72 rfl (lv_at hl 1 rfl) ?_
      refine lv_iload_n hx hb dX3_workGrid_73 rfl (lv_at hl 0 rfl) ?_
      refine gx_ci (gx_rV C hW M3_139 (mX2_has l D cy _ _ _ _ _ ta7 hw) rfl rfl ⟨Nat.le_of_ble_eq_true rfl, Nat.le_of_ble_eq_true rfl⟩ ha7 ta7 (by decide) rfl rfl hl.1 rfl (gx_room0 (n := 4) (Nat.le_of_ble_eq_true rfl)) dX3_workGrid_74 ⟨Nat.le_of_ble_eq_true rfl, Nat.le_of_ble_eq_true rfl⟩) hW (fun r9 S10 H locs hW hm hw => ?_)
      have t0 := hm _ _ t0
      have ta1 := hm _ _ ta1
      have ta7 := hm _ _ ta7
      refine lv_if_ne (tgt := 82) hx hb dX3_workGrid_77 (by decide) (fun c11 => ?_) (fun c11 => ?_)
      · have hw := w_f hw c11
        refine gx_aload_n hx hb dX3_workGrid_82 rfl (lv_at hl 3 rfl) ?_
        refine gx_getI C hW F3_38 (k := 449) ha1 ta1 rfl dX3_workGrid_83 ?_
        refine lv_bipush (v := 12) hx hb dX3_workGrid_86 (by decide) ?_
        refine lv_icmp_ne (tgt := 112) hx hb dX3_workGrid_88 (by decide) (fun c12 => ?_) (fun c12 => ?_)
        · have hw := w_f hw c12
          refine gx_aload_n hx hb dX3_workGrid_112 rfl (lv_at hl 2 rfl) ?_
          refine gx_getR C hW F3_30 (k := 195) rfl t0 rfl dX3_workGrid_113 ?_
          refine lv_iload_n hx hb dX3_workGrid_116 rfl (lv_at hl 1 rfl) ?_
          refine lv_iload_n hx hb dX3_workGrid_117 rfl (lv_at hl 0 rfl) ?_
          refine gx_aload_n hx hb dX3_workGrid_118 rfl (lv_at hl 2 rfl) ?_
          refine gx_aload_n hx hb dX3_workGrid_119 rfl (lv_at hl 3 rfl) ?_
          refine gx_getI C hW F3_66 (k := 452) ha1 ta1 rfl dX3_workGrid_120 ?_
          refine gx_ci (gx_rV C hW M3_87 (mX3_intOf l D cy _ _ _ _ t0 hw) rfl rfl ⟨Nat.le_of_ble_eq_true rfl, Nat.le_of_ble_eq_true rfl⟩ rfl t0 (by decide) rfl rfl hl.1 rfl (gx_room0 (n := 4) (Nat.le_of_ble_eq_true rfl)) dX3_workGrid_123 ⟨Nat.le_of_ble_eq_true rfl, Nat.le_of_ble_eq_true rfl⟩) hW (fun r13 S14 H locs hW hm hw => ?_)
          have t0 := hm _ _ t0
          have ta1 := hm _ _ ta1
          have ta7 := hm _ _ ta7
          obtain ⟨a15, ha15, ta15, hw⟩ := hw
          refine gx_cv (gx_rV C hW M3_146 (mX2_putCell l D cy _ _ _ _ _ _ ta15 hw) rfl rfl ⟨Nat.le_of_ble_eq_true rfl, Nat.le_of_ble_eq_true rfl⟩ ha15 ta15 (by decide) rfl rfl hl.1 rfl (gx_room0 (n := 4) (Nat.le_of_ble_eq_true rfl)) dX3_workGrid_126 ⟨Nat.le_of_ble_eq_true rfl, Nat.le_of_ble_eq_true rfl⟩) hW (fun S17 H locs hW hm hw => ?_)
          have t0 := hm _ _ t0
          have ta1 := hm _ _ ta1
          have ta7 := hm _ _ ta7
          have ta15 := hm _ _ ta15
          refine lv_iconst (v := -1) hx hb dX3_workGrid_129 (by decide) ?_
          exact gx_iret C hW (Nat.le_of_ble_eq_true rfl) (Nat.le_of_ble_eq_true rfl) rfl hw dX3_workGrid_130
        · have hw := w_t hw c12
          refine gx_aload_n hx hb dX3_workGrid_91 rfl (lv_at hl 2 rfl) ?_
          refine gx_aload_n hx hb dX3_workGrid_92 rfl (lv_at hl 3 rfl) ?_
          refine gx_getI C hW F3_66 (k := 452) ha1 ta1 rfl dX3_workGrid_93 ?_
          refine gx_aload_n hx hb dX3_workGrid_96 rfl (lv_at hl 2 rfl) ?_
          refine gx_getR C hW F3_30 (k := 195) rfl t0 rfl dX3_workGrid_97 ?_
          refine lv_iload_n hx hb dX3_workGrid_100 rfl (lv_at hl 1 rfl) ?_
          refine lv_iload_n hx hb dX3_workGrid_101 rfl (lv_at hl 0 rfl) ?_
          obtain ⟨a18, ha18, ta18, hw⟩ := hw
          refine gx_ci (gx_rV C hW M3_142 (mX2_cellAt l D cy _ _ _ _ _ ta18 hw) rfl rfl ⟨Nat.le_of_ble_eq_true rfl, Nat.le_of_ble_eq_true rfl⟩ ha18 ta18 (by decide) rfl rfl hl.1 rfl (gx_room0 (n := 4) (Nat.le_of_ble_eq_true rfl)) dX3_workGrid_102 ⟨Nat.le_of_ble_eq_true rfl, Nat.le_of_ble_eq_true rfl⟩) hW (fun r19 S20 H locs hW hm hw => ?_)
          have t0 := hm _ _ t0
          have ta1 := hm _ _ ta1
          have ta7 := hm _ _ ta7
          have ta18 := hm _ _ ta18
          refine lv_i2l (v := _) hx hb dX3_workGrid_105 rfl ?_
          refine gx_cv (gx_rV C hW M3_76 (mX3_setNumber l D cy _ _ _ _ _ t0 hw) rfl rfl ⟨Nat.le_of_ble_eq_true rfl, Nat.le_of_ble_eq_true rfl⟩ rfl t0 (by decide) rfl rfl hl.1 rfl (gx_room0 (n := 4) (Nat.le_of_ble_eq_true rfl)) dX3_workGrid_106 ⟨Nat.le_of_ble_eq_true rfl, Nat.le_of_ble_eq_true rfl⟩) hW (fun S22 H locs hW hm hw => ?_)
          have t0 := hm _ _ t0
          have ta1 := hm _ _ ta1
          have ta7 := hm _ _ ta7
          have ta18 := hm _ _ ta18
          refine lv_goto (tgt := 129) hx hb dX3_workGrid_109 (by decide) ?_
          refine lv_iconst (v := -1) hx hb dX3_workGrid_129 (by decide) ?_
          exact gx_iret C hW (Nat.le_of_ble_eq_true rfl) (Nat.le_of_ble_eq_true rfl) rfl hw dX3_workGrid_130
      · have hw := w_t hw c11
        refine lv_iconst (v := 5) hx hb dX3_workGrid_80 (by decide) ?_
        exact gx_iret C hW (Nat.le_of_ble_eq_true rfl) (Nat.le_of_ble_eq_true rfl) rfl hw dX3_workGrid_81
    · have hw := w_t hw c8
      refine lv_bipush (v := 6) hx hb dX3_workGrid_65 (by decide) ?_
      exact gx_iret C hW (Nat.le_of_ble_eq_true rfl) (Nat.le_of_ble_eq_true rfl) rfl hw dX3_workGrid_67
  · have hw := w_t hw c6
    refine lv_iload_n hx hb dX3_workGrid_27 rfl (lv_at hl 1 rfl) ?_
    refine lv_if_lt (tgt := 35) hx hb dX3_workGrid_28 (by decide) (fun c23 => ?_) (fun c23 => ?_)
    · have hw := w_t hw c23
      refine lv_bipush (v := 7) hx hb dX3_workGrid_35 (by decide) ?_
      exact gx_iret C hW (Nat.le_of_ble_eq_true rfl) (Nat.le_of_ble_eq_true rfl) rfl hw dX3_workGrid_37
    · have hw := w_f hw c23
      refine lv_iload_n hx hb dX3_workGrid_31 rfl (lv_at hl 0 rfl) ?_
      refine lv_if_ge (tgt := 38) hx hb dX3_workGrid_32 (by decide) (fun c24 => ?_) (fun c24 => ?_)
      · have hw := w_t hw c24
        refine gx_aload_n hx hb dX3_workGrid_38 rfl (lv_at hl 2 rfl) ?_
        refine gx_getR C hW F3_30 (k := 195) rfl t0 rfl dX3_workGrid_39 ?_
        refine lv_iload_n hx hb dX3_workGrid_42 rfl (lv_at hl 1 rfl) ?_
        refine lv_bipush (v := 7) hx hb dX3_workGrid_43 (by decide) ?_
        refine lv_iand hx hb dX3_workGrid_45 ?_
        refine lv_iload_n hx hb dX3_workGrid_46 rfl (lv_at hl 0 rfl) ?_
        refine lv_bipush (v := 7) hx hb dX3_workGrid_47 (by decide) ?_
        refine lv_iand hx hb dX3_workGrid_49 ?_
        obtain ⟨a25, ha25, ta25, hw⟩ := hw
        refine gx_cv (gx_rV C hW M3_132 (mX2_make l D cy _ _ _ _ _ ta25 hw) rfl rfl ⟨Nat.le_of_ble_eq_true rfl, Nat.le_of_ble_eq_true rfl⟩ ha25 ta25 (by decide) rfl rfl hl.1 rfl (gx_room0 (n := 4) (Nat.le_of_ble_eq_true rfl)) dX3_workGrid_50 ⟨Nat.le_of_ble_eq_true rfl, Nat.le_of_ble_eq_true rfl⟩) hW (fun S27 H locs hW hm hw => ?_)
        have t0 := hm _ _ t0
        have ta1 := hm _ _ ta1
        have ta25 := hm _ _ ta25
        refine lv_iconst (v := -1) hx hb dX3_workGrid_53 (by decide) ?_
        exact gx_iret C hW (Nat.le_of_ble_eq_true rfl) (Nat.le_of_ble_eq_true rfl) rfl hw dX3_workGrid_54
      · have hw := w_f hw c24
        refine lv_bipush (v := 7) hx hb dX3_workGrid_35 (by decide) ?_
        exact gx_iret C hW (Nat.le_of_ble_eq_true rfl) (Nat.le_of_ble_eq_true rfl) rfl hw dX3_workGrid_37
/-! TrialStair$House.newThing -/
def wX3_newThing (x0 : Int32) (x1 : Int64) (S0 : Sg) (Q : Option Nat → Sg → Prop) : Prop := (if x0 ≤ (2 : Int32) then ∀ S3 : Sg, S3 = nw S0 9 0 → wX8_init (sz S0) x0 x1 S3 (fun (S5 : Sg) => Q (some (sz S0)) S5) else Q none S0)
set_option maxHeartbeats 4000000 in
set_option maxRecDepth 100000 in
theorem mX3_newThing (l : Launch) (D : va_G) (cy : Nat → ClassId) (x0 : Int32) (x1 : Int64) (S0 : Sg) (Q : Option Nat → Sg → Prop) (hw : wX3_newThing x0 x1 S0 Q) : Met l yX3_newThing (.code yX3_newThing cX3_newThing 3 (some (.object "TrialStair$Thing")) :: wsL_law) { frames := 2, cells := 1, slots := 2, locals := 43 } (gPc D cy [.int x0, .long x1] S0) (va_Qq Q (gB D cy S0) (gA S0)) 1 2 (gA S0) := by
  refine gx_met (by decide) (Nat.le_of_ble_eq_true rfl) ?_
  intro p e s m args below meth c ls C hW hl
  have hx := C.1
  have hb := C.2.1
  have hl : lv_has ls 3 [(0, .int x0), (1, .long x1)] := hl
  unfold wX3_newThing at hw
  refine lv_iload_n hx hb dX3_newThing_0 rfl (lv_at hl 0 rfl) ?_
  refine lv_iconst (v := 2) hx hb dX3_newThing_1 (by decide) ?_
  refine lv_icmp_le (tgt := 9) hx hb dX3_newThing_2 (by decide) (fun c1 => ?_) (fun c1 => ?_)
  · have hw := w_t hw c1
    refine gx_new C hW N3_15 (Nat.le_of_ble_eq_true rfl) (Nat.le_of_ble_eq_true rfl) dX3_newThing_9 (fun H S3 eS3 hW hm t2 => ?_)
    have hw := hw S3 eS3
    refine lv_dup hx hb dX3_newThing_12 (va_rf_cat _) ?_
    refine lv_iload_n hx hb dX3_newThing_13 rfl (lv_at hl 0 rfl) ?_
    refine lv_lload_n hx hb dX3_newThing_14 rfl (lv_at hl 1 rfl) ?_
    refine gx_cv (gx_rI C hW M3_161 (mX8_init l D cy _ _ _ _ _ t2 hw) rfl rfl ⟨Nat.le_of_ble_eq_true rfl, Nat.le_of_ble_eq_true rfl⟩ rfl rfl hl.1 rfl (gx_room0 (n := 4) (Nat.le_of_ble_eq_true rfl)) dX3_newThing_15 ⟨Nat.le_of_ble_eq_true rfl, Nat.le_of_ble_eq_true rfl⟩) hW (fun S5 H locs hW hm hw => ?_)
    have t2 := hm _ _ t2
    exact gx_aret C hW (Nat.le_of_ble_eq_true rfl) (Nat.le_of_ble_eq_true rfl) hw dX3_newThing_18
  · have hw := w_f hw c1
    refine gx_null hx hb dX3_newThing_5 ?_
    refine lv_goto (tgt := 18) hx hb dX3_newThing_6 (by decide) ?_
    exact gx_aret C hW (Nat.le_of_ble_eq_true rfl) (Nat.le_of_ble_eq_true rfl) hw dX3_newThing_18
/-! TrialStair$House.workMark -/
def wX3_workMark (x0 : Nat) (x1 : Option Nat) (x2 : Option Nat) (S0 : Sg) (Q : Int32 → Sg → Prop) : Prop := (if x2 = none then Q (6 : Int32) S0 else ∃ a2 : Nat, x1 = some a2 ∧ tg S0 a2 = 8 ∧ (if (fI S0 449 a2) = (16 : Int32) then ∃ a8 : Nat, x2 = some a8 ∧ tg S0 a8 = 9 ∧ wX3_setNumber x0 (fI S0 451 a2) (fL S0 513 a8) S0 (fun (S10 : Sg) => Q (-1 : Int32) S10) else wX3_numberOf x0 (fI S0 451 a2) S0 (fun (r4 : Int64) (S5 : Sg) => ∃ a6 : Nat, x2 = some a6 ∧ tg S5 a6 = 9 ∧ ∀ S7 : Sg, S7 = sFL S5 513 a6 r4 → Q (-1 : Int32) S7)))
set_option maxHeartbeats 4000000 in
set_option maxRecDepth 100000 in
theorem mX3_workMark (l : Launch) (D : va_G) (cy : Nat → ClassId) (x0 : Nat) (x1 : Option Nat) (x2 : Option Nat) (S0 : Sg) (Q : Int32 → Sg → Prop) (t0 : tg S0 x0 = 4) (hw : wX3_workMark x0 x1 x2 S0 Q) : Met l yX3_workMark (.code yX3_workMark cX3_workMark 3 (some .int) :: wsL_law) { frames := 1, cells := 0, slots := 0, locals := 23 } (gPc D cy [va_rf (some x0), va_rf x1, va_rf x2] S0) (va_Qi Q (gB D cy S0) (gA S0)) 0 0 (gA S0) := by
  refine gx_met (by decide) (by simp [lg_sl, va_rf_cat, cat_i, cat_l]) ?_
  intro p e s m args below meth c ls C hW hl
  have hx := C.1
  have hb := C.2.1
  have hl : lv_has ls 3 [(0, va_rf (some x0)), (1, va_rf x1), (2, va_rf x2)] := by simpa [lv_args, va_rf_cat, cat_i, cat_l] using hl
  unfold wX3_workMark at hw
  refine gx_aload_n hx hb dX3_workMark_0 rfl (lv_at hl 2 rfl) ?_
  refine gx_ifnonnull (tgt := 7) hx hb dX3_workMark_1 (by decide) (fun c1 => ?_) (fun c1 => ?_)
  · have hw := w_f hw c1
    refine gx_aload_n hx hb dX3_workMark_7 rfl (lv_at hl 1 rfl) ?_
    obtain ⟨a2, ha2, ta2, hw⟩ := hw
    refine gx_getI C hW F3_38 (k := 449) ha2 ta2 rfl dX3_workMark_8 ?_
    refine lv_bipush (v := 16) hx hb dX3_workMark_11 (by decide) ?_
    refine lv_icmp_ne (tgt := 31) hx hb dX3_workMark_13 (by decide) (fun c3 => ?_) (fun c3 => ?_)
    · have hw := w_f hw c3
      refine gx_aload_n hx hb dX3_workMark_31 rfl (lv_at hl 2 rfl) ?_
      refine gx_aload_n hx hb dX3_workMark_32 rfl (lv_at hl 0 rfl) ?_
      refine gx_aload_n hx hb dX3_workMark_33 rfl (lv_at hl 1 rfl) ?_
      refine gx_getI C hW F3_63 (k := 451) ha2 ta2 rfl dX3_workMark_34 ?_
      refine gx_cl (gx_rV C hW M3_34 (mX3_numberOf l D cy _ _ _ _ t0 hw) rfl rfl ⟨Nat.le_of_ble_eq_true rfl, Nat.le_of_ble_eq_true rfl⟩ rfl t0 (by decide) rfl rfl hl.1 rfl (gx_room0 (n := 4) (Nat.le_of_ble_eq_true rfl)) dX3_workMark_37 ⟨Nat.le_of_ble_eq_true rfl, Nat.le_of_ble_eq_true rfl⟩) hW (fun r4 S5 H locs hW hm hw => ?_)
      have t0 := hm _ _ t0
      have ta2 := hm _ _ ta2
      obtain ⟨a6, ha6, ta6, hw⟩ := hw
      refine gx_putL (k := 513) C hW F3_163 (Or.inl rfl) ha6 ta6 rfl dX3_workMark_40 (fun H locs S7 eS7 hW hm => ?_)
      have hw := hw S7 eS7
      have t0 := hm _ _ t0
      have ta2 := hm _ _ ta2
      have ta6 := hm _ _ ta6
      refine lv_iconst (v := -1) hx hb dX3_workMark_43 (by decide) ?_
      exact gx_iret C hW (Nat.le_of_ble_eq_true rfl) (Nat.le_of_ble_eq_true rfl) rfl hw dX3_workMark_44
    · have hw := w_t hw c3
      refine gx_aload_n hx hb dX3_workMark_16 rfl (lv_at hl 0 rfl) ?_
      refine gx_aload_n hx hb dX3_workMark_17 rfl (lv_at hl 1 rfl) ?_
      refine gx_getI C hW F3_63 (k := 451) ha2 ta2 rfl dX3_workMark_18 ?_
      refine gx_aload_n hx hb dX3_workMark_21 rfl (lv_at hl 2 rfl) ?_
      obtain ⟨a8, ha8, ta8, hw⟩ := hw
      refine gx_getL C hW F3_163 (k := 513) ha8 ta8 rfl dX3_workMark_22 ?_
      refine gx_cv (gx_rV C hW M3_76 (mX3_setNumber l D cy _ _ _ _ _ t0 hw) rfl rfl ⟨Nat.le_of_ble_eq_true rfl, Nat.le_of_ble_eq_true rfl⟩ rfl t0 (by decide) rfl rfl hl.1 rfl (gx_room0 (n := 4) (Nat.le_of_ble_eq_true rfl)) dX3_workMark_25 ⟨Nat.le_of_ble_eq_true rfl, Nat.le_of_ble_eq_true rfl⟩) hW (fun S10 H locs hW hm hw => ?_)
      have t0 := hm _ _ t0
      have ta2 := hm _ _ ta2
      have ta8 := hm _ _ ta8
      refine lv_goto (tgt := 43) hx hb dX3_workMark_28 (by decide) ?_
      refine lv_iconst (v := -1) hx hb dX3_workMark_43 (by decide) ?_
      exact gx_iret C hW (Nat.le_of_ble_eq_true rfl) (Nat.le_of_ble_eq_true rfl) rfl hw dX3_workMark_44
  · have hw := w_t hw c1
    refine lv_bipush (v := 6) hx hb dX3_workMark_4 (by decide) ?_
    exact gx_iret C hW (Nat.le_of_ble_eq_true rfl) (Nat.le_of_ble_eq_true rfl) rfl hw dX3_workMark_6
/-! TrialStair$House.workHand -/
def wX3_workHand_b114 (x0 : Nat) (x1 : Option Nat) (x2 : Option Nat) (S : Sg) (Q : Int32 → Sg → Prop) : Prop := ∃ a20 : Nat, x1 = some a20 ∧ tg S a20 = 8 ∧ ∃ a21 : Nat, (fR S 193 x0) = some a21 ∧ tg S a21 = 18 ∧ vp_in ((fI S 452 a20) &&& (7 : Int32)) (ln S a21) ∧ (∀ v, x2 = some v → tg S v = 9) ∧ ∀ S23 : Sg, S23 = sAR S a21 (((fI S 452 a20) &&& (7 : Int32))).toNatClampNeg x2 → Q (-1 : Int32) S23
def wX3_workHand (x0 : Nat) (x1 : Option Nat) (S0 : Sg) (Q : Int32 → Sg → Prop) : Prop := ∃ a1 : Nat, x1 = some a1 ∧ tg S0 a1 = 8 ∧ wX3_thingOf x0 (fI S0 450 a1) S0 (fun (r2 : Option Nat) (S3 : Sg) => (if (fI S3 449 a1) = 14 then wX3_numberOf x0 (fI S3 452 a1) S3 (fun (r5 : Int64) (S6 : Sg) => wX3_newThing ((fI S3 451 a1) &&& (3 : Int32)) r5 S6 (fun (r7 : Option Nat) (S8 : Sg) => ∃ a9 : Nat, (fR S3 193 x0) = some a9 ∧ tg S8 a9 = 18 ∧ vp_in ((fI S3 450 a1) &&& (7 : Int32)) (ln S8 a9) ∧ (∀ v, r7 = some v → tg S8 v = 9) ∧ ∀ S11 : Sg, S11 = sAR S8 a9 (((fI S3 450 a1) &&& (7 : Int32))).toNatClampNeg r7 → Q (-1 : Int32) S11)) else (if (fI S3 449 a1) = 15 then ∃ a14 : Nat, (fR S3 193 x0) = some a14 ∧ tg S3 a14 = 18 ∧ vp_in ((fI S3 451 a1) &&& (7 : Int32)) (ln S3 a14) ∧ (∀ v, r2 = some v → tg S3 v = 9) ∧ ∀ S16 : Sg, S16 = sAR S3 a14 (((fI S3 451 a1) &&& (7 : Int32))).toNatClampNeg r2 → Q (-1 : Int32) S16 else (if (fI S3 449 a1) = 18 then (if r2 = none then wX3_workHand_b114 x0 x1 r2 S3 Q else ∃ a25 : Nat, r2 = some a25 ∧ tg S3 a25 = 9 ∧ wX8_isCastAs a25 ((fI S3 451 a1) &&& (3 : Int32)) S3 (fun (r26 : Int32) (S27 : Sg) => (if r26 = 0 then Q (8 : Int32) S27 else wX3_workHand_b114 x0 x1 r2 S27 Q))) else wX3_workMark x0 x1 r2 S3 (fun (r29 : Int32) (S30 : Sg) => Q r29 S30)))))
set_option maxHeartbeats 4000000 in
set_option maxRecDepth 100000 in
theorem kX3_workHand_b114 {p : Program} {l : Launch} {e : Env} {s : State} {m : MethodId} {args : Array Value} {below : List Frame} {meth : Method} {c : Code} {D : va_G} {cy : Nat → ClassId} {S0 : Sg} (C : gC p s m args meth c D cy cX3_workHand 3 yX3_workHand.cls (some .int) yX3_workHand.name) {H : Heap} {locs : List Loc} {ls : Array Slot} {x0 : Nat} {x1 : Option Nat} {x2 : Option Nat} {S : Sg} {Q : Int32 → Sg → Prop} (hW : gW D cy (gA S0) (tg S0) s.heap S H locs) (t0 : tg S x0 = 4) (hl : lv_has ls 3 [(0, va_rf (some x0)), (1, va_rf x1), (2, va_rf x2)]) (hw : wX3_workHand_b114 x0 x1 x2 S Q) : W p l e { frames := 3, cells := 1, slots := 2, locals := 65 } s m args below meth c H locs 0 0 (MQ below (va_Qi Q (gB D cy S0) (gA S0)) args s 1 2 (gA S0)) (F0 m 114 ls []) := by
  have hx := C.1
  have hb := C.2.1
  unfold wX3_workHand_b114 at hw
  refine gx_aload_n hx hb dX3_workHand_114 rfl (lv_at hl 0 rfl) ?_
  refine gx_getR C hW F3_17 (k := 193) rfl t0 rfl dX3_workHand_115 ?_
  refine gx_aload_n hx hb dX3_workHand_118 rfl (lv_at hl 1 rfl) ?_
  obtain ⟨a20, ha20, ta20, hw⟩ := hw
  refine gx_getI C hW F3_66 (k := 452) ha20 ta20 rfl dX3_workHand_119 ?_
  refine lv_bipush (v := 7) hx hb dX3_workHand_122 (by decide) ?_
  refine lv_iand hx hb dX3_workHand_124 ?_
  refine gx_aload_n hx hb dX3_workHand_125 rfl (lv_at hl 2 rfl) ?_
  obtain ⟨a21, ha21, ta21, hw⟩ := hw
  obtain ⟨i22, hw⟩ := hw
  obtain ⟨v24, hw⟩ := hw
  refine gx_aast5 C hW ha21 ta21 v24 i22 dX3_workHand_126 (fun H locs S23 eS23 hW hm => ?_)
  have hw := hw S23 eS23
  have t0 := hm _ _ t0
  have ta20 := hm _ _ ta20
  have ta21 := hm _ _ ta21
  refine lv_iconst (v := -1) hx hb dX3_workHand_127 (by decide) ?_
  exact gx_iret C hW (Nat.le_of_ble_eq_true rfl) (Nat.le_of_ble_eq_true rfl) rfl hw dX3_workHand_128
set_option maxHeartbeats 4000000 in
set_option maxRecDepth 100000 in
theorem mX3_workHand (l : Launch) (D : va_G) (cy : Nat → ClassId) (x0 : Nat) (x1 : Option Nat) (S0 : Sg) (Q : Int32 → Sg → Prop) (t0 : tg S0 x0 = 4) (hw : wX3_workHand x0 x1 S0 Q) : Met l yX3_workHand (.code yX3_workHand cX3_workHand 3 (some .int) :: wsL_law) { frames := 3, cells := 1, slots := 2, locals := 65 } (gPc D cy [va_rf (some x0), va_rf x1] S0) (va_Qi Q (gB D cy S0) (gA S0)) 1 2 (gA S0) := by
  refine gx_met (by decide) (by simp [lg_sl, va_rf_cat, cat_i, cat_l]) ?_
  intro p e s m args below meth c ls C hW hl
  have hx := C.1
  have hb := C.2.1
  have hl : lv_has ls 3 [(0, va_rf (some x0)), (1, va_rf x1)] := by simpa [lv_args, va_rf_cat, cat_i, cat_l] using hl
  unfold wX3_workHand at hw
  refine gx_aload_n hx hb dX3_workHand_0 rfl (lv_at hl 0 rfl) ?_
  refine gx_aload_n hx hb dX3_workHand_1 rfl (lv_at hl 1 rfl) ?_
  obtain ⟨a1, ha1, ta1, hw⟩ := hw
  refine gx_getI C hW F3_69 (k := 450) ha1 ta1 rfl dX3_workHand_2 ?_
  refine gx_cq (gx_rV C hW M3_119 (mX3_thingOf l D cy _ _ _ _ t0 hw) rfl rfl ⟨Nat.le_of_ble_eq_true rfl, Nat.le_of_ble_eq_true rfl⟩ rfl t0 (by decide) rfl rfl hl.1 rfl (gx_room0 (n := 4) (Nat.le_of_ble_eq_true rfl)) dX3_workHand_5 ⟨Nat.le_of_ble_eq_true rfl, Nat.le_of_ble_eq_true rfl⟩) hW (fun r2 S3 H locs hW hm hw => ?_)
  have t0 := hm _ _ t0
  have ta1 := hm _ _ ta1
  refine gx_astore_n (i := 2) (lv' := [(2, va_rf r2), (0, va_rf (some x0)), (1, va_rf x1)]) hx hb dX3_workHand_8 rfl hl (by decide) (by simp [List.filter, va_rf_cat, cat_i, cat_l]) (fun ls hl => ?_)
  refine gx_aload_n hx hb dX3_workHand_9 rfl (lv_at hl 2 rfl) ?_
  refine gx_getI C hW F3_38 (k := 449) ha1 ta1 rfl dX3_workHand_10 ?_
  by_cases c4 : (fI S3 449 a1) = (14 : Int32)
  · have hw := w_t hw c4
    refine lv_tableIn (off := 35) (tgt := 48) hx hb dX3_workHand_13 (by rw [c4]; decide) (by rw [c4]; decide) (by rw [c4]; rfl) (by decide) ?_
    refine gx_aload_n hx hb dX3_workHand_48 rfl (lv_at hl 1 rfl) ?_
    refine gx_getR C hW F3_17 (k := 193) rfl t0 rfl dX3_workHand_49 ?_
    refine gx_aload_n hx hb dX3_workHand_52 rfl (lv_at hl 2 rfl) ?_
    refine gx_getI C hW F3_69 (k := 450) ha1 ta1 rfl dX3_workHand_53 ?_
    refine lv_bipush (v := 7) hx hb dX3_workHand_56 (by decide) ?_
    refine lv_iand hx hb dX3_workHand_58 ?_
    refine gx_aload_n hx hb dX3_workHand_59 rfl (lv_at hl 2 rfl) ?_
    refine gx_getI C hW F3_63 (k := 451) ha1 ta1 rfl dX3_workHand_60 ?_
    refine lv_iconst (v := 3) hx hb dX3_workHand_63 (by decide) ?_
    refine lv_iand hx hb dX3_workHand_64 ?_
    refine gx_aload_n hx hb dX3_workHand_65 rfl (lv_at hl 1 rfl) ?_
    refine gx_aload_n hx hb dX3_workHand_66 rfl (lv_at hl 2 rfl) ?_
    refine gx_getI C hW F3_66 (k := 452) ha1 ta1 rfl dX3_workHand_67 ?_
    refine gx_cl (gx_rV C hW M3_34 (mX3_numberOf l D cy _ _ _ _ t0 hw) rfl rfl ⟨Nat.le_of_ble_eq_true rfl, Nat.le_of_ble_eq_true rfl⟩ rfl t0 (by decide) rfl rfl hl.1 rfl (gx_room0 (n := 4) (Nat.le_of_ble_eq_true rfl)) dX3_workHand_70 ⟨Nat.le_of_ble_eq_true rfl, Nat.le_of_ble_eq_true rfl⟩) hW (fun r5 S6 H locs hW hm hw => ?_)
    have t0 := hm _ _ t0
    have ta1 := hm _ _ ta1
    refine gx_cq (gx_rS C hW M3_150 (mX3_newThing l D cy _ _ _ _  hw) rfl rfl ⟨Nat.le_of_ble_eq_true rfl, Nat.le_of_ble_eq_true rfl⟩ rfl hl.1 rfl (gx_room0 (n := 4) (Nat.le_of_ble_eq_true rfl)) dX3_workHand_73 ⟨Nat.le_of_ble_eq_true rfl, Nat.le_of_ble_eq_true rfl⟩) hW (fun r7 S8 H locs hW hm hw => ?_)
    have t0 := hm _ _ t0
    have ta1 := hm _ _ ta1
    obtain ⟨a9, ha9, ta9, hw⟩ := hw
    obtain ⟨i10, hw⟩ := hw
    obtain ⟨v12, hw⟩ := hw
    refine gx_aast5 C hW ha9 ta9 v12 i10 dX3_workHand_76 (fun H locs S11 eS11 hW hm => ?_)
    have hw := hw S11 eS11
    have t0 := hm _ _ t0
    have ta1 := hm _ _ ta1
    have ta9 := hm _ _ ta9
    refine lv_iconst (v := -1) hx hb dX3_workHand_77 (by decide) ?_
    exact gx_iret C hW (Nat.le_of_ble_eq_true rfl) (Nat.le_of_ble_eq_true rfl) rfl hw dX3_workHand_78
  · have hw := w_f hw c4
    by_cases c13 : (fI S3 449 a1) = (15 : Int32)
    · have hw := w_t hw c13
      refine lv_tableIn (off := 66) (tgt := 79) hx hb dX3_workHand_13 (by rw [c13]; decide) (by rw [c13]; decide) (by rw [c13]; rfl) (by decide) ?_
      refine gx_aload_n hx hb dX3_workHand_79 rfl (lv_at hl 1 rfl) ?_
      refine gx_getR C hW F3_17 (k := 193) rfl t0 rfl dX3_workHand_80 ?_
      refine gx_aload_n hx hb dX3_workHand_83 rfl (lv_at hl 2 rfl) ?_
      refine gx_getI C hW F3_63 (k := 451) ha1 ta1 rfl dX3_workHand_84 ?_
      refine lv_bipush (v := 7) hx hb dX3_workHand_87 (by decide) ?_
      refine lv_iand hx hb dX3_workHand_89 ?_
      refine gx_aload_n hx hb dX3_workHand_90 rfl (lv_at hl 0 rfl) ?_
      obtain ⟨a14, ha14, ta14, hw⟩ := hw
      obtain ⟨i15, hw⟩ := hw
      obtain ⟨v17, hw⟩ := hw
      refine gx_aast5 C hW ha14 ta14 v17 i15 dX3_workHand_91 (fun H locs S16 eS16 hW hm => ?_)
      have hw := hw S16 eS16
      have t0 := hm _ _ t0
      have ta1 := hm _ _ ta1
      have ta14 := hm _ _ ta14
      refine lv_iconst (v := -1) hx hb dX3_workHand_92 (by decide) ?_
      exact gx_iret C hW (Nat.le_of_ble_eq_true rfl) (Nat.le_of_ble_eq_true rfl) rfl hw dX3_workHand_93
    · have hw := w_f hw c13
      by_cases c18 : (fI S3 449 a1) = (18 : Int32)
      · have hw := w_t hw c18
        refine lv_tableIn (off := 81) (tgt := 94) hx hb dX3_workHand_13 (by rw [c18]; decide) (by rw [c18]; decide) (by rw [c18]; rfl) (by decide) ?_
        refine gx_aload_n hx hb dX3_workHand_94 rfl (lv_at hl 0 rfl) ?_
        refine gx_ifnull (tgt := 114) hx hb dX3_workHand_95 (by decide) (fun c19 => ?_) (fun c19 => ?_)
        · have hw := w_t hw c19
          exact kX3_workHand_b114 C hW t0 (lv_sub hl [1, 2, 0] rfl) hw
        · have hw := w_f hw c19
          refine gx_aload_n hx hb dX3_workHand_98 rfl (lv_at hl 0 rfl) ?_
          refine gx_aload_n hx hb dX3_workHand_99 rfl (lv_at hl 2 rfl) ?_
          refine gx_getI C hW F3_63 (k := 451) ha1 ta1 rfl dX3_workHand_100 ?_
          refine lv_iconst (v := 3) hx hb dX3_workHand_103 (by decide) ?_
          refine lv_iand hx hb dX3_workHand_104 ?_
          obtain ⟨a25, ha25, ta25, hw⟩ := hw
          refine gx_ci (gx_rV C hW M3_154 (mX8_isCastAs l D cy _ _ _ _ ta25 hw) rfl rfl ⟨Nat.le_of_ble_eq_true rfl, Nat.le_of_ble_eq_true rfl⟩ ha25 ta25 (by decide) rfl rfl hl.1 rfl (gx_room0 (n := 4) (Nat.le_of_ble_eq_true rfl)) dX3_workHand_105 ⟨Nat.le_of_ble_eq_true rfl, Nat.le_of_ble_eq_true rfl⟩) hW (fun r26 S27 H locs hW hm hw => ?_)
          have t0 := hm _ _ t0
          have ta1 := hm _ _ ta1
          have ta25 := hm _ _ ta25
          refine lv_if_ne (tgt := 114) hx hb dX3_workHand_108 (by decide) (fun c28 => ?_) (fun c28 => ?_)
          · have hw := w_f hw c28
            exact kX3_workHand_b114 C hW t0 (lv_sub hl [1, 2, 0] rfl) hw
          · have hw := w_t hw c28
            refine lv_bipush (v := 8) hx hb dX3_workHand_111 (by decide) ?_
            exact gx_iret C hW (Nat.le_of_ble_eq_true rfl) (Nat.le_of_ble_eq_true rfl) rfl hw dX3_workHand_113
      · have hw := w_f hw c18
        refine gx_tdef (n := 5) (tgt := 129) hx hb dX3_workHand_13 (by decide) (by decide) (lt_s (lt_s (lt_s (lt_s (lt_s (lt_0) (fun hx9 => tb_ne c4 (by decide) hx9)) (fun hx9 => tb_ne c13 (by decide) hx9)) (fun hx9 => rfl)) (fun hx9 => rfl)) (fun hx9 => tb_ne c18 (by decide) hx9)) ?_
        refine gx_aload_n hx hb dX3_workHand_129 rfl (lv_at hl 1 rfl) ?_
        refine gx_aload_n hx hb dX3_workHand_130 rfl (lv_at hl 2 rfl) ?_
        refine gx_aload_n hx hb dX3_workHand_131 rfl (lv_at hl 0 rfl) ?_
        refine gx_ci (gx_rV C hW M3_157 (mX3_workMark l D cy _ _ _ _ _ t0 hw) rfl rfl ⟨Nat.le_of_ble_eq_true rfl, Nat.le_of_ble_eq_true rfl⟩ rfl t0 (by decide) rfl rfl hl.1 rfl (gx_room0 (n := 4) (Nat.le_of_ble_eq_true rfl)) dX3_workHand_132 ⟨Nat.le_of_ble_eq_true rfl, Nat.le_of_ble_eq_true rfl⟩) hW (fun r29 S30 H locs hW hm hw => ?_)
        have t0 := hm _ _ t0
        have ta1 := hm _ _ ta1
        exact gx_iret C hW (Nat.le_of_ble_eq_true rfl) (Nat.le_of_ble_eq_true rfl) rfl hw dX3_workHand_135
/-! TrialStair$House.workTool -/
def wX3_workTool (x0 : Nat) (x1 : Option Nat) (S0 : Sg) (Q : Int32 → Sg → Prop) : Prop := ∃ a1 : Nat, x1 = some a1 ∧ tg S0 a1 = 8 ∧ wX3_thingOf x0 (fI S0 450 a1) S0 (fun (r2 : Option Nat) (S3 : Sg) => (if r2 = none then Q (6 : Int32) S3 else wX3_numberOf x0 (fI S3 451 a1) S3 (fun (r5 : Int64) (S6 : Sg) => (if (fI S6 449 a1) = (19 : Int32) then ∃ a20 : Nat, r2 = some a20 ∧ tg S6 a20 = 9 ∧ wX8_use a20 r5 S6 (fun (r21 : Int64) (S22 : Sg) => wX3_setNumber x0 (fI S6 452 a1) r21 S22 (fun (S24 : Sg) => Q (-1 : Int32) S24)) else (if (fI S6 449 a1) = (21 : Int32) then ∃ a17 : Nat, r2 = some a17 ∧ tg S6 a17 = 9 ∧ wX3_setNumber x0 (fI S6 452 a1) (((3 : Int64) * r5) + (fL S6 513 a17)) S6 (fun (S19 : Sg) => Q (-1 : Int32) S19) else ∃ a9 : Nat, r2 = some a9 ∧ tg S6 a9 = 9 ∧ wX8_rings a9  S6 (fun (r10 : Int32) (S11 : Sg) => (if r10 = 0 then Q (8 : Int32) S11 else wX8_ring a9 r5 S11 (fun (r13 : Int64) (S14 : Sg) => wX3_setNumber x0 (fI S11 452 a1) r13 S14 (fun (S16 : Sg) => Q (-1 : Int32) S16)))))))))
set_option maxHeartbeats 4000000 in
set_option maxRecDepth 100000 in
theorem mX3_workTool (l : Launch) (D : va_G) (cy : Nat → ClassId) (x0 : Nat) (x1 : Option Nat) (S0 : Sg) (Q : Int32 → Sg → Prop) (t0 : tg S0 x0 = 4) (hw : wX3_workTool x0 x1 S0 Q) : Met l yX3_workTool (.code yX3_workTool cX3_workTool 5 (some .int) :: wsL_law) { frames := 1, cells := 0, slots := 0, locals := 24 } (gPc D cy [va_rf (some x0), va_rf x1] S0) (va_Qi Q (gB D cy S0) (gA S0)) 0 0 (gA S0) := by
  refine gx_met (by decide) (by simp [lg_sl, va_rf_cat, cat_i, cat_l]) ?_
  intro p e s m args below meth c ls C hW hl
  have hx := C.1
  have hb := C.2.1
  have hl : lv_has ls 5 [(0, va_rf (some x0)), (1, va_rf x1)] := by simpa [lv_args, va_rf_cat, cat_i, cat_l] using hl
  unfold wX3_workTool at hw
  refine gx_aload_n hx hb dX3_workTool_0 rfl (lv_at hl 0 rfl) ?_
  refine gx_aload_n hx hb dX3_workTool_1 rfl (lv_at hl 1 rfl) ?_
  obtain ⟨a1, ha1, ta1, hw⟩ := hw
  refine gx_getI C hW F3_69 (k := 450) ha1 ta1 rfl dX3_workTool_2 ?_
  refine gx_cq (gx_rV C hW M3_119 (mX3_thingOf l D cy _ _ _ _ t0 hw) rfl rfl ⟨Nat.le_of_ble_eq_true rfl, Nat.le_of_ble_eq_true rfl⟩ rfl t0 (by decide) rfl rfl hl.1 rfl (gx_room0 (n := 4) (Nat.le_of_ble_eq_true rfl)) dX3_workTool_5 ⟨Nat.le_of_ble_eq_true rfl, Nat.le_of_ble_eq_true rfl⟩) hW (fun r2 S3 H locs hW hm hw => ?_)
  have t0 := hm _ _ t0
  have ta1 := hm _ _ ta1
  refine gx_astore_n (i := 2) (lv' := [(2, va_rf r2), (0, va_rf (some x0)), (1, va_rf x1)]) hx hb dX3_workTool_8 rfl hl (by decide) (by simp [List.filter, va_rf_cat, cat_i, cat_l]) (fun ls hl => ?_)
  refine gx_aload_n hx hb dX3_workTool_9 rfl (lv_at hl 0 rfl) ?_
  refine gx_ifnonnull (tgt := 16) hx hb dX3_workTool_10 (by decide) (fun c4 => ?_) (fun c4 => ?_)
  · have hw := w_f hw c4
    refine gx_aload_n hx hb dX3_workTool_16 rfl (lv_at hl 1 rfl) ?_
    refine gx_aload_n hx hb dX3_workTool_17 rfl (lv_at hl 2 rfl) ?_
    refine gx_getI C hW F3_63 (k := 451) ha1 ta1 rfl dX3_workTool_18 ?_
    refine gx_cl (gx_rV C hW M3_34 (mX3_numberOf l D cy _ _ _ _ t0 hw) rfl rfl ⟨Nat.le_of_ble_eq_true rfl, Nat.le_of_ble_eq_true rfl⟩ rfl t0 (by decide) rfl rfl hl.1 rfl (gx_room0 (n := 4) (Nat.le_of_ble_eq_true rfl)) dX3_workTool_21 ⟨Nat.le_of_ble_eq_true rfl, Nat.le_of_ble_eq_true rfl⟩) hW (fun r5 S6 H locs hW hm hw => ?_)
    have t0 := hm _ _ t0
    have ta1 := hm _ _ ta1
    refine lv_lstore_n (i := 3) (lv' := [(3, .long r5), (2, va_rf r2), (0, va_rf (some x0)), (1, va_rf x1)]) hx hb dX3_workTool_24 rfl hl (by decide) (by simp [List.filter, va_rf_cat, cat_i, cat_l]) (fun ls hl => ?_)
    refine gx_aload_n hx hb dX3_workTool_25 rfl (lv_at hl 3 rfl) ?_
    refine gx_getI C hW F3_38 (k := 449) ha1 ta1 rfl dX3_workTool_26 ?_
    refine lv_bipush (v := 19) hx hb dX3_workTool_29 (by decide) ?_
    refine lv_icmp_ne (tgt := 50) hx hb dX3_workTool_31 (by decide) (fun c7 => ?_) (fun c7 => ?_)
    · have hw := w_f hw c7
      refine gx_aload_n hx hb dX3_workTool_50 rfl (lv_at hl 3 rfl) ?_
      refine gx_getI C hW F3_38 (k := 449) ha1 ta1 rfl dX3_workTool_51 ?_
      refine lv_bipush (v := 21) hx hb dX3_workTool_54 (by decide) ?_
      refine lv_icmp_ne (tgt := 80) hx hb dX3_workTool_56 (by decide) (fun c8 => ?_) (fun c8 => ?_)
      · have hw := w_f hw c8
        refine gx_aload_n hx hb dX3_workTool_80 rfl (lv_at hl 1 rfl) ?_
        obtain ⟨a9, ha9, ta9, hw⟩ := hw
        refine gx_ci (gx_rV C hW M3_173 (mX8_rings l D cy _ _ _ ta9 hw) rfl rfl ⟨Nat.le_of_ble_eq_true rfl, Nat.le_of_ble_eq_true rfl⟩ ha9 ta9 (by decide) rfl rfl hl.1 rfl (gx_room0 (n := 4) (Nat.le_of_ble_eq_true rfl)) dX3_workTool_81 ⟨Nat.le_of_ble_eq_true rfl, Nat.le_of_ble_eq_true rfl⟩) hW (fun r10 S11 H locs hW hm hw => ?_)
        have t0 := hm _ _ t0
        have ta1 := hm _ _ ta1
        have ta9 := hm _ _ ta9
        refine lv_if_eq (tgt := 103) hx hb dX3_workTool_84 (by decide) (fun c12 => ?_) (fun c12 => ?_)
        · have hw := w_t hw c12
          refine lv_bipush (v := 8) hx hb dX3_workTool_103 (by decide) ?_
          exact gx_iret C hW (Nat.le_of_ble_eq_true rfl) (Nat.le_of_ble_eq_true rfl) rfl hw dX3_workTool_105
        · have hw := w_f hw c12
          refine gx_aload_n hx hb dX3_workTool_87 rfl (lv_at hl 2 rfl) ?_
          refine gx_aload_n hx hb dX3_workTool_88 rfl (lv_at hl 3 rfl) ?_
          refine gx_getI C hW F3_66 (k := 452) ha1 ta1 rfl dX3_workTool_89 ?_
          refine gx_aload_n hx hb dX3_workTool_92 rfl (lv_at hl 1 rfl) ?_
          refine lv_lload_n hx hb dX3_workTool_93 rfl (lv_at hl 0 rfl) ?_
          refine gx_cl (gx_rV C hW M3_177 (mX8_ring l D cy _ _ _ _ ta9 hw) rfl rfl ⟨Nat.le_of_ble_eq_true rfl, Nat.le_of_ble_eq_true rfl⟩ ha9 ta9 (by decide) rfl rfl hl.1 rfl (gx_room0 (n := 4) (Nat.le_of_ble_eq_true rfl)) dX3_workTool_94 ⟨Nat.le_of_ble_eq_true rfl, Nat.le_of_ble_eq_true rfl⟩) hW (fun r13 S14 H locs hW hm hw => ?_)
          have t0 := hm _ _ t0
          have ta1 := hm _ _ ta1
          have ta9 := hm _ _ ta9
          refine gx_cv (gx_rV C hW M3_76 (mX3_setNumber l D cy _ _ _ _ _ t0 hw) rfl rfl ⟨Nat.le_of_ble_eq_true rfl, Nat.le_of_ble_eq_true rfl⟩ rfl t0 (by decide) rfl rfl hl.1 rfl (gx_room0 (n := 4) (Nat.le_of_ble_eq_true rfl)) dX3_workTool_97 ⟨Nat.le_of_ble_eq_true rfl, Nat.le_of_ble_eq_true rfl⟩) hW (fun S16 H locs hW hm hw => ?_)
          have t0 := hm _ _ t0
          have ta1 := hm _ _ ta1
          have ta9 := hm _ _ ta9
          refine lv_goto (tgt := 106) hx hb dX3_workTool_100 (by decide) ?_
          refine lv_iconst (v := -1) hx hb dX3_workTool_106 (by decide) ?_
          exact gx_iret C hW (Nat.le_of_ble_eq_true rfl) (Nat.le_of_ble_eq_true rfl) rfl hw dX3_workTool_107
      · have hw := w_t hw c8
        refine gx_aload_n hx hb dX3_workTool_59 rfl (lv_at hl 2 rfl) ?_
        refine gx_aload_n hx hb dX3_workTool_60 rfl (lv_at hl 3 rfl) ?_
        refine gx_getI C hW F3_66 (k := 452) ha1 ta1 rfl dX3_workTool_61 ?_
        refine lv_ldc2 (v := 3) hx hb C.2.2.2.1 (C.2.2.2.2.1 _ (List.mem_of_getElem? (i := 521) (by decide +kernel))) dX3_workTool_64 ?_
        refine lv_lload_n hx hb dX3_workTool_67 rfl (lv_at hl 0 rfl) ?_
        refine lv_lmul hx hb dX3_workTool_68 ?_
        refine gx_aload_n hx hb dX3_workTool_69 rfl (lv_at hl 1 rfl) ?_
        obtain ⟨a17, ha17, ta17, hw⟩ := hw
        refine gx_getL C hW F3_163 (k := 513) ha17 ta17 rfl dX3_workTool_70 ?_
        refine lv_ladd hx hb dX3_workTool_73 ?_
        refine gx_cv (gx_rV C hW M3_76 (mX3_setNumber l D cy _ _ _ _ _ t0 hw) rfl rfl ⟨Nat.le_of_ble_eq_true rfl, Nat.le_of_ble_eq_true rfl⟩ rfl t0 (by decide) rfl rfl hl.1 rfl (gx_room0 (n := 4) (Nat.le_of_ble_eq_true rfl)) dX3_workTool_74 ⟨Nat.le_of_ble_eq_true rfl, Nat.le_of_ble_eq_true rfl⟩) hW (fun S19 H locs hW hm hw => ?_)
        have t0 := hm _ _ t0
        have ta1 := hm _ _ ta1
        have ta17 := hm _ _ ta17
        refine lv_goto (tgt := 106) hx hb dX3_workTool_77 (by decide) ?_
        refine lv_iconst (v := -1) hx hb dX3_workTool_106 (by decide) ?_
        exact gx_iret C hW (Nat.le_of_ble_eq_true rfl) (Nat.le_of_ble_eq_true rfl) rfl hw dX3_workTool_107
    · have hw := w_t hw c7
      refine gx_aload_n hx hb dX3_workTool_34 rfl (lv_at hl 2 rfl) ?_
      refine gx_aload_n hx hb dX3_workTool_35 rfl (lv_at hl 3 rfl) ?_
      refine gx_getI C hW F3_66 (k := 452) ha1 ta1 rfl dX3_workTool_36 ?_
      refine gx_aload_n hx hb dX3_workTool_39 rfl (lv_at hl 1 rfl) ?_
      refine lv_lload_n hx hb dX3_workTool_40 rfl (lv_at hl 0 rfl) ?_
      obtain ⟨a20, ha20, ta20, hw⟩ := hw
      refine gx_cl (gx_rV C hW M3_167 (mX8_use l D cy _ _ _ _ ta20 hw) rfl rfl ⟨Nat.le_of_ble_eq_true rfl, Nat.le_of_ble_eq_true rfl⟩ ha20 ta20 (by decide) rfl rfl hl.1 rfl (gx_room0 (n := 4) (Nat.le_of_ble_eq_true rfl)) dX3_workTool_41 ⟨Nat.le_of_ble_eq_true rfl, Nat.le_of_ble_eq_true rfl⟩) hW (fun r21 S22 H locs hW hm hw => ?_)
      have t0 := hm _ _ t0
      have ta1 := hm _ _ ta1
      have ta20 := hm _ _ ta20
      refine gx_cv (gx_rV C hW M3_76 (mX3_setNumber l D cy _ _ _ _ _ t0 hw) rfl rfl ⟨Nat.le_of_ble_eq_true rfl, Nat.le_of_ble_eq_true rfl⟩ rfl t0 (by decide) rfl rfl hl.1 rfl (gx_room0 (n := 4) (Nat.le_of_ble_eq_true rfl)) dX3_workTool_44 ⟨Nat.le_of_ble_eq_true rfl, Nat.le_of_ble_eq_true rfl⟩) hW (fun S24 H locs hW hm hw => ?_)
      have t0 := hm _ _ t0
      have ta1 := hm _ _ ta1
      have ta20 := hm _ _ ta20
      refine lv_goto (tgt := 106) hx hb dX3_workTool_47 (by decide) ?_
      refine lv_iconst (v := -1) hx hb dX3_workTool_106 (by decide) ?_
      exact gx_iret C hW (Nat.le_of_ble_eq_true rfl) (Nat.le_of_ble_eq_true rfl) rfl hw dX3_workTool_107
  · have hw := w_t hw c4
    refine lv_bipush (v := 6) hx hb dX3_workTool_13 (by decide) ?_
    exact gx_iret C hW (Nat.le_of_ble_eq_true rfl) (Nat.le_of_ble_eq_true rfl) rfl hw dX3_workTool_15
/-! TrialStair$House.workStep -/
def wX3_workStep (x0 : Nat) (x1 : Option Nat) (S0 : Sg) (Q : Int32 → Sg → Prop) : Prop := ∃ a1 : Nat, x1 = some a1 ∧ tg S0 a1 = 8 ∧ (if (6 : Int32) < (fI S0 449 a1) then (if (fI S0 449 a1) = (7 : Int32) then wX3_makeRow x0 x1 S0 (fun (r15 : Int32) (S16 : Sg) => Q r15 S16) else (if (10 : Int32) < (fI S0 449 a1) then (if (13 : Int32) < (fI S0 449 a1) then (if (18 : Int32) < (fI S0 449 a1) then wX3_workTool x0 x1 S0 (fun (r7 : Int32) (S8 : Sg) => Q r7 S8) else wX3_workHand x0 x1 S0 (fun (r9 : Int32) (S10 : Sg) => Q r9 S10)) else wX3_workGrid x0 x1 S0 (fun (r11 : Int32) (S12 : Sg) => Q r11 S12)) else wX3_workRow x0 x1 S0 (fun (r13 : Int32) (S14 : Sg) => Q r13 S14))) else wX3_reckon x0 x1 S0 (fun (r17 : Int32) (S18 : Sg) => Q r17 S18))
set_option maxHeartbeats 4000000 in
set_option maxRecDepth 100000 in
theorem mX3_workStep (l : Launch) (D : va_G) (cy : Nat → ClassId) (x0 : Nat) (x1 : Option Nat) (S0 : Sg) (Q : Int32 → Sg → Prop) (t0 : tg S0 x0 = 4) (hw : wX3_workStep x0 x1 S0 Q) : Met l yX3_workStep (.code yX3_workStep cX3_workStep 2 (some .int) :: wsL_law) { frames := 4, cells := 3, slots := 68, locals := 87 } (gPc D cy [va_rf (some x0), va_rf x1] S0) (va_Qi Q (gB D cy S0) (gA S0)) 3 68 (gA S0) := by
  refine gx_met (by decide) (by simp [lg_sl, va_rf_cat, cat_i, cat_l]) ?_
  intro p e s m args below meth c ls C hW hl
  have hx := C.1
  have hb := C.2.1
  have hl : lv_has ls 2 [(0, va_rf (some x0)), (1, va_rf x1)] := by simpa [lv_args, va_rf_cat, cat_i, cat_l] using hl
  unfold wX3_workStep at hw
  refine gx_aload_n hx hb dX3_workStep_0 rfl (lv_at hl 1 rfl) ?_
  obtain ⟨a1, ha1, ta1, hw⟩ := hw
  refine gx_getI C hW F3_38 (k := 449) ha1 ta1 rfl dX3_workStep_1 ?_
  refine lv_bipush (v := 6) hx hb dX3_workStep_4 (by decide) ?_
  refine lv_icmp_gt (tgt := 15) hx hb dX3_workStep_6 (by decide) (fun c2 => ?_) (fun c2 => ?_)
  · have hw := w_t hw c2
    refine gx_aload_n hx hb dX3_workStep_15 rfl (lv_at hl 1 rfl) ?_
    refine gx_getI C hW F3_38 (k := 449) ha1 ta1 rfl dX3_workStep_16 ?_
    refine lv_bipush (v := 7) hx hb dX3_workStep_19 (by decide) ?_
    refine lv_icmp_ne (tgt := 30) hx hb dX3_workStep_21 (by decide) (fun c3 => ?_) (fun c3 => ?_)
    · have hw := w_f hw c3
      refine gx_aload_n hx hb dX3_workStep_30 rfl (lv_at hl 1 rfl) ?_
      refine gx_getI C hW F3_38 (k := 449) ha1 ta1 rfl dX3_workStep_31 ?_
      refine lv_bipush (v := 10) hx hb dX3_workStep_34 (by decide) ?_
      refine lv_icmp_gt (tgt := 45) hx hb dX3_workStep_36 (by decide) (fun c4 => ?_) (fun c4 => ?_)
      · have hw := w_t hw c4
        refine gx_aload_n hx hb dX3_workStep_45 rfl (lv_at hl 1 rfl) ?_
        refine gx_getI C hW F3_38 (k := 449) ha1 ta1 rfl dX3_workStep_46 ?_
        refine lv_bipush (v := 13) hx hb dX3_workStep_49 (by decide) ?_
        refine lv_icmp_gt (tgt := 60) hx hb dX3_workStep_51 (by decide) (fun c5 => ?_) (fun c5 => ?_)
        · have hw := w_t hw c5
          refine gx_aload_n hx hb dX3_workStep_60 rfl (lv_at hl 1 rfl) ?_
          refine gx_getI C hW F3_38 (k := 449) ha1 ta1 rfl dX3_workStep_61 ?_
          refine lv_bipush (v := 18) hx hb dX3_workStep_64 (by decide) ?_
          refine lv_icmp_gt (tgt := 75) hx hb dX3_workStep_66 (by decide) (fun c6 => ?_) (fun c6 => ?_)
          · have hw := w_t hw c6
            refine gx_aload_n hx hb dX3_workStep_75 rfl (lv_at hl 0 rfl) ?_
            refine gx_aload_n hx hb dX3_workStep_76 rfl (lv_at hl 1 rfl) ?_
            refine gx_ci (gx_rV C hW M3_60 (mX3_workTool l D cy _ _ _ _ t0 hw) rfl rfl ⟨Nat.le_of_ble_eq_true rfl, Nat.le_of_ble_eq_true rfl⟩ rfl t0 (by decide) rfl rfl hl.1 rfl (gx_room0 (n := 4) (Nat.le_of_ble_eq_true rfl)) dX3_workStep_77 ⟨Nat.le_of_ble_eq_true rfl, Nat.le_of_ble_eq_true rfl⟩) hW (fun r7 S8 H locs hW hm hw => ?_)
            have t0 := hm _ _ t0
            have ta1 := hm _ _ ta1
            exact gx_iret C hW (Nat.le_of_ble_eq_true rfl) (Nat.le_of_ble_eq_true rfl) rfl hw dX3_workStep_80
          · have hw := w_f hw c6
            refine gx_aload_n hx hb dX3_workStep_69 rfl (lv_at hl 0 rfl) ?_
            refine gx_aload_n hx hb dX3_workStep_70 rfl (lv_at hl 1 rfl) ?_
            refine gx_ci (gx_rV C hW M3_57 (mX3_workHand l D cy _ _ _ _ t0 hw) rfl rfl ⟨Nat.le_of_ble_eq_true rfl, Nat.le_of_ble_eq_true rfl⟩ rfl t0 (by decide) rfl rfl hl.1 rfl (gx_room0 (n := 4) (Nat.le_of_ble_eq_true rfl)) dX3_workStep_71 ⟨Nat.le_of_ble_eq_true rfl, Nat.le_of_ble_eq_true rfl⟩) hW (fun r9 S10 H locs hW hm hw => ?_)
            have t0 := hm _ _ t0
            have ta1 := hm _ _ ta1
            exact gx_iret C hW (Nat.le_of_ble_eq_true rfl) (Nat.le_of_ble_eq_true rfl) rfl hw dX3_workStep_74
        · have hw := w_f hw c5
          refine gx_aload_n hx hb dX3_workStep_54 rfl (lv_at hl 0 rfl) ?_
          refine gx_aload_n hx hb dX3_workStep_55 rfl (lv_at hl 1 rfl) ?_
          refine gx_ci (gx_rV C hW M3_54 (mX3_workGrid l D cy _ _ _ _ t0 hw) rfl rfl ⟨Nat.le_of_ble_eq_true rfl, Nat.le_of_ble_eq_true rfl⟩ rfl t0 (by decide) rfl rfl hl.1 rfl (gx_room0 (n := 4) (Nat.le_of_ble_eq_true rfl)) dX3_workStep_56 ⟨Nat.le_of_ble_eq_true rfl, Nat.le_of_ble_eq_true rfl⟩) hW (fun r11 S12 H locs hW hm hw => ?_)
          have t0 := hm _ _ t0
          have ta1 := hm _ _ ta1
          exact gx_iret C hW (Nat.le_of_ble_eq_true rfl) (Nat.le_of_ble_eq_true rfl) rfl hw dX3_workStep_59
      · have hw := w_f hw c4
        refine gx_aload_n hx hb dX3_workStep_39 rfl (lv_at hl 0 rfl) ?_
        refine gx_aload_n hx hb dX3_workStep_40 rfl (lv_at hl 1 rfl) ?_
        refine gx_ci (gx_rV C hW M3_51 (mX3_workRow l D cy _ _ _ _ t0 hw) rfl rfl ⟨Nat.le_of_ble_eq_true rfl, Nat.le_of_ble_eq_true rfl⟩ rfl t0 (by decide) rfl rfl hl.1 rfl (gx_room0 (n := 4) (Nat.le_of_ble_eq_true rfl)) dX3_workStep_41 ⟨Nat.le_of_ble_eq_true rfl, Nat.le_of_ble_eq_true rfl⟩) hW (fun r13 S14 H locs hW hm hw => ?_)
        have t0 := hm _ _ t0
        have ta1 := hm _ _ ta1
        exact gx_iret C hW (Nat.le_of_ble_eq_true rfl) (Nat.le_of_ble_eq_true rfl) rfl hw dX3_workStep_44
    · have hw := w_t hw c3
      refine gx_aload_n hx hb dX3_workStep_24 rfl (lv_at hl 0 rfl) ?_
      refine gx_aload_n hx hb dX3_workStep_25 rfl (lv_at hl 1 rfl) ?_
      refine gx_ci (gx_rV C hW M3_48 (mX3_makeRow l D cy _ _ _ _ t0 hw) rfl rfl ⟨Nat.le_of_ble_eq_true rfl, Nat.le_of_ble_eq_true rfl⟩ rfl t0 (by decide) rfl rfl hl.1 rfl (gx_room0 (n := 4) (Nat.le_of_ble_eq_true rfl)) dX3_workStep_26 ⟨Nat.le_of_ble_eq_true rfl, Nat.le_of_ble_eq_true rfl⟩) hW (fun r15 S16 H locs hW hm hw => ?_)
      have t0 := hm _ _ t0
      have ta1 := hm _ _ ta1
      exact gx_iret C hW (Nat.le_of_ble_eq_true rfl) (Nat.le_of_ble_eq_true rfl) rfl hw dX3_workStep_29
  · have hw := w_f hw c2
    refine gx_aload_n hx hb dX3_workStep_9 rfl (lv_at hl 0 rfl) ?_
    refine gx_aload_n hx hb dX3_workStep_10 rfl (lv_at hl 1 rfl) ?_
    refine gx_ci (gx_rV C hW M3_44 (mX3_reckon l D cy _ _ _ _ t0 hw) rfl rfl ⟨Nat.le_of_ble_eq_true rfl, Nat.le_of_ble_eq_true rfl⟩ rfl t0 (by decide) rfl rfl hl.1 rfl (gx_room0 (n := 4) (Nat.le_of_ble_eq_true rfl)) dX3_workStep_11 ⟨Nat.le_of_ble_eq_true rfl, Nat.le_of_ble_eq_true rfl⟩) hW (fun r17 S18 H locs hW hm hw => ?_)
    have t0 := hm _ _ t0
    have ta1 := hm _ _ ta1
    exact gx_iret C hW (Nat.le_of_ble_eq_true rfl) (Nat.le_of_ble_eq_true rfl) rfl hw dX3_workStep_14
