def wp_J6_bitCount_0f7a4  (a0 : Int32) (post : Int32 → Prop) : Prop :=
  ∀ y_1 : Int32, y_1 = (((a0 - ((((a0).toUInt32 >>> (((1 : Int32)).toUInt32 &&& Int32.toUInt32 31)).toInt32) &&& (1431655765 : Int32))) &&& (858993459 : Int32)) + (((((a0 - ((((a0).toUInt32 >>> (((1 : Int32)).toUInt32 &&& Int32.toUInt32 31)).toInt32) &&& (1431655765 : Int32)))).toUInt32 >>> (((2 : Int32)).toUInt32 &&& Int32.toUInt32 31)).toInt32) &&& (858993459 : Int32))) → ∀ y_2 : Int32, y_2 = (((y_1 + (((y_1).toUInt32 >>> (((4 : Int32)).toUInt32 &&& Int32.toUInt32 31)).toInt32)) &&& (252645135 : Int32)) + (((((y_1 + (((y_1).toUInt32 >>> (((4 : Int32)).toUInt32 &&& Int32.toUInt32 31)).toInt32)) &&& (252645135 : Int32))).toUInt32 >>> (((8 : Int32)).toUInt32 &&& Int32.toUInt32 31)).toInt32)) → post ((y_2 + (((y_2).toUInt32 >>> (((16 : Int32)).toUInt32 &&& Int32.toUInt32 31)).toInt32)) &&& (63 : Int32)) 
set_option maxHeartbeats 4000000 in
set_option maxRecDepth 100000 in
theorem c_J6_bitCount_0f7a4 (l : Launch) (D : va_G) (ci cz : ClassId) (tr : List (ClassId × FieldType)) (sz : Nat)  (a0 : Int32) (post : Int32 → Prop) (hw : wp_J6_bitCount_0f7a4 a0 post) : gM l yJ6_bitCount_0f7a4 cJ6_bitCount_0f7a4 1 (some .int) 0 0 D ci cz tr [] sz [.int a0] (gQi D [] sz (fun (r : Int32) w => w = [] ∧ post r )) := by
  refine gmet_i RJ6 (by decide +kernel) rfl (Nat.le_of_ble_eq_true rfl) ?_
  intro p e s m args below meth c A R Q C hfr hlc hP hD hret ls hl
  obtain ⟨hx, hb, hml, hown, ht, hK, hZ, hA⟩ := C
  have hl : lv_has ls 1 [(0, .int a0)] := hl
  unfold wp_J6_bitCount_0f7a4 at hw
  refine g_in (fun H locs => W p l e R s m args below meth c H locs 0 0 Q (F0 m 0 ls [])) (fun H locs hS0 hP => ?_) hP (va_S.rf (A := A) (H0 := s.heap))
  have hS : va_S A s.heap H locs := hS0
  clear hS0
  refine lv_iload_n hx hb dJ6_bitCount_0f7a4_0 rfl (lv_at hl 0 rfl) ?_
  refine lv_iload_n hx hb dJ6_bitCount_0f7a4_1 rfl (lv_at hl 0 rfl) ?_
  refine lv_iconst (v := (1 : Int32)) hx hb dJ6_bitCount_0f7a4_2 (by decide) ?_
  refine lv_iushr hx hb dJ6_bitCount_0f7a4_3 rfl ?_
  refine lv_ldcw hx hb hown (ht _ mD_J6_265) dJ6_bitCount_0f7a4_4 ?_
  refine lv_iand hx hb dJ6_bitCount_0f7a4_7 ?_
  refine lv_isub hx hb dJ6_bitCount_0f7a4_8 ?_
  refine lv_istore_n (lv' := [(0, .int (a0 - ((((a0).toUInt32 >>> (((1 : Int32)).toUInt32 &&& Int32.toUInt32 31)).toInt32) &&& (1431655765 : Int32))))]) hx hb dJ6_bitCount_0f7a4_9 rfl hl (by decide) rfl (fun ls hl => ?_)
  refine lv_iload_n hx hb dJ6_bitCount_0f7a4_10 rfl (lv_at hl 0 rfl) ?_
  refine lv_ldcw hx hb hown (ht _ mD_J6_266) dJ6_bitCount_0f7a4_11 ?_
  refine lv_iand hx hb dJ6_bitCount_0f7a4_14 ?_
  refine lv_iload_n hx hb dJ6_bitCount_0f7a4_15 rfl (lv_at hl 0 rfl) ?_
  refine lv_iconst (v := (2 : Int32)) hx hb dJ6_bitCount_0f7a4_16 (by decide) ?_
  refine lv_iushr hx hb dJ6_bitCount_0f7a4_17 rfl ?_
  refine lv_ldcw hx hb hown (ht _ mD_J6_266) dJ6_bitCount_0f7a4_18 ?_
  refine lv_iand hx hb dJ6_bitCount_0f7a4_21 ?_
  refine lv_iadd hx hb dJ6_bitCount_0f7a4_22 ?_
  refine lv_topi (fun y_1 ey_1 => ?_)
  have hw := hw y_1 ey_1
  refine lv_istore_n (lv' := [(0, .int y_1)]) hx hb dJ6_bitCount_0f7a4_23 rfl hl (by decide) rfl (fun ls hl => ?_)
  refine lv_iload_n hx hb dJ6_bitCount_0f7a4_24 rfl (lv_at hl 0 rfl) ?_
  refine lv_iload_n hx hb dJ6_bitCount_0f7a4_25 rfl (lv_at hl 0 rfl) ?_
  refine lv_iconst (v := (4 : Int32)) hx hb dJ6_bitCount_0f7a4_26 (by decide) ?_
  refine lv_iushr hx hb dJ6_bitCount_0f7a4_27 rfl ?_
  refine lv_iadd hx hb dJ6_bitCount_0f7a4_28 ?_
  refine lv_ldcw hx hb hown (ht _ mD_J6_267) dJ6_bitCount_0f7a4_29 ?_
  refine lv_iand hx hb dJ6_bitCount_0f7a4_32 ?_
  refine lv_istore_n (lv' := [(0, .int ((y_1 + (((y_1).toUInt32 >>> (((4 : Int32)).toUInt32 &&& Int32.toUInt32 31)).toInt32)) &&& (252645135 : Int32)))]) hx hb dJ6_bitCount_0f7a4_33 rfl hl (by decide) rfl (fun ls hl => ?_)
  refine lv_iload_n hx hb dJ6_bitCount_0f7a4_34 rfl (lv_at hl 0 rfl) ?_
  refine lv_iload_n hx hb dJ6_bitCount_0f7a4_35 rfl (lv_at hl 0 rfl) ?_
  refine lv_bipush (v := (8 : Int32)) hx hb dJ6_bitCount_0f7a4_36 (by decide) ?_
  refine lv_iushr hx hb dJ6_bitCount_0f7a4_38 rfl ?_
  refine lv_iadd hx hb dJ6_bitCount_0f7a4_39 ?_
  refine lv_topi (fun y_2 ey_2 => ?_)
  have hw := hw y_2 ey_2
  refine lv_istore_n (lv' := [(0, .int y_2)]) hx hb dJ6_bitCount_0f7a4_40 rfl hl (by decide) rfl (fun ls hl => ?_)
  refine lv_iload_n hx hb dJ6_bitCount_0f7a4_41 rfl (lv_at hl 0 rfl) ?_
  refine lv_iload_n hx hb dJ6_bitCount_0f7a4_42 rfl (lv_at hl 0 rfl) ?_
  refine lv_bipush (v := (16 : Int32)) hx hb dJ6_bitCount_0f7a4_43 (by decide) ?_
  refine lv_iushr hx hb dJ6_bitCount_0f7a4_45 rfl ?_
  refine lv_iadd hx hb dJ6_bitCount_0f7a4_46 ?_
  refine lv_istore_n (lv' := [(0, .int (y_2 + (((y_2).toUInt32 >>> (((16 : Int32)).toUInt32 &&& Int32.toUInt32 31)).toInt32)))]) hx hb dJ6_bitCount_0f7a4_47 rfl hl (by decide) rfl (fun ls hl => ?_)
  refine lv_iload_n hx hb dJ6_bitCount_0f7a4_48 rfl (lv_at hl 0 rfl) ?_
  refine lv_bipush (v := (63 : Int32)) hx hb dJ6_bitCount_0f7a4_49 (by decide) ?_
  refine lv_iand hx hb dJ6_bitCount_0f7a4_51 ?_
  exact hret _ _ H locs _ _ ⟨rfl, hw⟩ hP hS dJ6_bitCount_0f7a4_52

def wp_X0_open (zleft : Int32) (zright : Int32) (zleftDogs : Int32) (zrightDogs : Int32)  (post : Int32 → Int32 → Int32 → Int32 → Prop) : Prop :=
  post (0 : Int32) (0 : Int32) (0 : Int32) (0 : Int32)
set_option maxHeartbeats 4000000 in
set_option maxRecDepth 100000 in
theorem c_X0_open (l : Launch) (D : va_G) (ci cz : ClassId) (tr : List (ClassId × FieldType)) (q0 : Nat) (sz : Nat) (zleft : Int32) (zright : Int32) (zleftDogs : Int32) (zrightDogs : Int32)  (post : Int32 → Int32 → Int32 → Int32 → Prop) (hw : wp_X0_open zleft zright zleftDogs zrightDogs post) : gM l yX0_open cX0_open 1 none 0 0 D ci cz tr [(q0, .inr (0, [.int zleft, .int zright, .int zleftDogs, .int zrightDogs]))] sz [.ref q0] (gQv D [(q0, .inr (0, [.int zleft, .int zright, .int zleftDogs, .int zrightDogs]))] sz (fun w => ∃ (o_zleft : Int32) (o_zright : Int32) (o_zleftDogs : Int32) (o_zrightDogs : Int32), w = [(q0, .inr (0, [.int o_zleft, .int o_zright, .int o_zleftDogs, .int o_zrightDogs]))] ∧ post o_zleft o_zright o_zleftDogs o_zrightDogs)) := by
  refine gmet_v RX0 (by decide +kernel) rfl (Nat.le_of_ble_eq_true rfl) ?_
  intro p e s m args below meth c A R Q C hfr hlc hP hD hret ls hl
  obtain ⟨hx, hb, hml, hown, ht, hK, hZ, hA⟩ := C
  have hl : lv_has ls 1 [(0, .ref q0)] := hl
  unfold wp_X0_open at hw
  refine g_in (fun H locs => W p l e R s m args below meth c H locs 0 0 Q (F0 m 0 ls [])) (fun H locs hS0 hP => ?_) hP (va_S.rf (A := A) (H0 := s.heap))
  have hS : va_S A s.heap H locs := hS0
  clear hS0
  refine lv_aload_n hx hb dX0_open_0 rfl (lv_at hl 0 rfl) ?_
  refine lv_iconst (v := (0 : Int32)) hx hb dX0_open_1 (by decide) ?_
  refine va_put (D := D) (ci := 0) (v := .int (0 : Int32)) (ty := .int) (C := RX0) (T := TX0) (N := 4) hx hb ht in_X0 tyX0 tyX0_ok nmX0 hown hK.1 hP hD hS 0 rfl rfl 0 (by decide) (ht _ mF_X0_9) (fun _ h9 => h9) rfl (by decide +kernel) rfl rfl (Nat.le_of_ble_eq_true rfl) dX0_open_2 (fun H locs hP hD hS => ?_)
  have hP : va_P D vwCl [(q0, .inr (0, [.int (0 : Int32), .int zright, .int zleftDogs, .int zrightDogs]))] H := hP
  have hD : va_D A [(q0, .inr (0, [.int (0 : Int32), .int zright, .int zleftDogs, .int zrightDogs]))] := hD
  refine lv_aload_n hx hb dX0_open_5 rfl (lv_at hl 0 rfl) ?_
  refine lv_iconst (v := (0 : Int32)) hx hb dX0_open_6 (by decide) ?_
  refine va_put (D := D) (ci := 0) (v := .int (0 : Int32)) (ty := .int) (C := RX0) (T := TX0) (N := 4) hx hb ht in_X0 tyX0 tyX0_ok nmX0 hown hK.1 hP hD hS 0 rfl rfl 1 (by decide) (ht _ mF_X0_15) (fun _ h9 => h9) rfl (by decide +kernel) rfl rfl (Nat.le_of_ble_eq_true rfl) dX0_open_7 (fun H locs hP hD hS => ?_)
  have hP : va_P D vwCl [(q0, .inr (0, [.int (0 : Int32), .int (0 : Int32), .int zleftDogs, .int zrightDogs]))] H := hP
  have hD : va_D A [(q0, .inr (0, [.int (0 : Int32), .int (0 : Int32), .int zleftDogs, .int zrightDogs]))] := hD
  refine lv_aload_n hx hb dX0_open_10 rfl (lv_at hl 0 rfl) ?_
  refine lv_iconst (v := (0 : Int32)) hx hb dX0_open_11 (by decide) ?_
  refine va_put (D := D) (ci := 0) (v := .int (0 : Int32)) (ty := .int) (C := RX0) (T := TX0) (N := 4) hx hb ht in_X0 tyX0 tyX0_ok nmX0 hown hK.1 hP hD hS 0 rfl rfl 2 (by decide) (ht _ mF_X0_18) (fun _ h9 => h9) rfl (by decide +kernel) rfl rfl (Nat.le_of_ble_eq_true rfl) dX0_open_12 (fun H locs hP hD hS => ?_)
  have hP : va_P D vwCl [(q0, .inr (0, [.int (0 : Int32), .int (0 : Int32), .int (0 : Int32), .int zrightDogs]))] H := hP
  have hD : va_D A [(q0, .inr (0, [.int (0 : Int32), .int (0 : Int32), .int (0 : Int32), .int zrightDogs]))] := hD
  refine lv_aload_n hx hb dX0_open_15 rfl (lv_at hl 0 rfl) ?_
  refine lv_iconst (v := (0 : Int32)) hx hb dX0_open_16 (by decide) ?_
  refine va_put (D := D) (ci := 0) (v := .int (0 : Int32)) (ty := .int) (C := RX0) (T := TX0) (N := 4) hx hb ht in_X0 tyX0 tyX0_ok nmX0 hown hK.1 hP hD hS 0 rfl rfl 3 (by decide) (ht _ mF_X0_21) (fun _ h9 => h9) rfl (by decide +kernel) rfl rfl (Nat.le_of_ble_eq_true rfl) dX0_open_17 (fun H locs hP hD hS => ?_)
  have hP : va_P D vwCl [(q0, .inr (0, [.int (0 : Int32), .int (0 : Int32), .int (0 : Int32), .int (0 : Int32)]))] H := hP
  have hD : va_D A [(q0, .inr (0, [.int (0 : Int32), .int (0 : Int32), .int (0 : Int32), .int (0 : Int32)]))] := hD
  exact hret _ H locs _ _ ⟨_, _, _, _, rfl, hw⟩ hP hS dX0_open_20

def wp_X9_has (zdogs : Int32) (a1 : Int32) (post : Int32 → Prop) : Prop :=
  ((a1 < 0 → post (0 : Int32) ) ∧ (¬ a1 < 0 → ((zdogs ≤ a1 → post (0 : Int32) ) ∧ (¬ zdogs ≤ a1 → post (1 : Int32) ))))
set_option maxHeartbeats 4000000 in
set_option maxRecDepth 100000 in
theorem c_X9_has (l : Launch) (D : va_G) (ci cz : ClassId) (tr : List (ClassId × FieldType)) (q0 : Nat) (sz : Nat) (u0 u1 u2 u3 u4 : Value) (zdogs : Int32) (a1 : Int32) (post : Int32 → Prop) (hw : wp_X9_has zdogs a1 post) : gM l yX9_has cX9_has 2 (some .boolean) 0 0 D ci cz tr [(q0, .inr (8, [.int zdogs, u0, u1, u2, u3, u4]))] sz [.ref q0, .int a1] (gQi D [(q0, .inr (8, [.int zdogs, u0, u1, u2, u3, u4]))] sz (fun (r : Int32) w => w = [(q0, .inr (8, [.int zdogs, u0, u1, u2, u3, u4]))] ∧ post r )) := by
  refine gmet_z RX9 (by decide +kernel) rfl (Nat.le_of_ble_eq_true rfl) ?_
  intro p e s m args below meth c A R Q C hfr hlc hP hD hret ls hl
  obtain ⟨hx, hb, hml, hown, ht, hK, hZ, hA⟩ := C
  have hl : lv_has ls 2 [(0, .ref q0), (1, .int a1)] := hl
  unfold wp_X9_has at hw
  refine g_in (fun H locs => W p l e R s m args below meth c H locs 0 0 Q (F0 m 0 ls [])) (fun H locs hS0 hP => ?_) hP (va_S.rf (A := A) (H0 := s.heap))
  have hS : va_S A s.heap H locs := hS0
  clear hS0
  refine lv_iload_n hx hb dX9_has_0 rfl (lv_at hl 1 rfl) ?_
  refine lv_if_lt (tgt := 16) hx hb dX9_has_1 (by decide) (fun hc => ?_) (fun hc => ?_)
  · have hw := hw.1 hc
    refine lv_iconst (v := (0 : Int32)) hx hb dX9_has_16 (by decide) ?_
    exact hret _ _ H locs _ _ (by decide) ⟨rfl, hw⟩ hP hS dX9_has_17
  · have hw := hw.2 hc
    refine lv_iload_n hx hb dX9_has_4 rfl (lv_at hl 1 rfl) ?_
    refine lv_aload_n hx hb dX9_has_5 rfl (lv_at hl 0 rfl) ?_
    refine va_get (D := D) (ci := 8) (v := .int zdogs) (C := RX9) (T := TX9) (N := 6) hx hb ht in_X9 hown hK.1 hP 0 rfl rfl 0 (by decide) (ht _ mF_X9_24) (fun _ h9 => h9) rfl dX9_has_6 ?_
    refine lv_icmp_ge (tgt := 16) hx hb dX9_has_9 (by decide) (fun hc => ?_) (fun hc => ?_)
    · have hw := hw.1 hc
      refine lv_iconst (v := (0 : Int32)) hx hb dX9_has_16 (by decide) ?_
      exact hret _ _ H locs _ _ (by decide) ⟨rfl, hw⟩ hP hS dX9_has_17
    · have hw := hw.2 hc
      refine lv_iconst (v := (1 : Int32)) hx hb dX9_has_12 (by decide) ?_
      refine lv_goto (tgt := 17) hx hb dX9_has_13 (by decide) ?_
      exact hret _ _ H locs _ _ (by decide) ⟨rfl, hw⟩ hP hS dX9_has_17

def wp_X9_isDead (zhalves : Nat → Int32) (a1 : Int32) (post : Int32 → Prop) : Prop :=
  (vp_in a1 7 ∧ ((¬ (zhalves (a1).toNatClampNeg) = 0 → post (0 : Int32) ) ∧ ((zhalves (a1).toNatClampNeg) = 0 → post (1 : Int32) )))
set_option maxHeartbeats 4000000 in
set_option maxRecDepth 100000 in
theorem c_X9_isDead (l : Launch) (D : va_G) (ci cz : ClassId) (tr : List (ClassId × FieldType)) (q0 q1 : Nat) (sz : Nat) (u0 u1 u2 u3 u4 : Value) (zhalves : Nat → Int32) (a1 : Int32) (post : Int32 → Prop) (hw : wp_X9_isDead zhalves a1 post) : gM l yX9_isDead cX9_isDead 2 (some .boolean) 0 0 D ci cz tr [(q0, .inr (8, [u0, u1, .ref q1, u2, u3, u4])), (q1, .inl (ci, 7, .inl zhalves))] sz [.ref q0, .int a1] (gQi D [(q0, .inr (8, [u0, u1, .ref q1, u2, u3, u4])), (q1, .inl (ci, 7, .inl zhalves))] sz (fun (r : Int32) w => w = [(q0, .inr (8, [u0, u1, .ref q1, u2, u3, u4])), (q1, .inl (ci, 7, .inl zhalves))] ∧ post r )) := by
  refine gmet_z RX9 (by decide +kernel) rfl (Nat.le_of_ble_eq_true rfl) ?_
  intro p e s m args below meth c A R Q C hfr hlc hP hD hret ls hl
  obtain ⟨hx, hb, hml, hown, ht, hK, hZ, hA⟩ := C
  have hl : lv_has ls 2 [(0, .ref q0), (1, .int a1)] := hl
  unfold wp_X9_isDead at hw
  refine g_in (fun H locs => W p l e R s m args below meth c H locs 0 0 Q (F0 m 0 ls [])) (fun H locs hS0 hP => ?_) hP (va_S.rf (A := A) (H0 := s.heap))
  have hS : va_S A s.heap H locs := hS0
  clear hS0
  refine lv_aload_n hx hb dX9_isDead_0 rfl (lv_at hl 0 rfl) ?_
  refine va_get (D := D) (ci := 8) (v := .ref q1) (C := RX9) (T := TX9) (N := 6) hx hb ht in_X9 hown hK.1 hP 0 rfl rfl 2 (by decide) (ht _ mF_X9_9) (fun _ h9 => h9) rfl dX9_isDead_1 ?_
  refine lv_iload_n hx hb dX9_isDead_4 rfl (lv_at hl 1 rfl) ?_
  obtain ⟨hin, hw⟩ := hw
  refine va_iald (D := D) hx hb hK.1 hP 1 0 rfl rfl hin dX9_isDead_5 ?_
  refine lv_if_ne (tgt := 13) hx hb dX9_isDead_6 (by decide) (fun hc => ?_) (fun hc => ?_)
  · have hw := hw.1 hc
    refine lv_iconst (v := (0 : Int32)) hx hb dX9_isDead_13 (by decide) ?_
    exact hret _ _ H locs _ _ (by decide) ⟨rfl, hw⟩ hP hS dX9_isDead_14
  · have hw := hw.2 hc
    refine lv_iconst (v := (1 : Int32)) hx hb dX9_isDead_9 (by decide) ?_
    refine lv_goto (tgt := 14) hx hb dX9_isDead_10 (by decide) ?_
    exact hret _ _ H locs _ _ (by decide) ⟨rfl, hw⟩ hP hS dX9_isDead_14

def wp_X0_send (zleft : Int32) (zright : Int32) (zleftDogs : Int32) (zrightDogs : Int32) (zp1_dogs : Int32) (zp1_halves : Nat → Int32) (zp1_likings : Nat → Int32) (zp1_fears : Nat → Int32) (a2 : Int32) (a3 : Int32) (post : Int32 → Int32 → Int32 → Int32 → Prop) : Prop :=
  wp_X9_has zp1_dogs a2 (fun (r_1 : Int32) => ((r_1 = 0 → post zleft zright zleftDogs zrightDogs) ∧ (¬ r_1 = 0 → wp_X9_isDead zp1_halves a2 (fun (r_2 : Int32) => ((r_2 = 0 → (vp_in a2 7 ∧ jn (fun (t_3 : Int32) => (vp_in a2 7 ∧ jn (fun (t_4 : Int32) => (vp_in a2 7 ∧ jn (fun (t_5 : Int32) => jn ( ((¬ t_5 = 0 → post zleft zright zleftDogs zrightDogs) ∧ (t_5 = 0 → (vp_in a2 7 ∧ post zleft (zright + (zp1_halves (a2).toNatClampNeg)) zleftDogs (zrightDogs ||| ((1 : Int32) <<< (a2 &&& 31))))))) (fun (J142 : Prop) => ((¬ t_4 = 0 → J142) ∧ (t_4 = 0 → jn ( (vp_in a2 7 ∧ post (zleft + (zp1_halves (a2).toNatClampNeg)) zright (zleftDogs ||| ((1 : Int32) <<< (a2 &&& 31))) zrightDogs)) (fun (J112 : Prop) => ((¬ t_3 = 0 → J112) ∧ (t_3 = 0 → ((t_5 = 0 → J142) ∧ (¬ t_5 = 0 → J112))))))))) (fun (J95 : Int32 → Prop) => ((((zp1_fears (a2).toNatClampNeg) &&& zrightDogs) = 0 → J95 (0 : Int32)) ∧ (¬ ((zp1_fears (a2).toNatClampNeg) &&& zrightDogs) = 0 → J95 (1 : Int32)))))) (fun (J74 : Int32 → Prop) => ((((zp1_fears (a2).toNatClampNeg) &&& zleftDogs) = 0 → J74 (0 : Int32)) ∧ (¬ ((zp1_fears (a2).toNatClampNeg) &&& zleftDogs) = 0 → J74 (1 : Int32)))))) (fun (J53 : Int32 → Prop) => jn ( J53 (1 : Int32)) (fun (J48 : Prop) => ((0 < ((zp1_likings (a2).toNatClampNeg) + a3) → J48) ∧ (¬ 0 < ((zp1_likings (a2).toNatClampNeg) + a3) → jn ( J53 (0 : Int32)) (fun (J52 : Prop) => ((¬ ((zp1_likings (a2).toNatClampNeg) + a3) = 0 → J52) ∧ (((zp1_likings (a2).toNatClampNeg) + a3) = 0 → ((zleft < zright → J52) ∧ (¬ zleft < zright → J48))))))))))) ∧ (¬ r_2 = 0 → post zleft zright zleftDogs zrightDogs))))))
set_option maxHeartbeats 4000000 in
set_option maxRecDepth 100000 in
theorem c_X0_send (l : Launch) (D : va_G) (ci cz : ClassId) (tr : List (ClassId × FieldType)) (q0 q1 q2 q3 q4 : Nat) (sz : Nat) (u0 u1 : Value) (zleft : Int32) (zright : Int32) (zleftDogs : Int32) (zrightDogs : Int32) (zp1_dogs : Int32) (zp1_halves : Nat → Int32) (zp1_likings : Nat → Int32) (zp1_fears : Nat → Int32) (a2 : Int32) (a3 : Int32) (post : Int32 → Int32 → Int32 → Int32 → Prop) (hw : wp_X0_send zleft zright zleftDogs zrightDogs zp1_dogs zp1_halves zp1_likings zp1_fears a2 a3 post) : gM l yX0_send cX0_send 8 none 1 21 D ci cz tr [(q0, .inr (0, [.int zleft, .int zright, .int zleftDogs, .int zrightDogs])), (q1, .inr (8, [.int zp1_dogs, u0, .ref q2, .ref q3, .ref q4, u1])), (q2, .inl (ci, 7, .inl zp1_halves)), (q3, .inl (ci, 7, .inl zp1_likings)), (q4, .inl (ci, 7, .inl zp1_fears))] sz [.ref q0, .ref q1, .int a2, .int a3] (gQv D [(q0, .inr (0, [.int zleft, .int zright, .int zleftDogs, .int zrightDogs])), (q1, .inr (8, [.int zp1_dogs, u0, .ref q2, .ref q3, .ref q4, u1])), (q2, .inl (ci, 7, .inl zp1_halves)), (q3, .inl (ci, 7, .inl zp1_likings)), (q4, .inl (ci, 7, .inl zp1_fears))] sz (fun w => ∃ (o_zleft : Int32) (o_zright : Int32) (o_zleftDogs : Int32) (o_zrightDogs : Int32), w = [(q0, .inr (0, [.int o_zleft, .int o_zright, .int o_zleftDogs, .int o_zrightDogs])), (q1, .inr (8, [.int zp1_dogs, u0, .ref q2, .ref q3, .ref q4, u1])), (q2, .inl (ci, 7, .inl zp1_halves)), (q3, .inl (ci, 7, .inl zp1_likings)), (q4, .inl (ci, 7, .inl zp1_fears))] ∧ post o_zleft o_zright o_zleftDogs o_zrightDogs)) := by
  refine gmet_v RX0 (by decide +kernel) rfl (Nat.le_of_ble_eq_true rfl) ?_
  intro p e s m args below meth c A R Q C hfr hlc hP hD hret ls hl
  obtain ⟨hx, hb, hml, hown, ht, hK, hZ, hA⟩ := C
  have hl : lv_has ls 8 [(0, .ref q0), (1, .ref q1), (2, .int a2), (3, .int a3)] := hl
  unfold wp_X0_send at hw
  refine g_in (fun H locs => W p l e R s m args below meth c H locs 0 0 Q (F0 m 0 ls [])) (fun H locs hS0 hP => ?_) hP (va_S.rf (A := A) (H0 := s.heap))
  have hS : va_S A s.heap H locs := hS0
  clear hS0
  refine lv_aload_n hx hb dX0_send_0 rfl (lv_at hl 1 rfl) ?_
  refine lv_iload_n hx hb dX0_send_1 rfl (lv_at hl 2 rfl) ?_
  refine gcalli (va_runV (As := [.int a2]) (rest := []) ⟨hx, hb, hml, hown, ht⟩ (c_X9_has l D ci cz tr q1 H.size u0 (.ref q2) (.ref q3) (.ref q4) u1 zp1_dogs a2 _ hw) (cwV 1 ht (gi_V mM_X0_36 mI_X9_has mS_X9_has mN_X9 mC_X9_has) rfl rfl rfl (by decide +kernel) ⟨Nat.le_trans (Nat.le_of_ble_eq_true rfl) hfr, Nat.le_trans (Nat.le_of_ble_eq_true rfl) hlc⟩) (gpreV (wc := [(q1, .inr (8, [.int zp1_dogs, u0, .ref q2, .ref q3, .ref q4, u1]))]) (k := 8) (q0 := 1) hK hZ hP hD hS hA [1] rfl rfl rfl rfl rfl) rfl rfl hl.1 rfl (lv_room (Nat.le_of_ble_eq_true rfl)) dX0_send_2 ⟨Nat.zero_le _, Nat.zero_le _⟩) hD hS hA [1] rfl (fun r_1 w9 H locs hw hP9 hk9 hS => ?_)
  obtain ⟨rfl, hw⟩ := hw
  have hP : va_P D vwCl [(q0, .inr (0, [.int zleft, .int zright, .int zleftDogs, .int zrightDogs])), (q1, .inr (8, [.int zp1_dogs, u0, .ref q2, .ref q3, .ref q4, u1])), (q2, .inl (ci, 7, .inl zp1_halves)), (q3, .inl (ci, 7, .inl zp1_likings)), (q4, .inl (ci, 7, .inl zp1_fears))] H := gjoin3 hP hD [1] hP9 hk9 rfl rfl [none, some 0, none, none, none] rfl rfl
  clear hP9 hk9
  refine lv_if_eq (tgt := 16) hx hb dX0_send_5 (by decide) (fun hc => ?_) (fun hc => ?_)
  · have hw := hw.1 hc
    exact hret _ H locs _ _ ⟨_, _, _, _, rfl, hw⟩ hP hS dX0_send_16
  · have hw := hw.2 hc
    refine lv_aload_n hx hb dX0_send_8 rfl (lv_at hl 1 rfl) ?_
    refine lv_iload_n hx hb dX0_send_9 rfl (lv_at hl 2 rfl) ?_
    refine gcalli (va_runV (As := [.int a2]) (rest := []) ⟨hx, hb, hml, hown, ht⟩ (c_X9_isDead l D ci cz tr q1 q2 H.size (.int zp1_dogs) u0 (.ref q3) (.ref q4) u1 zp1_halves a2 _ hw) (cwV 1 ht (gi_V mM_X0_40 mI_X9_isDead mS_X9_isDead mN_X9 mC_X9_isDead) rfl rfl rfl (by decide +kernel) ⟨Nat.le_trans (Nat.le_of_ble_eq_true rfl) hfr, Nat.le_trans (Nat.le_of_ble_eq_true rfl) hlc⟩) (gpreV (wc := [(q1, .inr (8, [.int zp1_dogs, u0, .ref q2, .ref q3, .ref q4, u1])), (q2, .inl (ci, 7, .inl zp1_halves))]) (k := 8) (q0 := 1) hK hZ hP hD hS hA [1, 2] rfl rfl rfl rfl rfl) rfl rfl hl.1 rfl (lv_room (Nat.le_of_ble_eq_true rfl)) dX0_send_10 ⟨Nat.zero_le _, Nat.zero_le _⟩) hD hS hA [1, 2] rfl (fun r_2 w9 H locs hw hP9 hk9 hS => ?_)
    obtain ⟨rfl, hw⟩ := hw
    have hP : va_P D vwCl [(q0, .inr (0, [.int zleft, .int zright, .int zleftDogs, .int zrightDogs])), (q1, .inr (8, [.int zp1_dogs, u0, .ref q2, .ref q3, .ref q4, u1])), (q2, .inl (ci, 7, .inl zp1_halves)), (q3, .inl (ci, 7, .inl zp1_likings)), (q4, .inl (ci, 7, .inl zp1_fears))] H := gjoin3 hP hD [1, 2] hP9 hk9 rfl rfl [none, some 0, some 1, none, none] rfl rfl
    clear hP9 hk9
    refine lv_if_eq (tgt := 17) hx hb dX0_send_13 (by decide) (fun hc => ?_) (fun hc => ?_)
    · have hw := hw.1 hc
      refine lv_aload_n hx hb dX0_send_17 rfl (lv_at hl 1 rfl) ?_
      refine va_get (D := D) (ci := 8) (v := .ref q3) (C := RX9) (T := TX9) (N := 6) hx hb ht in_X9 hown hK.1 hP 1 rfl rfl 3 (by decide) (ht _ mF_X0_43) (fun _ h9 => h9) rfl dX0_send_18 ?_
      refine lv_iload_n hx hb dX0_send_21 rfl (lv_at hl 2 rfl) ?_
      obtain ⟨hin, hw⟩ := hw
      refine va_iald (D := D) hx hb hK.1 hP 3 0 rfl rfl hin dX0_send_22 ?_
      refine lv_iload_n hx hb dX0_send_23 rfl (lv_at hl 3 rfl) ?_
      refine lv_iadd hx hb dX0_send_24 ?_
      refine lv_istore (lv' := [(4, .int ((zp1_likings (a2).toNatClampNeg) + a3)), (0, .ref q0), (1, .ref q1), (2, .int a2), (3, .int a3)]) hx hb dX0_send_25 hl (by decide) rfl (fun ls hl => ?_)
      refine lv_iload hx hb dX0_send_27 (lv_at hl 0 rfl) ?_
      refine jn_walk hw (fun J53 => ∀ (t_3 : Int32) (H : Heap) (locs : List Loc) (ls : Array Slot), J53 t_3 → va_P D vwCl [(q0, .inr (0, [.int zleft, .int zright, .int zleftDogs, .int zrightDogs])), (q1, .inr (8, [.int zp1_dogs, u0, .ref q2, .ref q3, .ref q4, u1])), (q2, .inl (ci, 7, .inl zp1_halves)), (q3, .inl (ci, 7, .inl zp1_likings)), (q4, .inl (ci, 7, .inl zp1_fears))] H → va_S A s.heap H locs → lv_has ls 8 [(0, .ref q0), (1, .ref q1), (2, .int a2)] → W p l e R s m args below meth c H locs 0 0 Q (F0 m 53 ls [.int t_3])) ?_ ?_
      · intro t_3 H locs ls hw hP hS hl
        have hD : va_D A [(q0, .inr (0, [.int zleft, .int zright, .int zleftDogs, .int zrightDogs])), (q1, .inr (8, [.int zp1_dogs, u0, .ref q2, .ref q3, .ref q4, u1])), (q2, .inl (ci, 7, .inl zp1_halves)), (q3, .inl (ci, 7, .inl zp1_likings)), (q4, .inl (ci, 7, .inl zp1_fears))] := gD_re hD rfl
        refine lv_istore (lv' := [(5, .int t_3), (0, .ref q0), (1, .ref q1), (2, .int a2)]) hx hb dX0_send_53 hl (by decide) rfl (fun ls hl => ?_)
        refine lv_aload_n hx hb dX0_send_55 rfl (lv_at hl 2 rfl) ?_
        refine va_get (D := D) (ci := 8) (v := .ref q4) (C := RX9) (T := TX9) (N := 6) hx hb ht in_X9 hown hK.1 hP 1 rfl rfl 4 (by decide) (ht _ mF_X0_47) (fun _ h9 => h9) rfl dX0_send_56 ?_
        refine lv_iload_n hx hb dX0_send_59 rfl (lv_at hl 3 rfl) ?_
        obtain ⟨hin, hw⟩ := hw
        refine va_iald (D := D) hx hb hK.1 hP 4 0 rfl rfl hin dX0_send_60 ?_
        refine lv_aload_n hx hb dX0_send_61 rfl (lv_at hl 1 rfl) ?_
        refine va_get (D := D) (ci := 0) (v := .int zleftDogs) (C := RX0) (T := TX0) (N := 4) hx hb ht in_X0 hown hK.1 hP 0 rfl rfl 2 (by decide) (ht _ mF_X0_18) (fun _ h9 => h9) rfl dX0_send_62 ?_
        refine lv_iand hx hb dX0_send_65 ?_
        refine jn_walk hw (fun J74 => ∀ (t_4 : Int32) (H : Heap) (locs : List Loc) (ls : Array Slot), J74 t_4 → va_P D vwCl [(q0, .inr (0, [.int zleft, .int zright, .int zleftDogs, .int zrightDogs])), (q1, .inr (8, [.int zp1_dogs, u0, .ref q2, .ref q3, .ref q4, u1])), (q2, .inl (ci, 7, .inl zp1_halves)), (q3, .inl (ci, 7, .inl zp1_likings)), (q4, .inl (ci, 7, .inl zp1_fears))] H → va_S A s.heap H locs → lv_has ls 8 [(0, .ref q0), (1, .ref q1), (2, .int a2), (5, .int t_3)] → W p l e R s m args below meth c H locs 0 0 Q (F0 m 74 ls [.int t_4])) ?_ ?_
        · intro t_4 H locs ls hw hP hS hl
          have hD : va_D A [(q0, .inr (0, [.int zleft, .int zright, .int zleftDogs, .int zrightDogs])), (q1, .inr (8, [.int zp1_dogs, u0, .ref q2, .ref q3, .ref q4, u1])), (q2, .inl (ci, 7, .inl zp1_halves)), (q3, .inl (ci, 7, .inl zp1_likings)), (q4, .inl (ci, 7, .inl zp1_fears))] := gD_re hD rfl
          refine lv_istore (lv' := [(6, .int t_4), (0, .ref q0), (1, .ref q1), (2, .int a2), (5, .int t_3)]) hx hb dX0_send_74 hl (by decide) rfl (fun ls hl => ?_)
          refine lv_aload_n hx hb dX0_send_76 rfl (lv_at hl 2 rfl) ?_
          refine va_get (D := D) (ci := 8) (v := .ref q4) (C := RX9) (T := TX9) (N := 6) hx hb ht in_X9 hown hK.1 hP 1 rfl rfl 4 (by decide) (ht _ mF_X0_47) (fun _ h9 => h9) rfl dX0_send_77 ?_
          refine lv_iload_n hx hb dX0_send_80 rfl (lv_at hl 3 rfl) ?_
          obtain ⟨hin, hw⟩ := hw
          refine va_iald (D := D) hx hb hK.1 hP 4 0 rfl rfl hin dX0_send_81 ?_
          refine lv_aload_n hx hb dX0_send_82 rfl (lv_at hl 1 rfl) ?_
          refine va_get (D := D) (ci := 0) (v := .int zrightDogs) (C := RX0) (T := TX0) (N := 4) hx hb ht in_X0 hown hK.1 hP 0 rfl rfl 3 (by decide) (ht _ mF_X0_21) (fun _ h9 => h9) rfl dX0_send_83 ?_
          refine lv_iand hx hb dX0_send_86 ?_
          refine jn_walk hw (fun J95 => ∀ (t_5 : Int32) (H : Heap) (locs : List Loc) (ls : Array Slot), J95 t_5 → va_P D vwCl [(q0, .inr (0, [.int zleft, .int zright, .int zleftDogs, .int zrightDogs])), (q1, .inr (8, [.int zp1_dogs, u0, .ref q2, .ref q3, .ref q4, u1])), (q2, .inl (ci, 7, .inl zp1_halves)), (q3, .inl (ci, 7, .inl zp1_likings)), (q4, .inl (ci, 7, .inl zp1_fears))] H → va_S A s.heap H locs → lv_has ls 8 [(0, .ref q0), (1, .ref q1), (2, .int a2), (5, .int t_3), (6, .int t_4)] → W p l e R s m args below meth c H locs 0 0 Q (F0 m 95 ls [.int t_5])) ?_ ?_
          · intro t_5 H locs ls hw hP hS hl
            have hD : va_D A [(q0, .inr (0, [.int zleft, .int zright, .int zleftDogs, .int zrightDogs])), (q1, .inr (8, [.int zp1_dogs, u0, .ref q2, .ref q3, .ref q4, u1])), (q2, .inl (ci, 7, .inl zp1_halves)), (q3, .inl (ci, 7, .inl zp1_likings)), (q4, .inl (ci, 7, .inl zp1_fears))] := gD_re hD rfl
            refine lv_istore (lv' := [(7, .int t_5), (0, .ref q0), (1, .ref q1), (2, .int a2), (5, .int t_3), (6, .int t_4)]) hx hb dX0_send_95 hl (by decide) rfl (fun ls hl => ?_)
            refine lv_iload hx hb dX0_send_97 (lv_at hl 5 rfl) ?_
            refine jn_walk hw (fun J142 => ∀  (H : Heap) (locs : List Loc) (ls : Array Slot), J142 → va_P D vwCl [(q0, .inr (0, [.int zleft, .int zright, .int zleftDogs, .int zrightDogs])), (q1, .inr (8, [.int zp1_dogs, u0, .ref q2, .ref q3, .ref q4, u1])), (q2, .inl (ci, 7, .inl zp1_halves)), (q3, .inl (ci, 7, .inl zp1_likings)), (q4, .inl (ci, 7, .inl zp1_fears))] H → va_S A s.heap H locs → lv_has ls 8 [(0, .ref q0), (1, .ref q1), (2, .int a2), (7, .int t_5)] → W p l e R s m args below meth c H locs 0 0 Q (F0 m 142 ls [])) ?_ ?_
            · intro  H locs ls hw hP hS hl
              have hD : va_D A [(q0, .inr (0, [.int zleft, .int zright, .int zleftDogs, .int zrightDogs])), (q1, .inr (8, [.int zp1_dogs, u0, .ref q2, .ref q3, .ref q4, u1])), (q2, .inl (ci, 7, .inl zp1_halves)), (q3, .inl (ci, 7, .inl zp1_likings)), (q4, .inl (ci, 7, .inl zp1_fears))] := gD_re hD rfl
              refine lv_iload hx hb dX0_send_142 (lv_at hl 3 rfl) ?_
              refine lv_if_ne (tgt := 174) hx hb dX0_send_144 (by decide) (fun hc => ?_) (fun hc => ?_)
              · have hw := hw.1 hc
                exact hret _ H locs _ _ ⟨_, _, _, _, rfl, hw⟩ hP hS dX0_send_174
              · have hw := hw.2 hc
                refine lv_aload_n hx hb dX0_send_147 rfl (lv_at hl 0 rfl) ?_
                refine lv_dup hx hb dX0_send_148 rfl ?_
                refine va_get (D := D) (ci := 0) (v := .int zrightDogs) (C := RX0) (T := TX0) (N := 4) hx hb ht in_X0 hown hK.1 hP 0 rfl rfl 3 (by decide) (ht _ mF_X0_21) (fun _ h9 => h9) rfl dX0_send_149 ?_
                refine lv_iconst (v := (1 : Int32)) hx hb dX0_send_152 (by decide) ?_
                refine lv_iload_n hx hb dX0_send_153 rfl (lv_at hl 2 rfl) ?_
                refine lv_ishl hx hb dX0_send_154 ?_
                refine lv_ior hx hb dX0_send_155 ?_
                refine va_put (D := D) (ci := 0) (v := .int (zrightDogs ||| ((1 : Int32) <<< (a2 &&& 31)))) (ty := .int) (C := RX0) (T := TX0) (N := 4) hx hb ht in_X0 tyX0 tyX0_ok nmX0 hown hK.1 hP hD hS 0 rfl rfl 3 (by decide) (ht _ mF_X0_21) (fun _ h9 => h9) rfl (by decide +kernel) rfl rfl (Nat.le_of_ble_eq_true rfl) dX0_send_156 (fun H locs hP hD hS => ?_)
                have hP : va_P D vwCl [(q0, .inr (0, [.int zleft, .int zright, .int zleftDogs, .int (zrightDogs ||| ((1 : Int32) <<< (a2 &&& 31)))])), (q1, .inr (8, [.int zp1_dogs, u0, .ref q2, .ref q3, .ref q4, u1])), (q2, .inl (ci, 7, .inl zp1_halves)), (q3, .inl (ci, 7, .inl zp1_likings)), (q4, .inl (ci, 7, .inl zp1_fears))] H := hP
                have hD : va_D A [(q0, .inr (0, [.int zleft, .int zright, .int zleftDogs, .int (zrightDogs ||| ((1 : Int32) <<< (a2 &&& 31)))])), (q1, .inr (8, [.int zp1_dogs, u0, .ref q2, .ref q3, .ref q4, u1])), (q2, .inl (ci, 7, .inl zp1_halves)), (q3, .inl (ci, 7, .inl zp1_likings)), (q4, .inl (ci, 7, .inl zp1_fears))] := hD
                refine lv_aload_n hx hb dX0_send_159 rfl (lv_at hl 0 rfl) ?_
                refine lv_dup hx hb dX0_send_160 rfl ?_
                refine va_get (D := D) (ci := 0) (v := .int zright) (C := RX0) (T := TX0) (N := 4) hx hb ht in_X0 hown hK.1 hP 0 rfl rfl 1 (by decide) (ht _ mF_X0_15) (fun _ h9 => h9) rfl dX0_send_161 ?_
                refine lv_aload_n hx hb dX0_send_164 rfl (lv_at hl 1 rfl) ?_
                refine va_get (D := D) (ci := 8) (v := .ref q2) (C := RX9) (T := TX9) (N := 6) hx hb ht in_X9 hown hK.1 hP 1 rfl rfl 2 (by decide) (ht _ mF_X0_50) (fun _ h9 => h9) rfl dX0_send_165 ?_
                refine lv_iload_n hx hb dX0_send_168 rfl (lv_at hl 2 rfl) ?_
                obtain ⟨hin, hw⟩ := hw
                refine va_iald (D := D) hx hb hK.1 hP 2 0 rfl rfl hin dX0_send_169 ?_
                refine lv_iadd hx hb dX0_send_170 ?_
                refine va_put (D := D) (ci := 0) (v := .int (zright + (zp1_halves (a2).toNatClampNeg))) (ty := .int) (C := RX0) (T := TX0) (N := 4) hx hb ht in_X0 tyX0 tyX0_ok nmX0 hown hK.1 hP hD hS 0 rfl rfl 1 (by decide) (ht _ mF_X0_15) (fun _ h9 => h9) rfl (by decide +kernel) rfl rfl (Nat.le_of_ble_eq_true rfl) dX0_send_171 (fun H locs hP hD hS => ?_)
                have hP : va_P D vwCl [(q0, .inr (0, [.int zleft, .int (zright + (zp1_halves (a2).toNatClampNeg)), .int zleftDogs, .int (zrightDogs ||| ((1 : Int32) <<< (a2 &&& 31)))])), (q1, .inr (8, [.int zp1_dogs, u0, .ref q2, .ref q3, .ref q4, u1])), (q2, .inl (ci, 7, .inl zp1_halves)), (q3, .inl (ci, 7, .inl zp1_likings)), (q4, .inl (ci, 7, .inl zp1_fears))] H := hP
                have hD : va_D A [(q0, .inr (0, [.int zleft, .int (zright + (zp1_halves (a2).toNatClampNeg)), .int zleftDogs, .int (zrightDogs ||| ((1 : Int32) <<< (a2 &&& 31)))])), (q1, .inr (8, [.int zp1_dogs, u0, .ref q2, .ref q3, .ref q4, u1])), (q2, .inl (ci, 7, .inl zp1_halves)), (q3, .inl (ci, 7, .inl zp1_likings)), (q4, .inl (ci, 7, .inl zp1_fears))] := hD
                exact hret _ H locs _ _ ⟨_, _, _, _, rfl, hw⟩ hP hS dX0_send_174
            · intro J142 hJ142 hw
              refine lv_if_ne (tgt := 142) hx hb dX0_send_99 (by decide) (fun hc => ?_) (fun hc => ?_)
              · have hw := hw.1 hc
                exact hJ142  H locs ls hw hP hS (lv_sub hl [1, 2, 3, 0] rfl)
              · have hw := hw.2 hc
                refine lv_iload hx hb dX0_send_102 (lv_at hl 4 rfl) ?_
                refine jn_walk hw (fun J112 => ∀  (H : Heap) (locs : List Loc) (ls : Array Slot), J112 → va_P D vwCl [(q0, .inr (0, [.int zleft, .int zright, .int zleftDogs, .int zrightDogs])), (q1, .inr (8, [.int zp1_dogs, u0, .ref q2, .ref q3, .ref q4, u1])), (q2, .inl (ci, 7, .inl zp1_halves)), (q3, .inl (ci, 7, .inl zp1_likings)), (q4, .inl (ci, 7, .inl zp1_fears))] H → va_S A s.heap H locs → lv_has ls 8 [(0, .ref q0), (1, .ref q1), (2, .int a2)] → W p l e R s m args below meth c H locs 0 0 Q (F0 m 112 ls [])) ?_ ?_
                · intro  H locs ls hw hP hS hl
                  have hD : va_D A [(q0, .inr (0, [.int zleft, .int zright, .int zleftDogs, .int zrightDogs])), (q1, .inr (8, [.int zp1_dogs, u0, .ref q2, .ref q3, .ref q4, u1])), (q2, .inl (ci, 7, .inl zp1_halves)), (q3, .inl (ci, 7, .inl zp1_likings)), (q4, .inl (ci, 7, .inl zp1_fears))] := gD_re hD rfl
                  refine lv_aload_n hx hb dX0_send_112 rfl (lv_at hl 0 rfl) ?_
                  refine lv_dup hx hb dX0_send_113 rfl ?_
                  refine va_get (D := D) (ci := 0) (v := .int zleftDogs) (C := RX0) (T := TX0) (N := 4) hx hb ht in_X0 hown hK.1 hP 0 rfl rfl 2 (by decide) (ht _ mF_X0_18) (fun _ h9 => h9) rfl dX0_send_114 ?_
                  refine lv_iconst (v := (1 : Int32)) hx hb dX0_send_117 (by decide) ?_
                  refine lv_iload_n hx hb dX0_send_118 rfl (lv_at hl 2 rfl) ?_
                  refine lv_ishl hx hb dX0_send_119 ?_
                  refine lv_ior hx hb dX0_send_120 ?_
                  refine va_put (D := D) (ci := 0) (v := .int (zleftDogs ||| ((1 : Int32) <<< (a2 &&& 31)))) (ty := .int) (C := RX0) (T := TX0) (N := 4) hx hb ht in_X0 tyX0 tyX0_ok nmX0 hown hK.1 hP hD hS 0 rfl rfl 2 (by decide) (ht _ mF_X0_18) (fun _ h9 => h9) rfl (by decide +kernel) rfl rfl (Nat.le_of_ble_eq_true rfl) dX0_send_121 (fun H locs hP hD hS => ?_)
                  have hP : va_P D vwCl [(q0, .inr (0, [.int zleft, .int zright, .int (zleftDogs ||| ((1 : Int32) <<< (a2 &&& 31))), .int zrightDogs])), (q1, .inr (8, [.int zp1_dogs, u0, .ref q2, .ref q3, .ref q4, u1])), (q2, .inl (ci, 7, .inl zp1_halves)), (q3, .inl (ci, 7, .inl zp1_likings)), (q4, .inl (ci, 7, .inl zp1_fears))] H := hP
                  have hD : va_D A [(q0, .inr (0, [.int zleft, .int zright, .int (zleftDogs ||| ((1 : Int32) <<< (a2 &&& 31))), .int zrightDogs])), (q1, .inr (8, [.int zp1_dogs, u0, .ref q2, .ref q3, .ref q4, u1])), (q2, .inl (ci, 7, .inl zp1_halves)), (q3, .inl (ci, 7, .inl zp1_likings)), (q4, .inl (ci, 7, .inl zp1_fears))] := hD
                  refine lv_aload_n hx hb dX0_send_124 rfl (lv_at hl 0 rfl) ?_
                  refine lv_dup hx hb dX0_send_125 rfl ?_
                  refine va_get (D := D) (ci := 0) (v := .int zleft) (C := RX0) (T := TX0) (N := 4) hx hb ht in_X0 hown hK.1 hP 0 rfl rfl 0 (by decide) (ht _ mF_X0_9) (fun _ h9 => h9) rfl dX0_send_126 ?_
                  refine lv_aload_n hx hb dX0_send_129 rfl (lv_at hl 1 rfl) ?_
                  refine va_get (D := D) (ci := 8) (v := .ref q2) (C := RX9) (T := TX9) (N := 6) hx hb ht in_X9 hown hK.1 hP 1 rfl rfl 2 (by decide) (ht _ mF_X0_50) (fun _ h9 => h9) rfl dX0_send_130 ?_
                  refine lv_iload_n hx hb dX0_send_133 rfl (lv_at hl 2 rfl) ?_
                  obtain ⟨hin, hw⟩ := hw
                  refine va_iald (D := D) hx hb hK.1 hP 2 0 rfl rfl hin dX0_send_134 ?_
                  refine lv_iadd hx hb dX0_send_135 ?_
                  refine va_put (D := D) (ci := 0) (v := .int (zleft + (zp1_halves (a2).toNatClampNeg))) (ty := .int) (C := RX0) (T := TX0) (N := 4) hx hb ht in_X0 tyX0 tyX0_ok nmX0 hown hK.1 hP hD hS 0 rfl rfl 0 (by decide) (ht _ mF_X0_9) (fun _ h9 => h9) rfl (by decide +kernel) rfl rfl (Nat.le_of_ble_eq_true rfl) dX0_send_136 (fun H locs hP hD hS => ?_)
                  have hP : va_P D vwCl [(q0, .inr (0, [.int (zleft + (zp1_halves (a2).toNatClampNeg)), .int zright, .int (zleftDogs ||| ((1 : Int32) <<< (a2 &&& 31))), .int zrightDogs])), (q1, .inr (8, [.int zp1_dogs, u0, .ref q2, .ref q3, .ref q4, u1])), (q2, .inl (ci, 7, .inl zp1_halves)), (q3, .inl (ci, 7, .inl zp1_likings)), (q4, .inl (ci, 7, .inl zp1_fears))] H := hP
                  have hD : va_D A [(q0, .inr (0, [.int (zleft + (zp1_halves (a2).toNatClampNeg)), .int zright, .int (zleftDogs ||| ((1 : Int32) <<< (a2 &&& 31))), .int zrightDogs])), (q1, .inr (8, [.int zp1_dogs, u0, .ref q2, .ref q3, .ref q4, u1])), (q2, .inl (ci, 7, .inl zp1_halves)), (q3, .inl (ci, 7, .inl zp1_likings)), (q4, .inl (ci, 7, .inl zp1_fears))] := hD
                  refine lv_goto (tgt := 174) hx hb dX0_send_139 (by decide) ?_
                  exact hret _ H locs _ _ ⟨_, _, _, _, rfl, hw⟩ hP hS dX0_send_174
                · intro J112 hJ112 hw
                  refine lv_if_ne (tgt := 112) hx hb dX0_send_104 (by decide) (fun hc => ?_) (fun hc => ?_)
                  · have hw := hw.1 hc
                    exact hJ112  H locs ls hw hP hS (lv_sub hl [1, 2, 3] rfl)
                  · have hw := hw.2 hc
                    refine lv_iload hx hb dX0_send_107 (lv_at hl 0 rfl) ?_
                    refine lv_if_eq (tgt := 142) hx hb dX0_send_109 (by decide) (fun hc => ?_) (fun hc => ?_)
                    · have hw := hw.1 hc
                      exact hJ142  H locs ls hw hP hS (lv_sub hl [1, 2, 3, 0] rfl)
                    · have hw := hw.2 hc
                      exact hJ112  H locs ls hw hP hS (lv_sub hl [1, 2, 3] rfl)
          · intro J95 hJ95 hw
            refine lv_if_eq (tgt := 94) hx hb dX0_send_87 (by decide) (fun hc => ?_) (fun hc => ?_)
            · have hw := hw.1 hc
              refine lv_iconst (v := (0 : Int32)) hx hb dX0_send_94 (by decide) ?_
              exact hJ95 _ H locs ls hw hP hS (lv_sub hl [1, 2, 3, 4, 0] rfl)
            · have hw := hw.2 hc
              refine lv_iconst (v := (1 : Int32)) hx hb dX0_send_90 (by decide) ?_
              refine lv_goto (tgt := 95) hx hb dX0_send_91 (by decide) ?_
              exact hJ95 _ H locs ls hw hP hS (lv_sub hl [1, 2, 3, 4, 0] rfl)
        · intro J74 hJ74 hw
          refine lv_if_eq (tgt := 73) hx hb dX0_send_66 (by decide) (fun hc => ?_) (fun hc => ?_)
          · have hw := hw.1 hc
            refine lv_iconst (v := (0 : Int32)) hx hb dX0_send_73 (by decide) ?_
            exact hJ74 _ H locs ls hw hP hS (lv_sub hl [1, 2, 3, 0] rfl)
          · have hw := hw.2 hc
            refine lv_iconst (v := (1 : Int32)) hx hb dX0_send_69 (by decide) ?_
            refine lv_goto (tgt := 74) hx hb dX0_send_70 (by decide) ?_
            exact hJ74 _ H locs ls hw hP hS (lv_sub hl [1, 2, 3, 0] rfl)
      · intro J53 hJ53 hw
        refine jn_walk hw (fun J48 => ∀  (H : Heap) (locs : List Loc) (ls : Array Slot), J48 → va_P D vwCl [(q0, .inr (0, [.int zleft, .int zright, .int zleftDogs, .int zrightDogs])), (q1, .inr (8, [.int zp1_dogs, u0, .ref q2, .ref q3, .ref q4, u1])), (q2, .inl (ci, 7, .inl zp1_halves)), (q3, .inl (ci, 7, .inl zp1_likings)), (q4, .inl (ci, 7, .inl zp1_fears))] H → va_S A s.heap H locs → lv_has ls 8 [(0, .ref q0), (1, .ref q1), (2, .int a2)] → W p l e R s m args below meth c H locs 0 0 Q (F0 m 48 ls [])) ?_ ?_
        · intro  H locs ls hw hP hS hl
          have hD : va_D A [(q0, .inr (0, [.int zleft, .int zright, .int zleftDogs, .int zrightDogs])), (q1, .inr (8, [.int zp1_dogs, u0, .ref q2, .ref q3, .ref q4, u1])), (q2, .inl (ci, 7, .inl zp1_halves)), (q3, .inl (ci, 7, .inl zp1_likings)), (q4, .inl (ci, 7, .inl zp1_fears))] := gD_re hD rfl
          refine lv_iconst (v := (1 : Int32)) hx hb dX0_send_48 (by decide) ?_
          refine lv_goto (tgt := 53) hx hb dX0_send_49 (by decide) ?_
          exact hJ53 _ H locs ls hw hP hS (lv_sub hl [0, 1, 2] rfl)
        · intro J48 hJ48 hw
          refine lv_if_gt (tgt := 48) hx hb dX0_send_29 (by decide) (fun hc => ?_) (fun hc => ?_)
          · have hw := hw.1 hc
            exact hJ48  H locs ls hw hP hS (lv_sub hl [1, 2, 3] rfl)
          · have hw := hw.2 hc
            refine lv_iload hx hb dX0_send_32 (lv_at hl 0 rfl) ?_
            refine jn_walk hw (fun J52 => ∀  (H : Heap) (locs : List Loc) (ls : Array Slot), J52 → va_P D vwCl [(q0, .inr (0, [.int zleft, .int zright, .int zleftDogs, .int zrightDogs])), (q1, .inr (8, [.int zp1_dogs, u0, .ref q2, .ref q3, .ref q4, u1])), (q2, .inl (ci, 7, .inl zp1_halves)), (q3, .inl (ci, 7, .inl zp1_likings)), (q4, .inl (ci, 7, .inl zp1_fears))] H → va_S A s.heap H locs → lv_has ls 8 [(0, .ref q0), (1, .ref q1), (2, .int a2)] → W p l e R s m args below meth c H locs 0 0 Q (F0 m 52 ls [])) ?_ ?_
            · intro  H locs ls hw hP hS hl
              have hD : va_D A [(q0, .inr (0, [.int zleft, .int zright, .int zleftDogs, .int zrightDogs])), (q1, .inr (8, [.int zp1_dogs, u0, .ref q2, .ref q3, .ref q4, u1])), (q2, .inl (ci, 7, .inl zp1_halves)), (q3, .inl (ci, 7, .inl zp1_likings)), (q4, .inl (ci, 7, .inl zp1_fears))] := gD_re hD rfl
              refine lv_iconst (v := (0 : Int32)) hx hb dX0_send_52 (by decide) ?_
              exact hJ53 _ H locs ls hw hP hS (lv_sub hl [0, 1, 2] rfl)
            · intro J52 hJ52 hw
              refine lv_if_ne (tgt := 52) hx hb dX0_send_34 (by decide) (fun hc => ?_) (fun hc => ?_)
              · have hw := hw.1 hc
                exact hJ52  H locs ls hw hP hS (lv_sub hl [1, 2, 3] rfl)
              · have hw := hw.2 hc
                refine lv_aload_n hx hb dX0_send_37 rfl (lv_at hl 1 rfl) ?_
                refine va_get (D := D) (ci := 0) (v := .int zleft) (C := RX0) (T := TX0) (N := 4) hx hb ht in_X0 hown hK.1 hP 0 rfl rfl 0 (by decide) (ht _ mF_X0_9) (fun _ h9 => h9) rfl dX0_send_38 ?_
                refine lv_aload_n hx hb dX0_send_41 rfl (lv_at hl 1 rfl) ?_
                refine va_get (D := D) (ci := 0) (v := .int zright) (C := RX0) (T := TX0) (N := 4) hx hb ht in_X0 hown hK.1 hP 0 rfl rfl 1 (by decide) (ht _ mF_X0_15) (fun _ h9 => h9) rfl dX0_send_42 ?_
                refine lv_icmp_lt (tgt := 52) hx hb dX0_send_45 (by decide) (fun hc => ?_) (fun hc => ?_)
                · have hw := hw.1 hc
                  exact hJ52  H locs ls hw hP hS (lv_sub hl [1, 2, 3] rfl)
                · have hw := hw.2 hc
                  exact hJ48  H locs ls hw hP hS (lv_sub hl [1, 2, 3] rfl)
    · have hw := hw.2 hc
      exact hret _ H locs _ _ ⟨_, _, _, _, rfl, hw⟩ hP hS dX0_send_16

def wp_X0_hold (zleft : Int32) (zright : Int32) (zleftDogs : Int32) (zrightDogs : Int32) (zp1_dogs : Int32) (zp1_halves : Nat → Int32) (zp1_likings : Nat → Int32) (zp1_fears : Nat → Int32) (a2 : Int32) (a3 : Int32) (a4 : Int32) (post : Int32 → Int32 → Int32 → Int32 → Prop) : Prop :=
  wp_X0_open zleft zright zleftDogs zrightDogs (fun (zleft_2 : Int32) (zright_3 : Int32) (zleftDogs_4 : Int32) (zrightDogs_5 : Int32) => lo (fun _ _ _ _ _ => False) (fun (G7 : Int32 → Int32 → Int32 → Int32 → Int32 → Prop) (x5_6 : Int32) (zleft_7 : Int32) (zright_8 : Int32) (zleftDogs_9 : Int32) (zrightDogs_10 : Int32) => ((zp1_dogs ≤ x5_6 → post zleft_7 zright_8 zleftDogs_9 zrightDogs_10) ∧ (¬ zp1_dogs ≤ x5_6 → ((¬ ((a3 >>> (x5_6 &&& 31)) &&& (1 : Int32)) = 0 → G7 (x5_6 + (1 : Int32)) zleft_7 zright_8 zleftDogs_9 zrightDogs_10) ∧ (((a3 >>> (x5_6 &&& 31)) &&& (1 : Int32)) = 0 → jn (fun (t_11 : Int32) => wp_X0_send zleft_7 zright_8 zleftDogs_9 zrightDogs_10 zp1_dogs zp1_halves zp1_likings zp1_fears x5_6 t_11 (fun (zleft_13 : Int32) (zright_14 : Int32) (zleftDogs_15 : Int32) (zrightDogs_16 : Int32) => G7 (x5_6 + (1 : Int32)) zleft_13 zright_14 zleftDogs_15 zrightDogs_16)) (fun (J44 : Int32 → Prop) => ((¬ ((a4 >>> (x5_6 &&& 31)) &&& (1 : Int32)) = 0 → J44 (0 : Int32)) ∧ (((a4 >>> (x5_6 &&& 31)) &&& (1 : Int32)) = 0 → J44 a2)))))))) (fun G7 => G7 (0 : Int32) zleft_2 zright_3 zleftDogs_4 zrightDogs_5))
set_option maxHeartbeats 4000000 in
set_option maxRecDepth 100000 in
theorem c_X0_hold (l : Launch) (D : va_G) (ci cz : ClassId) (tr : List (ClassId × FieldType)) (q0 q1 q2 q3 q4 : Nat) (sz : Nat) (u0 u1 : Value) (zleft : Int32) (zright : Int32) (zleftDogs : Int32) (zrightDogs : Int32) (zp1_dogs : Int32) (zp1_halves : Nat → Int32) (zp1_likings : Nat → Int32) (zp1_fears : Nat → Int32) (a2 : Int32) (a3 : Int32) (a4 : Int32) (post : Int32 → Int32 → Int32 → Int32 → Prop) (hw : wp_X0_hold zleft zright zleftDogs zrightDogs zp1_dogs zp1_halves zp1_likings zp1_fears a2 a3 a4 post) : gM l yX0_hold cX0_hold 6 none 2 48 D ci cz tr [(q0, .inr (0, [.int zleft, .int zright, .int zleftDogs, .int zrightDogs])), (q1, .inr (8, [.int zp1_dogs, u0, .ref q2, .ref q3, .ref q4, u1])), (q2, .inl (ci, 7, .inl zp1_halves)), (q3, .inl (ci, 7, .inl zp1_likings)), (q4, .inl (ci, 7, .inl zp1_fears))] sz [.ref q0, .ref q1, .int a2, .int a3, .int a4] (gQv D [(q0, .inr (0, [.int zleft, .int zright, .int zleftDogs, .int zrightDogs])), (q1, .inr (8, [.int zp1_dogs, u0, .ref q2, .ref q3, .ref q4, u1])), (q2, .inl (ci, 7, .inl zp1_halves)), (q3, .inl (ci, 7, .inl zp1_likings)), (q4, .inl (ci, 7, .inl zp1_fears))] sz (fun w => ∃ (o_zleft : Int32) (o_zright : Int32) (o_zleftDogs : Int32) (o_zrightDogs : Int32), w = [(q0, .inr (0, [.int o_zleft, .int o_zright, .int o_zleftDogs, .int o_zrightDogs])), (q1, .inr (8, [.int zp1_dogs, u0, .ref q2, .ref q3, .ref q4, u1])), (q2, .inl (ci, 7, .inl zp1_halves)), (q3, .inl (ci, 7, .inl zp1_likings)), (q4, .inl (ci, 7, .inl zp1_fears))] ∧ post o_zleft o_zright o_zleftDogs o_zrightDogs)) := by
  refine gmet_v RX0 (by decide +kernel) rfl (Nat.le_of_ble_eq_true rfl) ?_
  intro p e s m args below meth c A R Q C hfr hlc hP hD hret ls hl
  obtain ⟨hx, hb, hml, hown, ht, hK, hZ, hA⟩ := C
  have hl : lv_has ls 6 [(0, .ref q0), (1, .ref q1), (2, .int a2), (3, .int a3), (4, .int a4)] := hl
  unfold wp_X0_hold at hw
  refine g_in (fun H locs => W p l e R s m args below meth c H locs 0 0 Q (F0 m 0 ls [])) (fun H locs hS0 hP => ?_) hP (va_S.rf (A := A) (H0 := s.heap))
  have hS : va_S A s.heap H locs := hS0
  clear hS0
  refine lv_aload_n hx hb dX0_hold_0 rfl (lv_at hl 0 rfl) ?_
  refine gcallv (va_runV (As := []) (rest := []) ⟨hx, hb, hml, hown, ht⟩ (c_X0_open l D ci cz tr q0 H.size zleft zright zleftDogs zrightDogs _ hw) (cwV 0 ht (gi_V mM_X0_24 mI_X0_open mS_X0_open mN_X0 mC_X0_open) rfl rfl rfl (by decide +kernel) ⟨Nat.le_trans (Nat.le_of_ble_eq_true rfl) hfr, Nat.le_trans (Nat.le_of_ble_eq_true rfl) hlc⟩) (gpreV (wc := [(q0, .inr (0, [.int zleft, .int zright, .int zleftDogs, .int zrightDogs]))]) (k := 0) (q0 := 0) hK hZ hP hD hS hA [0] rfl rfl rfl rfl rfl) rfl rfl hl.1 rfl (lv_room (Nat.le_of_ble_eq_true rfl)) dX0_hold_1 ⟨Nat.zero_le _, Nat.zero_le _⟩) hD hS hA [0] rfl (fun w9 H locs hw hP9 hk9 hS => ?_)
  obtain ⟨zleft_2, zright_3, zleftDogs_4, zrightDogs_5, rfl, hw⟩ := hw
  have hP : va_P D vwCl [(q0, .inr (0, [.int zleft_2, .int zright_3, .int zleftDogs_4, .int zrightDogs_5])), (q1, .inr (8, [.int zp1_dogs, u0, .ref q2, .ref q3, .ref q4, u1])), (q2, .inl (ci, 7, .inl zp1_halves)), (q3, .inl (ci, 7, .inl zp1_likings)), (q4, .inl (ci, 7, .inl zp1_fears))] H := gjoin3 hP hD [0] hP9 hk9 rfl rfl [some 0, none, none, none, none] rfl rfl
  have hD : va_D A [(q0, .inr (0, [.int zleft_2, .int zright_3, .int zleftDogs_4, .int zrightDogs_5])), (q1, .inr (8, [.int zp1_dogs, u0, .ref q2, .ref q3, .ref q4, u1])), (q2, .inl (ci, 7, .inl zp1_halves)), (q3, .inl (ci, 7, .inl zp1_likings)), (q4, .inl (ci, 7, .inl zp1_fears))] := gD_re hD rfl
  clear hP9 hk9
  refine lv_iconst (v := (0 : Int32)) hx hb dX0_hold_4 (by decide) ?_
  refine lv_istore (lv' := [(5, .int (0 : Int32)), (0, .ref q0), (1, .ref q1), (2, .int a2), (3, .int a3), (4, .int a4)]) hx hb dX0_hold_5 hl (by decide) rfl (fun ls hl => ?_)
  refine lo_walk hw (fun G7 => ∀ (x5_6 : Int32) (zleft_7 : Int32) (zright_8 : Int32) (zleftDogs_9 : Int32) (zrightDogs_10 : Int32) (H : Heap) (locs : List Loc) (ls : Array Slot), G7 x5_6 zleft_7 zright_8 zleftDogs_9 zrightDogs_10 → va_P D vwCl [(q0, .inr (0, [.int zleft_7, .int zright_8, .int zleftDogs_9, .int zrightDogs_10])), (q1, .inr (8, [.int zp1_dogs, u0, .ref q2, .ref q3, .ref q4, u1])), (q2, .inl (ci, 7, .inl zp1_halves)), (q3, .inl (ci, 7, .inl zp1_likings)), (q4, .inl (ci, 7, .inl zp1_fears))] H → va_S A s.heap H locs → lv_has ls 6 [(0, .ref q0), (1, .ref q1), (2, .int a2), (3, .int a3), (4, .int a4), (5, .int x5_6)] → W p l e R s m args below meth c H locs 0 0 Q (F0 m 7 ls [])) (fun _ _ _ _ _ _ _ _ hw _ _ _ => False.elim hw) (fun G7 hG7 x5_6 zleft_7 zright_8 zleftDogs_9 zrightDogs_10 H locs ls hw hP hS hl => ?_) (fun G7 hG7 hw => hG7 _ _ _ _ _ H locs ls hw hP hS (lv_sub hl [1, 2, 3, 4, 5, 0] rfl))
  have hD : va_D A [(q0, .inr (0, [.int zleft_7, .int zright_8, .int zleftDogs_9, .int zrightDogs_10])), (q1, .inr (8, [.int zp1_dogs, u0, .ref q2, .ref q3, .ref q4, u1])), (q2, .inl (ci, 7, .inl zp1_halves)), (q3, .inl (ci, 7, .inl zp1_likings)), (q4, .inl (ci, 7, .inl zp1_fears))] := gD_re hD rfl
  refine lv_iload hx hb dX0_hold_7 (lv_at hl 5 rfl) ?_
  refine lv_aload_n hx hb dX0_hold_9 rfl (lv_at hl 1 rfl) ?_
  refine va_get (D := D) (ci := 8) (v := .int zp1_dogs) (C := RX9) (T := TX9) (N := 6) hx hb ht in_X9 hown hK.1 hP 1 rfl rfl 0 (by decide) (ht _ mF_X0_27) (fun _ h9 => h9) rfl dX0_hold_10 ?_
  refine lv_icmp_ge (tgt := 53) hx hb dX0_hold_13 (by decide) (fun hc => ?_) (fun hc => ?_)
  · have hw := hw.1 hc
    exact hret _ H locs _ _ ⟨_, _, _, _, rfl, hw⟩ hP hS dX0_hold_53
  · have hw := hw.2 hc
    refine lv_iload_n hx hb dX0_hold_16 rfl (lv_at hl 3 rfl) ?_
    refine lv_iload hx hb dX0_hold_17 (lv_at hl 5 rfl) ?_
    refine lv_ishr hx hb dX0_hold_19 ?_
    refine lv_iconst (v := (1 : Int32)) hx hb dX0_hold_20 (by decide) ?_
    refine lv_iand hx hb dX0_hold_21 ?_
    refine lv_if_ne (tgt := 47) hx hb dX0_hold_22 (by decide) (fun hc => ?_) (fun hc => ?_)
    · have hw := hw.1 hc
      refine lv_iinc (v := (x5_6 + (1 : Int32))) (lv' := [(5, .int (x5_6 + (1 : Int32))), (0, .ref q0), (1, .ref q1), (2, .int a2), (3, .int a3), (4, .int a4)]) hx hb dX0_hold_47 hl (k := 5) rfl rfl (by decide) rfl (fun ls hl => ?_)
      refine lv_goto (tgt := 7) hx hb dX0_hold_50 (by decide) ?_
      exact hG7 _ _ _ _ _ H locs ls hw hP hS (lv_sub hl [1, 2, 3, 4, 5, 0] rfl)
    · have hw := hw.2 hc
      refine lv_aload_n hx hb dX0_hold_25 rfl (lv_at hl 0 rfl) ?_
      refine lv_aload_n hx hb dX0_hold_26 rfl (lv_at hl 1 rfl) ?_
      refine lv_iload hx hb dX0_hold_27 (lv_at hl 5 rfl) ?_
      refine lv_iload hx hb dX0_hold_29 (lv_at hl 4 rfl) ?_
      refine lv_iload hx hb dX0_hold_31 (lv_at hl 5 rfl) ?_
      refine lv_ishr hx hb dX0_hold_33 ?_
      refine lv_iconst (v := (1 : Int32)) hx hb dX0_hold_34 (by decide) ?_
      refine lv_iand hx hb dX0_hold_35 ?_
      refine jn_walk hw (fun J44 => ∀ (t_11 : Int32) (H : Heap) (locs : List Loc) (ls : Array Slot), J44 t_11 → va_P D vwCl [(q0, .inr (0, [.int zleft_7, .int zright_8, .int zleftDogs_9, .int zrightDogs_10])), (q1, .inr (8, [.int zp1_dogs, u0, .ref q2, .ref q3, .ref q4, u1])), (q2, .inl (ci, 7, .inl zp1_halves)), (q3, .inl (ci, 7, .inl zp1_likings)), (q4, .inl (ci, 7, .inl zp1_fears))] H → va_S A s.heap H locs → lv_has ls 6 [(0, .ref q0), (1, .ref q1), (2, .int a2), (3, .int a3), (4, .int a4), (5, .int x5_6)] → W p l e R s m args below meth c H locs 0 0 Q (F0 m 44 ls [.int t_11, .int x5_6, .ref q1, .ref q0])) ?_ ?_
      · intro t_11 H locs ls hw hP hS hl
        have hD : va_D A [(q0, .inr (0, [.int zleft_7, .int zright_8, .int zleftDogs_9, .int zrightDogs_10])), (q1, .inr (8, [.int zp1_dogs, u0, .ref q2, .ref q3, .ref q4, u1])), (q2, .inl (ci, 7, .inl zp1_halves)), (q3, .inl (ci, 7, .inl zp1_likings)), (q4, .inl (ci, 7, .inl zp1_fears))] := gD_re hD rfl
        refine gcallv (va_runV (As := [.ref q1, .int x5_6, .int t_11]) (rest := []) ⟨hx, hb, hml, hown, ht⟩ (c_X0_send l D ci cz tr q0 q1 q2 q3 q4 H.size u0 u1 zleft_7 zright_8 zleftDogs_9 zrightDogs_10 zp1_dogs zp1_halves zp1_likings zp1_fears x5_6 t_11 _ hw) (cwV 3 ht (gi_V mM_X0_32 mI_X0_send mS_X0_send mN_X0 mC_X0_send) rfl rfl rfl (by decide +kernel) ⟨Nat.le_trans (Nat.le_of_ble_eq_true rfl) hfr, Nat.le_trans (Nat.le_of_ble_eq_true rfl) hlc⟩) (gpreV (wc := [(q0, .inr (0, [.int zleft_7, .int zright_8, .int zleftDogs_9, .int zrightDogs_10])), (q1, .inr (8, [.int zp1_dogs, u0, .ref q2, .ref q3, .ref q4, u1])), (q2, .inl (ci, 7, .inl zp1_halves)), (q3, .inl (ci, 7, .inl zp1_likings)), (q4, .inl (ci, 7, .inl zp1_fears))]) (k := 0) (q0 := 0) hK hZ hP hD hS hA [0, 1, 2, 3, 4] rfl rfl rfl rfl rfl) rfl rfl hl.1 rfl (lv_room (Nat.le_of_ble_eq_true rfl)) dX0_hold_44 ⟨Nat.zero_le _, Nat.zero_le _⟩) hD hS hA [0, 1, 2, 3, 4] rfl (fun w9 H locs hw hP9 hk9 hS => ?_)
        obtain ⟨zleft_13, zright_14, zleftDogs_15, zrightDogs_16, rfl, hw⟩ := hw
        have hP : va_P D vwCl [(q0, .inr (0, [.int zleft_13, .int zright_14, .int zleftDogs_15, .int zrightDogs_16])), (q1, .inr (8, [.int zp1_dogs, u0, .ref q2, .ref q3, .ref q4, u1])), (q2, .inl (ci, 7, .inl zp1_halves)), (q3, .inl (ci, 7, .inl zp1_likings)), (q4, .inl (ci, 7, .inl zp1_fears))] H := gjoin3 hP hD [0, 1, 2, 3, 4] hP9 hk9 rfl rfl [some 0, some 1, some 2, some 3, some 4] rfl rfl
        have hD : va_D A [(q0, .inr (0, [.int zleft_13, .int zright_14, .int zleftDogs_15, .int zrightDogs_16])), (q1, .inr (8, [.int zp1_dogs, u0, .ref q2, .ref q3, .ref q4, u1])), (q2, .inl (ci, 7, .inl zp1_halves)), (q3, .inl (ci, 7, .inl zp1_likings)), (q4, .inl (ci, 7, .inl zp1_fears))] := gD_re hD rfl
        clear hP9 hk9
        refine lv_iinc (v := (x5_6 + (1 : Int32))) (lv' := [(5, .int (x5_6 + (1 : Int32))), (0, .ref q0), (1, .ref q1), (2, .int a2), (3, .int a3), (4, .int a4)]) hx hb dX0_hold_47 hl (k := 5) rfl rfl (by decide) rfl (fun ls hl => ?_)
        refine lv_goto (tgt := 7) hx hb dX0_hold_50 (by decide) ?_
        exact hG7 _ _ _ _ _ H locs ls hw hP hS (lv_sub hl [1, 2, 3, 4, 5, 0] rfl)
      · intro J44 hJ44 hw
        refine lv_if_ne (tgt := 43) hx hb dX0_hold_36 (by decide) (fun hc => ?_) (fun hc => ?_)
        · have hw := hw.1 hc
          refine lv_iconst (v := (0 : Int32)) hx hb dX0_hold_43 (by decide) ?_
          exact hJ44 _ H locs ls hw hP hS (lv_sub hl [0, 1, 2, 3, 4, 5] rfl)
        · have hw := hw.2 hc
          refine lv_iload_n hx hb dX0_hold_39 rfl (lv_at hl 2 rfl) ?_
          refine lv_goto (tgt := 44) hx hb dX0_hold_40 (by decide) ?_
          exact hJ44 _ H locs ls hw hP hS (lv_sub hl [0, 1, 2, 3, 4, 5] rfl)

def wp_X0_placeOf (zleftDogs : Int32) (zrightDogs : Int32) (a1 : Int32) (post : Int32 → Prop) : Prop :=
  ((¬ ((zleftDogs >>> (a1 &&& 31)) &&& (1 : Int32)) = (1 : Int32) → ((¬ ((zrightDogs >>> (a1 &&& 31)) &&& (1 : Int32)) = (1 : Int32) → post (2 : Int32) ) ∧ (((zrightDogs >>> (a1 &&& 31)) &&& (1 : Int32)) = (1 : Int32) → post (1 : Int32) ))) ∧ (((zleftDogs >>> (a1 &&& 31)) &&& (1 : Int32)) = (1 : Int32) → post (0 : Int32) ))
set_option maxHeartbeats 4000000 in
set_option maxRecDepth 100000 in
theorem c_X0_placeOf (l : Launch) (D : va_G) (ci cz : ClassId) (tr : List (ClassId × FieldType)) (q0 : Nat) (sz : Nat) (u0 u1 : Value) (zleftDogs : Int32) (zrightDogs : Int32) (a1 : Int32) (post : Int32 → Prop) (hw : wp_X0_placeOf zleftDogs zrightDogs a1 post) : gM l yX0_placeOf cX0_placeOf 2 (some .int) 0 0 D ci cz tr [(q0, .inr (0, [u0, u1, .int zleftDogs, .int zrightDogs]))] sz [.ref q0, .int a1] (gQi D [(q0, .inr (0, [u0, u1, .int zleftDogs, .int zrightDogs]))] sz (fun (r : Int32) w => w = [(q0, .inr (0, [u0, u1, .int zleftDogs, .int zrightDogs]))] ∧ post r )) := by
  refine gmet_i RX0 (by decide +kernel) rfl (Nat.le_of_ble_eq_true rfl) ?_
  intro p e s m args below meth c A R Q C hfr hlc hP hD hret ls hl
  obtain ⟨hx, hb, hml, hown, ht, hK, hZ, hA⟩ := C
  have hl : lv_has ls 2 [(0, .ref q0), (1, .int a1)] := hl
  unfold wp_X0_placeOf at hw
  refine g_in (fun H locs => W p l e R s m args below meth c H locs 0 0 Q (F0 m 0 ls [])) (fun H locs hS0 hP => ?_) hP (va_S.rf (A := A) (H0 := s.heap))
  have hS : va_S A s.heap H locs := hS0
  clear hS0
  refine lv_aload_n hx hb dX0_placeOf_0 rfl (lv_at hl 0 rfl) ?_
  refine va_get (D := D) (ci := 0) (v := .int zleftDogs) (C := RX0) (T := TX0) (N := 4) hx hb ht in_X0 hown hK.1 hP 0 rfl rfl 2 (by decide) (ht _ mF_X0_18) (fun _ h9 => h9) rfl dX0_placeOf_1 ?_
  refine lv_iload_n hx hb dX0_placeOf_4 rfl (lv_at hl 1 rfl) ?_
  refine lv_ishr hx hb dX0_placeOf_5 ?_
  refine lv_iconst (v := (1 : Int32)) hx hb dX0_placeOf_6 (by decide) ?_
  refine lv_iand hx hb dX0_placeOf_7 ?_
  refine lv_iconst (v := (1 : Int32)) hx hb dX0_placeOf_8 (by decide) ?_
  refine lv_icmp_ne (tgt := 14) hx hb dX0_placeOf_9 (by decide) (fun hc => ?_) (fun hc => ?_)
  · have hw := hw.1 hc
    refine lv_aload_n hx hb dX0_placeOf_14 rfl (lv_at hl 0 rfl) ?_
    refine va_get (D := D) (ci := 0) (v := .int zrightDogs) (C := RX0) (T := TX0) (N := 4) hx hb ht in_X0 hown hK.1 hP 0 rfl rfl 3 (by decide) (ht _ mF_X0_21) (fun _ h9 => h9) rfl dX0_placeOf_15 ?_
    refine lv_iload_n hx hb dX0_placeOf_18 rfl (lv_at hl 1 rfl) ?_
    refine lv_ishr hx hb dX0_placeOf_19 ?_
    refine lv_iconst (v := (1 : Int32)) hx hb dX0_placeOf_20 (by decide) ?_
    refine lv_iand hx hb dX0_placeOf_21 ?_
    refine lv_iconst (v := (1 : Int32)) hx hb dX0_placeOf_22 (by decide) ?_
    refine lv_icmp_ne (tgt := 30) hx hb dX0_placeOf_23 (by decide) (fun hc => ?_) (fun hc => ?_)
    · have hw := hw.1 hc
      refine lv_iconst (v := (2 : Int32)) hx hb dX0_placeOf_30 (by decide) ?_
      exact hret _ _ H locs _ _ ⟨rfl, hw⟩ hP hS dX0_placeOf_31
    · have hw := hw.2 hc
      refine lv_iconst (v := (1 : Int32)) hx hb dX0_placeOf_26 (by decide) ?_
      refine lv_goto (tgt := 31) hx hb dX0_placeOf_27 (by decide) ?_
      exact hret _ _ H locs _ _ ⟨rfl, hw⟩ hP hS dX0_placeOf_31
  · have hw := hw.2 hc
    refine lv_iconst (v := (0 : Int32)) hx hb dX0_placeOf_12 (by decide) ?_
    exact hret _ _ H locs _ _ ⟨rfl, hw⟩ hP hS dX0_placeOf_13

def wp_X0_winner (zleft : Int32) (zright : Int32)  (post : Int32 → Prop) : Prop :=
  ((¬ zleft = zright → ((zleft ≤ zright → post (1 : Int32) ) ∧ (¬ zleft ≤ zright → post (0 : Int32) ))) ∧ (zleft = zright → post (2 : Int32) ))
set_option maxHeartbeats 4000000 in
set_option maxRecDepth 100000 in
theorem c_X0_winner (l : Launch) (D : va_G) (ci cz : ClassId) (tr : List (ClassId × FieldType)) (q0 : Nat) (sz : Nat) (u0 u1 : Value) (zleft : Int32) (zright : Int32)  (post : Int32 → Prop) (hw : wp_X0_winner zleft zright post) : gM l yX0_winner cX0_winner 1 (some .int) 0 0 D ci cz tr [(q0, .inr (0, [.int zleft, .int zright, u0, u1]))] sz [.ref q0] (gQi D [(q0, .inr (0, [.int zleft, .int zright, u0, u1]))] sz (fun (r : Int32) w => w = [(q0, .inr (0, [.int zleft, .int zright, u0, u1]))] ∧ post r )) := by
  refine gmet_i RX0 (by decide +kernel) rfl (Nat.le_of_ble_eq_true rfl) ?_
  intro p e s m args below meth c A R Q C hfr hlc hP hD hret ls hl
  obtain ⟨hx, hb, hml, hown, ht, hK, hZ, hA⟩ := C
  have hl : lv_has ls 1 [(0, .ref q0)] := hl
  unfold wp_X0_winner at hw
  refine g_in (fun H locs => W p l e R s m args below meth c H locs 0 0 Q (F0 m 0 ls [])) (fun H locs hS0 hP => ?_) hP (va_S.rf (A := A) (H0 := s.heap))
  have hS : va_S A s.heap H locs := hS0
  clear hS0
  refine lv_aload_n hx hb dX0_winner_0 rfl (lv_at hl 0 rfl) ?_
  refine va_get (D := D) (ci := 0) (v := .int zleft) (C := RX0) (T := TX0) (N := 4) hx hb ht in_X0 hown hK.1 hP 0 rfl rfl 0 (by decide) (ht _ mF_X0_9) (fun _ h9 => h9) rfl dX0_winner_1 ?_
  refine lv_aload_n hx hb dX0_winner_4 rfl (lv_at hl 0 rfl) ?_
  refine va_get (D := D) (ci := 0) (v := .int zright) (C := RX0) (T := TX0) (N := 4) hx hb ht in_X0 hown hK.1 hP 0 rfl rfl 1 (by decide) (ht _ mF_X0_15) (fun _ h9 => h9) rfl dX0_winner_5 ?_
  refine lv_icmp_ne (tgt := 13) hx hb dX0_winner_8 (by decide) (fun hc => ?_) (fun hc => ?_)
  · have hw := hw.1 hc
    refine lv_aload_n hx hb dX0_winner_13 rfl (lv_at hl 0 rfl) ?_
    refine va_get (D := D) (ci := 0) (v := .int zleft) (C := RX0) (T := TX0) (N := 4) hx hb ht in_X0 hown hK.1 hP 0 rfl rfl 0 (by decide) (ht _ mF_X0_9) (fun _ h9 => h9) rfl dX0_winner_14 ?_
    refine lv_aload_n hx hb dX0_winner_17 rfl (lv_at hl 0 rfl) ?_
    refine va_get (D := D) (ci := 0) (v := .int zright) (C := RX0) (T := TX0) (N := 4) hx hb ht in_X0 hown hK.1 hP 0 rfl rfl 1 (by decide) (ht _ mF_X0_15) (fun _ h9 => h9) rfl dX0_winner_18 ?_
    refine lv_icmp_le (tgt := 28) hx hb dX0_winner_21 (by decide) (fun hc => ?_) (fun hc => ?_)
    · have hw := hw.1 hc
      refine lv_iconst (v := (1 : Int32)) hx hb dX0_winner_28 (by decide) ?_
      exact hret _ _ H locs _ _ ⟨rfl, hw⟩ hP hS dX0_winner_29
    · have hw := hw.2 hc
      refine lv_iconst (v := (0 : Int32)) hx hb dX0_winner_24 (by decide) ?_
      refine lv_goto (tgt := 29) hx hb dX0_winner_25 (by decide) ?_
      exact hret _ _ H locs _ _ ⟨rfl, hw⟩ hP hS dX0_winner_29
  · have hw := hw.2 hc
    refine lv_iconst (v := (2 : Int32)) hx hb dX0_winner_11 (by decide) ?_
    exact hret _ _ H locs _ _ ⟨rfl, hw⟩ hP hS dX0_winner_12

def wp_X10_add (zL : Nat) (zsize : Int32) (zlefts : Nat → Int32) (zrights : Nat → Int32) (znumbers : Nat → Int32) (a1 : Int32) (a2 : Int32) (a3 : Int32) (post : Int32 → Int32 → (Nat → Int32) → (Nat → Int32) → (Nat → Int32) → Prop) : Prop :=
  ((zsize < (nI zL) → (vp_in zsize zL ∧ (vp_in zsize zL ∧ (vp_in zsize zL ∧ post (1 : Int32) (zsize + (1 : Int32)) (upd zlefts (zsize).toNatClampNeg a1) (upd zrights (zsize).toNatClampNeg a2) (upd znumbers (zsize).toNatClampNeg a3))))) ∧ (¬ zsize < (nI zL) → post (0 : Int32) zsize zlefts zrights znumbers))
set_option maxHeartbeats 4000000 in
set_option maxRecDepth 100000 in
theorem c_X10_add (l : Launch) (D : va_G) (ci cz : ClassId) (tr : List (ClassId × FieldType)) (q0 q1 q2 q3 : Nat) (sz : Nat) (zL : Nat) (zsize : Int32) (zlefts : Nat → Int32) (zrights : Nat → Int32) (znumbers : Nat → Int32) (a1 : Int32) (a2 : Int32) (a3 : Int32) (post : Int32 → Int32 → (Nat → Int32) → (Nat → Int32) → (Nat → Int32) → Prop) (hw : wp_X10_add zL zsize zlefts zrights znumbers a1 a2 a3 post) : gM l yX10_add cX10_add 4 (some .boolean) 0 0 D ci cz tr [(q0, .inr (9, [.int zsize, .ref q1, .ref q2, .ref q3])), (q1, .inl (ci, zL, .inl zlefts)), (q2, .inl (ci, zL, .inl zrights)), (q3, .inl (ci, zL, .inl znumbers))] sz [.ref q0, .int a1, .int a2, .int a3] (gQi D [(q0, .inr (9, [.int zsize, .ref q1, .ref q2, .ref q3])), (q1, .inl (ci, zL, .inl zlefts)), (q2, .inl (ci, zL, .inl zrights)), (q3, .inl (ci, zL, .inl znumbers))] sz (fun (r : Int32) w => ∃ (o_zsize : Int32) (o_zlefts : Nat → Int32) (o_zrights : Nat → Int32) (o_znumbers : Nat → Int32), w = [(q0, .inr (9, [.int o_zsize, .ref q1, .ref q2, .ref q3])), (q1, .inl (ci, zL, .inl o_zlefts)), (q2, .inl (ci, zL, .inl o_zrights)), (q3, .inl (ci, zL, .inl o_znumbers))] ∧ post r o_zsize o_zlefts o_zrights o_znumbers)) := by
  refine gmet_z RX10 (by decide +kernel) rfl (Nat.le_of_ble_eq_true rfl) ?_
  intro p e s m args below meth c A R Q C hfr hlc hP hD hret ls hl
  obtain ⟨hx, hb, hml, hown, ht, hK, hZ, hA⟩ := C
  have hl : lv_has ls 4 [(0, .ref q0), (1, .int a1), (2, .int a2), (3, .int a3)] := hl
  unfold wp_X10_add at hw
  refine g_in (fun H locs => W p l e R s m args below meth c H locs 0 0 Q (F0 m 0 ls [])) (fun H locs hS0 hP => ?_) hP (va_S.rf (A := A) (H0 := s.heap))
  have hS : va_S A s.heap H locs := hS0
  clear hS0
  refine lv_aload_n hx hb dX10_add_0 rfl (lv_at hl 0 rfl) ?_
  refine va_get (D := D) (ci := 9) (v := .int zsize) (C := RX10) (T := TX10) (N := 4) hx hb ht in_X10 hown hK.1 hP 0 rfl rfl 0 (by decide) (ht _ mF_X10_25) (fun _ h9 => h9) rfl dX10_add_1 ?_
  refine lv_aload_n hx hb dX10_add_4 rfl (lv_at hl 0 rfl) ?_
  refine va_get (D := D) (ci := 9) (v := .ref q3) (C := RX10) (T := TX10) (N := 4) hx hb ht in_X10 hown hK.1 hP 0 rfl rfl 3 (by decide) (ht _ mF_X10_22) (fun _ h9 => h9) rfl dX10_add_5 ?_
  refine va_alen (D := D) (v := (nI zL)) hx hb hK.1 hP 3 0 rfl rfl rfl dX10_add_8 ?_
  refine lv_icmp_lt (tgt := 14) hx hb dX10_add_9 (by decide) (fun hc => ?_) (fun hc => ?_)
  · have hw := hw.1 hc
    refine lv_aload_n hx hb dX10_add_14 rfl (lv_at hl 0 rfl) ?_
    refine va_get (D := D) (ci := 9) (v := .ref q1) (C := RX10) (T := TX10) (N := 4) hx hb ht in_X10 hown hK.1 hP 0 rfl rfl 1 (by decide) (ht _ mF_X10_13) (fun _ h9 => h9) rfl dX10_add_15 ?_
    refine lv_aload_n hx hb dX10_add_18 rfl (lv_at hl 0 rfl) ?_
    refine va_get (D := D) (ci := 9) (v := .int zsize) (C := RX10) (T := TX10) (N := 4) hx hb ht in_X10 hown hK.1 hP 0 rfl rfl 0 (by decide) (ht _ mF_X10_25) (fun _ h9 => h9) rfl dX10_add_19 ?_
    refine lv_iload_n hx hb dX10_add_22 rfl (lv_at hl 1 rfl) ?_
    obtain ⟨hin, hw⟩ := hw
    refine va_iast (D := D) hx hb hK.1 hP hD hS 1 0 rfl rfl hin dX10_add_23 (fun H locs hP hD hS => ?_)
    have hP : va_P D vwCl [(q0, .inr (9, [.int zsize, .ref q1, .ref q2, .ref q3])), (q1, .inl (ci, zL, .inl (upd zlefts (zsize).toNatClampNeg a1))), (q2, .inl (ci, zL, .inl zrights)), (q3, .inl (ci, zL, .inl znumbers))] H := hP
    have hD : va_D A [(q0, .inr (9, [.int zsize, .ref q1, .ref q2, .ref q3])), (q1, .inl (ci, zL, .inl (upd zlefts (zsize).toNatClampNeg a1))), (q2, .inl (ci, zL, .inl zrights)), (q3, .inl (ci, zL, .inl znumbers))] := hD
    refine lv_aload_n hx hb dX10_add_24 rfl (lv_at hl 0 rfl) ?_
    refine va_get (D := D) (ci := 9) (v := .ref q2) (C := RX10) (T := TX10) (N := 4) hx hb ht in_X10 hown hK.1 hP 0 rfl rfl 2 (by decide) (ht _ mF_X10_19) (fun _ h9 => h9) rfl dX10_add_25 ?_
    refine lv_aload_n hx hb dX10_add_28 rfl (lv_at hl 0 rfl) ?_
    refine va_get (D := D) (ci := 9) (v := .int zsize) (C := RX10) (T := TX10) (N := 4) hx hb ht in_X10 hown hK.1 hP 0 rfl rfl 0 (by decide) (ht _ mF_X10_25) (fun _ h9 => h9) rfl dX10_add_29 ?_
    refine lv_iload_n hx hb dX10_add_32 rfl (lv_at hl 2 rfl) ?_
    obtain ⟨hin, hw⟩ := hw
    refine va_iast (D := D) hx hb hK.1 hP hD hS 2 0 rfl rfl hin dX10_add_33 (fun H locs hP hD hS => ?_)
    have hP : va_P D vwCl [(q0, .inr (9, [.int zsize, .ref q1, .ref q2, .ref q3])), (q1, .inl (ci, zL, .inl (upd zlefts (zsize).toNatClampNeg a1))), (q2, .inl (ci, zL, .inl (upd zrights (zsize).toNatClampNeg a2))), (q3, .inl (ci, zL, .inl znumbers))] H := hP
    have hD : va_D A [(q0, .inr (9, [.int zsize, .ref q1, .ref q2, .ref q3])), (q1, .inl (ci, zL, .inl (upd zlefts (zsize).toNatClampNeg a1))), (q2, .inl (ci, zL, .inl (upd zrights (zsize).toNatClampNeg a2))), (q3, .inl (ci, zL, .inl znumbers))] := hD
    refine lv_aload_n hx hb dX10_add_34 rfl (lv_at hl 0 rfl) ?_
    refine va_get (D := D) (ci := 9) (v := .ref q3) (C := RX10) (T := TX10) (N := 4) hx hb ht in_X10 hown hK.1 hP 0 rfl rfl 3 (by decide) (ht _ mF_X10_22) (fun _ h9 => h9) rfl dX10_add_35 ?_
    refine lv_aload_n hx hb dX10_add_38 rfl (lv_at hl 0 rfl) ?_
    refine va_get (D := D) (ci := 9) (v := .int zsize) (C := RX10) (T := TX10) (N := 4) hx hb ht in_X10 hown hK.1 hP 0 rfl rfl 0 (by decide) (ht _ mF_X10_25) (fun _ h9 => h9) rfl dX10_add_39 ?_
    refine lv_iload_n hx hb dX10_add_42 rfl (lv_at hl 3 rfl) ?_
    obtain ⟨hin, hw⟩ := hw
    refine va_iast (D := D) hx hb hK.1 hP hD hS 3 0 rfl rfl hin dX10_add_43 (fun H locs hP hD hS => ?_)
    have hP : va_P D vwCl [(q0, .inr (9, [.int zsize, .ref q1, .ref q2, .ref q3])), (q1, .inl (ci, zL, .inl (upd zlefts (zsize).toNatClampNeg a1))), (q2, .inl (ci, zL, .inl (upd zrights (zsize).toNatClampNeg a2))), (q3, .inl (ci, zL, .inl (upd znumbers (zsize).toNatClampNeg a3)))] H := hP
    have hD : va_D A [(q0, .inr (9, [.int zsize, .ref q1, .ref q2, .ref q3])), (q1, .inl (ci, zL, .inl (upd zlefts (zsize).toNatClampNeg a1))), (q2, .inl (ci, zL, .inl (upd zrights (zsize).toNatClampNeg a2))), (q3, .inl (ci, zL, .inl (upd znumbers (zsize).toNatClampNeg a3)))] := hD
    refine lv_aload_n hx hb dX10_add_44 rfl (lv_at hl 0 rfl) ?_
    refine lv_dup hx hb dX10_add_45 rfl ?_
    refine va_get (D := D) (ci := 9) (v := .int zsize) (C := RX10) (T := TX10) (N := 4) hx hb ht in_X10 hown hK.1 hP 0 rfl rfl 0 (by decide) (ht _ mF_X10_25) (fun _ h9 => h9) rfl dX10_add_46 ?_
    refine lv_iconst (v := (1 : Int32)) hx hb dX10_add_49 (by decide) ?_
    refine lv_iadd hx hb dX10_add_50 ?_
    refine va_put (D := D) (ci := 9) (v := .int (zsize + (1 : Int32))) (ty := .int) (C := RX10) (T := TX10) (N := 4) hx hb ht in_X10 tyX10 tyX10_ok nmX10 hown hK.1 hP hD hS 0 rfl rfl 0 (by decide) (ht _ mF_X10_25) (fun _ h9 => h9) rfl (by decide +kernel) rfl rfl (Nat.le_of_ble_eq_true rfl) dX10_add_51 (fun H locs hP hD hS => ?_)
    have hP : va_P D vwCl [(q0, .inr (9, [.int (zsize + (1 : Int32)), .ref q1, .ref q2, .ref q3])), (q1, .inl (ci, zL, .inl (upd zlefts (zsize).toNatClampNeg a1))), (q2, .inl (ci, zL, .inl (upd zrights (zsize).toNatClampNeg a2))), (q3, .inl (ci, zL, .inl (upd znumbers (zsize).toNatClampNeg a3)))] H := hP
    have hD : va_D A [(q0, .inr (9, [.int (zsize + (1 : Int32)), .ref q1, .ref q2, .ref q3])), (q1, .inl (ci, zL, .inl (upd zlefts (zsize).toNatClampNeg a1))), (q2, .inl (ci, zL, .inl (upd zrights (zsize).toNatClampNeg a2))), (q3, .inl (ci, zL, .inl (upd znumbers (zsize).toNatClampNeg a3)))] := hD
    refine lv_iconst (v := (1 : Int32)) hx hb dX10_add_54 (by decide) ?_
    exact hret _ _ H locs _ _ (by decide) ⟨_, _, _, _, rfl, hw⟩ hP hS dX10_add_55
  · have hw := hw.2 hc
    refine lv_iconst (v := (0 : Int32)) hx hb dX10_add_12 (by decide) ?_
    exact hret _ _ H locs _ _ (by decide) ⟨_, _, _, _, rfl, hw⟩ hP hS dX10_add_13

def wp_X10_copyFrom (zL : Nat) (zsize : Int32) (zlefts : Nat → Int32) (zrights : Nat → Int32) (znumbers : Nat → Int32) (zp1_size : Int32) (zp1_lefts : Nat → Int32) (zp1_rights : Nat → Int32) (zp1_numbers : Nat → Int32)  (post : Int32 → (Nat → Int32) → (Nat → Int32) → (Nat → Int32) → Prop) : Prop :=
  lo (fun _ _ _ _ _ => False) (fun (G7 : Int32 → Int32 → (Nat → Int32) → (Nat → Int32) → (Nat → Int32) → Prop) (x2_1 : Int32) (zsize_2 : Int32) (zlefts_3 : Nat → Int32) (zrights_4 : Nat → Int32) (znumbers_5 : Nat → Int32) => ((zp1_size ≤ x2_1 → post zsize_2 zlefts_3 zrights_4 znumbers_5) ∧ (¬ zp1_size ≤ x2_1 → (vp_in x2_1 zL ∧ (vp_in x2_1 zL ∧ (vp_in x2_1 zL ∧ wp_X10_add zL zsize_2 zlefts_3 zrights_4 znumbers_5 (zp1_lefts (x2_1).toNatClampNeg) (zp1_rights (x2_1).toNatClampNeg) (zp1_numbers (x2_1).toNatClampNeg) (fun (r_6 : Int32) (zsize_7 : Int32) (zlefts_8 : Nat → Int32) (zrights_9 : Nat → Int32) (znumbers_10 : Nat → Int32) => G7 (x2_1 + (1 : Int32)) zsize_7 zlefts_8 zrights_9 znumbers_10))))))) (fun G7 => G7 (0 : Int32) (0 : Int32) zlefts zrights znumbers)
set_option maxHeartbeats 4000000 in
set_option maxRecDepth 100000 in
theorem c_X10_copyFrom (l : Launch) (D : va_G) (ci cz : ClassId) (tr : List (ClassId × FieldType)) (q0 q1 q2 q3 q4 q5 q6 q7 : Nat) (sz : Nat) (zL : Nat) (zsize : Int32) (zlefts : Nat → Int32) (zrights : Nat → Int32) (znumbers : Nat → Int32) (zp1_size : Int32) (zp1_lefts : Nat → Int32) (zp1_rights : Nat → Int32) (zp1_numbers : Nat → Int32)  (post : Int32 → (Nat → Int32) → (Nat → Int32) → (Nat → Int32) → Prop) (hw : wp_X10_copyFrom zL zsize zlefts zrights znumbers zp1_size zp1_lefts zp1_rights zp1_numbers post) : gM l yX10_copyFrom cX10_copyFrom 3 none 1 23 D ci cz tr [(q0, .inr (9, [.int zsize, .ref q1, .ref q2, .ref q3])), (q1, .inl (ci, zL, .inl zlefts)), (q2, .inl (ci, zL, .inl zrights)), (q3, .inl (ci, zL, .inl znumbers)), (q4, .inr (9, [.int zp1_size, .ref q5, .ref q6, .ref q7])), (q5, .inl (ci, zL, .inl zp1_lefts)), (q6, .inl (ci, zL, .inl zp1_rights)), (q7, .inl (ci, zL, .inl zp1_numbers))] sz [.ref q0, .ref q4] (gQv D [(q0, .inr (9, [.int zsize, .ref q1, .ref q2, .ref q3])), (q1, .inl (ci, zL, .inl zlefts)), (q2, .inl (ci, zL, .inl zrights)), (q3, .inl (ci, zL, .inl znumbers)), (q4, .inr (9, [.int zp1_size, .ref q5, .ref q6, .ref q7])), (q5, .inl (ci, zL, .inl zp1_lefts)), (q6, .inl (ci, zL, .inl zp1_rights)), (q7, .inl (ci, zL, .inl zp1_numbers))] sz (fun w => ∃ (o_zsize : Int32) (o_zlefts : Nat → Int32) (o_zrights : Nat → Int32) (o_znumbers : Nat → Int32), w = [(q0, .inr (9, [.int o_zsize, .ref q1, .ref q2, .ref q3])), (q1, .inl (ci, zL, .inl o_zlefts)), (q2, .inl (ci, zL, .inl o_zrights)), (q3, .inl (ci, zL, .inl o_znumbers)), (q4, .inr (9, [.int zp1_size, .ref q5, .ref q6, .ref q7])), (q5, .inl (ci, zL, .inl zp1_lefts)), (q6, .inl (ci, zL, .inl zp1_rights)), (q7, .inl (ci, zL, .inl zp1_numbers))] ∧ post o_zsize o_zlefts o_zrights o_znumbers)) := by
  refine gmet_v RX10 (by decide +kernel) rfl (Nat.le_of_ble_eq_true rfl) ?_
  intro p e s m args below meth c A R Q C hfr hlc hP hD hret ls hl
  obtain ⟨hx, hb, hml, hown, ht, hK, hZ, hA⟩ := C
  have hl : lv_has ls 3 [(0, .ref q0), (1, .ref q4)] := hl
  unfold wp_X10_copyFrom at hw
  refine g_in (fun H locs => W p l e R s m args below meth c H locs 0 0 Q (F0 m 0 ls [])) (fun H locs hS0 hP => ?_) hP (va_S.rf (A := A) (H0 := s.heap))
  have hS : va_S A s.heap H locs := hS0
  clear hS0
  refine lv_aload_n hx hb dX10_copyFrom_0 rfl (lv_at hl 0 rfl) ?_
  refine lv_iconst (v := (0 : Int32)) hx hb dX10_copyFrom_1 (by decide) ?_
  refine va_put (D := D) (ci := 9) (v := .int (0 : Int32)) (ty := .int) (C := RX10) (T := TX10) (N := 4) hx hb ht in_X10 tyX10 tyX10_ok nmX10 hown hK.1 hP hD hS 0 rfl rfl 0 (by decide) (ht _ mF_X10_25) (fun _ h9 => h9) rfl (by decide +kernel) rfl rfl (Nat.le_of_ble_eq_true rfl) dX10_copyFrom_2 (fun H locs hP hD hS => ?_)
  have hP : va_P D vwCl [(q0, .inr (9, [.int (0 : Int32), .ref q1, .ref q2, .ref q3])), (q1, .inl (ci, zL, .inl zlefts)), (q2, .inl (ci, zL, .inl zrights)), (q3, .inl (ci, zL, .inl znumbers)), (q4, .inr (9, [.int zp1_size, .ref q5, .ref q6, .ref q7])), (q5, .inl (ci, zL, .inl zp1_lefts)), (q6, .inl (ci, zL, .inl zp1_rights)), (q7, .inl (ci, zL, .inl zp1_numbers))] H := hP
  have hD : va_D A [(q0, .inr (9, [.int (0 : Int32), .ref q1, .ref q2, .ref q3])), (q1, .inl (ci, zL, .inl zlefts)), (q2, .inl (ci, zL, .inl zrights)), (q3, .inl (ci, zL, .inl znumbers)), (q4, .inr (9, [.int zp1_size, .ref q5, .ref q6, .ref q7])), (q5, .inl (ci, zL, .inl zp1_lefts)), (q6, .inl (ci, zL, .inl zp1_rights)), (q7, .inl (ci, zL, .inl zp1_numbers))] := hD
  refine lv_iconst (v := (0 : Int32)) hx hb dX10_copyFrom_5 (by decide) ?_
  refine lv_istore_n (lv' := [(2, .int (0 : Int32)), (0, .ref q0), (1, .ref q4)]) hx hb dX10_copyFrom_6 rfl hl (by decide) rfl (fun ls hl => ?_)
  refine lo_walk hw (fun G7 => ∀ (x2_1 : Int32) (zsize_2 : Int32) (zlefts_3 : Nat → Int32) (zrights_4 : Nat → Int32) (znumbers_5 : Nat → Int32) (H : Heap) (locs : List Loc) (ls : Array Slot), G7 x2_1 zsize_2 zlefts_3 zrights_4 znumbers_5 → va_P D vwCl [(q0, .inr (9, [.int zsize_2, .ref q1, .ref q2, .ref q3])), (q1, .inl (ci, zL, .inl zlefts_3)), (q2, .inl (ci, zL, .inl zrights_4)), (q3, .inl (ci, zL, .inl znumbers_5)), (q4, .inr (9, [.int zp1_size, .ref q5, .ref q6, .ref q7])), (q5, .inl (ci, zL, .inl zp1_lefts)), (q6, .inl (ci, zL, .inl zp1_rights)), (q7, .inl (ci, zL, .inl zp1_numbers))] H → va_S A s.heap H locs → lv_has ls 3 [(0, .ref q0), (1, .ref q4), (2, .int x2_1)] → W p l e R s m args below meth c H locs 0 0 Q (F0 m 7 ls [])) (fun _ _ _ _ _ _ _ _ hw _ _ _ => False.elim hw) (fun G7 hG7 x2_1 zsize_2 zlefts_3 zrights_4 znumbers_5 H locs ls hw hP hS hl => ?_) (fun G7 hG7 hw => hG7 _ _ _ _ _ H locs ls hw hP hS (lv_sub hl [1, 2, 0] rfl))
  have hD : va_D A [(q0, .inr (9, [.int zsize_2, .ref q1, .ref q2, .ref q3])), (q1, .inl (ci, zL, .inl zlefts_3)), (q2, .inl (ci, zL, .inl zrights_4)), (q3, .inl (ci, zL, .inl znumbers_5)), (q4, .inr (9, [.int zp1_size, .ref q5, .ref q6, .ref q7])), (q5, .inl (ci, zL, .inl zp1_lefts)), (q6, .inl (ci, zL, .inl zp1_rights)), (q7, .inl (ci, zL, .inl zp1_numbers))] := gD_re hD rfl
  refine lv_iload_n hx hb dX10_copyFrom_7 rfl (lv_at hl 2 rfl) ?_
  refine lv_aload_n hx hb dX10_copyFrom_8 rfl (lv_at hl 1 rfl) ?_
  refine va_get (D := D) (ci := 9) (v := .int zp1_size) (C := RX10) (T := TX10) (N := 4) hx hb ht in_X10 hown hK.1 hP 4 rfl rfl 0 (by decide) (ht _ mF_X10_25) (fun _ h9 => h9) rfl dX10_copyFrom_9 ?_
  refine lv_icmp_ge (tgt := 44) hx hb dX10_copyFrom_12 (by decide) (fun hc => ?_) (fun hc => ?_)
  · have hw := hw.1 hc
    exact hret _ H locs _ _ ⟨_, _, _, _, rfl, hw⟩ hP hS dX10_copyFrom_44
  · have hw := hw.2 hc
    refine lv_aload_n hx hb dX10_copyFrom_15 rfl (lv_at hl 0 rfl) ?_
    refine lv_aload_n hx hb dX10_copyFrom_16 rfl (lv_at hl 1 rfl) ?_
    refine va_get (D := D) (ci := 9) (v := .ref q5) (C := RX10) (T := TX10) (N := 4) hx hb ht in_X10 hown hK.1 hP 4 rfl rfl 1 (by decide) (ht _ mF_X10_13) (fun _ h9 => h9) rfl dX10_copyFrom_17 ?_
    refine lv_iload_n hx hb dX10_copyFrom_20 rfl (lv_at hl 2 rfl) ?_
    obtain ⟨hin, hw⟩ := hw
    refine va_iald (D := D) hx hb hK.1 hP 5 0 rfl rfl hin dX10_copyFrom_21 ?_
    refine lv_aload_n hx hb dX10_copyFrom_22 rfl (lv_at hl 1 rfl) ?_
    refine va_get (D := D) (ci := 9) (v := .ref q6) (C := RX10) (T := TX10) (N := 4) hx hb ht in_X10 hown hK.1 hP 4 rfl rfl 2 (by decide) (ht _ mF_X10_19) (fun _ h9 => h9) rfl dX10_copyFrom_23 ?_
    refine lv_iload_n hx hb dX10_copyFrom_26 rfl (lv_at hl 2 rfl) ?_
    obtain ⟨hin, hw⟩ := hw
    refine va_iald (D := D) hx hb hK.1 hP 6 0 rfl rfl hin dX10_copyFrom_27 ?_
    refine lv_aload_n hx hb dX10_copyFrom_28 rfl (lv_at hl 1 rfl) ?_
    refine va_get (D := D) (ci := 9) (v := .ref q7) (C := RX10) (T := TX10) (N := 4) hx hb ht in_X10 hown hK.1 hP 4 rfl rfl 3 (by decide) (ht _ mF_X10_22) (fun _ h9 => h9) rfl dX10_copyFrom_29 ?_
    refine lv_iload_n hx hb dX10_copyFrom_32 rfl (lv_at hl 2 rfl) ?_
    obtain ⟨hin, hw⟩ := hw
    refine va_iald (D := D) hx hb hK.1 hP 7 0 rfl rfl hin dX10_copyFrom_33 ?_
    refine gcalli (va_runV (As := [.int (zp1_lefts (x2_1).toNatClampNeg), .int (zp1_rights (x2_1).toNatClampNeg), .int (zp1_numbers (x2_1).toNatClampNeg)]) (rest := []) ⟨hx, hb, hml, hown, ht⟩ (c_X10_add l D ci cz tr q0 q1 q2 q3 H.size zL zsize_2 zlefts_3 zrights_4 znumbers_5 (zp1_lefts (x2_1).toNatClampNeg) (zp1_rights (x2_1).toNatClampNeg) (zp1_numbers (x2_1).toNatClampNeg) _ hw) (cwV 3 ht (gi_V mM_X10_29 mI_X10_add mS_X10_add mN_X10 mC_X10_add) rfl rfl rfl (by decide +kernel) ⟨Nat.le_trans (Nat.le_of_ble_eq_true rfl) hfr, Nat.le_trans (Nat.le_of_ble_eq_true rfl) hlc⟩) (gpreV (wc := [(q0, .inr (9, [.int zsize_2, .ref q1, .ref q2, .ref q3])), (q1, .inl (ci, zL, .inl zlefts_3)), (q2, .inl (ci, zL, .inl zrights_4)), (q3, .inl (ci, zL, .inl znumbers_5))]) (k := 9) (q0 := 0) hK hZ hP hD hS hA [0, 1, 2, 3] rfl rfl rfl rfl rfl) rfl rfl hl.1 rfl (lv_room (Nat.le_of_ble_eq_true rfl)) dX10_copyFrom_34 ⟨Nat.zero_le _, Nat.zero_le _⟩) hD hS hA [0, 1, 2, 3] rfl (fun r_6 w9 H locs hw hP9 hk9 hS => ?_)
    obtain ⟨zsize_7, zlefts_8, zrights_9, znumbers_10, rfl, hw⟩ := hw
    have hP : va_P D vwCl [(q0, .inr (9, [.int zsize_7, .ref q1, .ref q2, .ref q3])), (q1, .inl (ci, zL, .inl zlefts_8)), (q2, .inl (ci, zL, .inl zrights_9)), (q3, .inl (ci, zL, .inl znumbers_10)), (q4, .inr (9, [.int zp1_size, .ref q5, .ref q6, .ref q7])), (q5, .inl (ci, zL, .inl zp1_lefts)), (q6, .inl (ci, zL, .inl zp1_rights)), (q7, .inl (ci, zL, .inl zp1_numbers))] H := gjoin3 hP hD [0, 1, 2, 3] hP9 hk9 rfl rfl [some 0, some 1, some 2, some 3, none, none, none, none] rfl rfl
    have hD : va_D A [(q0, .inr (9, [.int zsize_7, .ref q1, .ref q2, .ref q3])), (q1, .inl (ci, zL, .inl zlefts_8)), (q2, .inl (ci, zL, .inl zrights_9)), (q3, .inl (ci, zL, .inl znumbers_10)), (q4, .inr (9, [.int zp1_size, .ref q5, .ref q6, .ref q7])), (q5, .inl (ci, zL, .inl zp1_lefts)), (q6, .inl (ci, zL, .inl zp1_rights)), (q7, .inl (ci, zL, .inl zp1_numbers))] := gD_re hD rfl
    clear hP9 hk9
    refine lv_pop hx hb dX10_copyFrom_37 rfl ?_
    refine lv_iinc (v := (x2_1 + (1 : Int32))) (lv' := [(2, .int (x2_1 + (1 : Int32))), (0, .ref q0), (1, .ref q4)]) hx hb dX10_copyFrom_38 hl (k := 2) rfl rfl (by decide) rfl (fun ls hl => ?_)
    refine lv_goto (tgt := 7) hx hb dX10_copyFrom_41 (by decide) ?_
    exact hG7 _ _ _ _ _ H locs ls hw hP hS (lv_sub hl [1, 2, 0] rfl)

def wp_X11_isWithin  (a0 : Int32) (a1 : Int32) (post : Int32 → Prop) : Prop :=
  ((a0 < 0 → post (0 : Int32) ) ∧ (¬ a0 < 0 → ((a1 < a0 → post (0 : Int32) ) ∧ (¬ a1 < a0 → post (1 : Int32) ))))
set_option maxHeartbeats 4000000 in
set_option maxRecDepth 100000 in
theorem c_X11_isWithin (l : Launch) (D : va_G) (ci cz : ClassId) (tr : List (ClassId × FieldType)) (sz : Nat)  (a0 : Int32) (a1 : Int32) (post : Int32 → Prop) (hw : wp_X11_isWithin a0 a1 post) : gM l yX11_isWithin cX11_isWithin 2 (some .boolean) 0 0 D ci cz tr [] sz [.int a0, .int a1] (gQi D [] sz (fun (r : Int32) w => w = [] ∧ post r )) := by
  refine gmet_z RX11 (by decide +kernel) rfl (Nat.le_of_ble_eq_true rfl) ?_
  intro p e s m args below meth c A R Q C hfr hlc hP hD hret ls hl
  obtain ⟨hx, hb, hml, hown, ht, hK, hZ, hA⟩ := C
  have hl : lv_has ls 2 [(0, .int a0), (1, .int a1)] := hl
  unfold wp_X11_isWithin at hw
  refine g_in (fun H locs => W p l e R s m args below meth c H locs 0 0 Q (F0 m 0 ls [])) (fun H locs hS0 hP => ?_) hP (va_S.rf (A := A) (H0 := s.heap))
  have hS : va_S A s.heap H locs := hS0
  clear hS0
  refine lv_iload_n hx hb dX11_isWithin_0 rfl (lv_at hl 0 rfl) ?_
  refine lv_if_lt (tgt := 13) hx hb dX11_isWithin_1 (by decide) (fun hc => ?_) (fun hc => ?_)
  · have hw := hw.1 hc
    refine lv_iconst (v := (0 : Int32)) hx hb dX11_isWithin_13 (by decide) ?_
    exact hret _ _ H locs _ _ (by decide) ⟨rfl, hw⟩ hP hS dX11_isWithin_14
  · have hw := hw.2 hc
    refine lv_iload_n hx hb dX11_isWithin_4 rfl (lv_at hl 0 rfl) ?_
    refine lv_iload_n hx hb dX11_isWithin_5 rfl (lv_at hl 1 rfl) ?_
    refine lv_icmp_gt (tgt := 13) hx hb dX11_isWithin_6 (by decide) (fun hc => ?_) (fun hc => ?_)
    · have hw := hw.1 hc
      refine lv_iconst (v := (0 : Int32)) hx hb dX11_isWithin_13 (by decide) ?_
      exact hret _ _ H locs _ _ (by decide) ⟨rfl, hw⟩ hP hS dX11_isWithin_14
    · have hw := hw.2 hc
      refine lv_iconst (v := (1 : Int32)) hx hb dX11_isWithin_9 (by decide) ?_
      refine lv_goto (tgt := 14) hx hb dX11_isWithin_10 (by decide) ?_
      exact hret _ _ H locs _ _ (by decide) ⟨rfl, hw⟩ hP hS dX11_isWithin_14

def wp_X11_areLivers  (a0 : Int32) (a1 : Int32) (post : Int32 → Prop) : Prop :=
  wp_X11_isWithin a0 (20 : Int32) (fun (r_1 : Int32) => ((r_1 = 0 → post (0 : Int32) ) ∧ (¬ r_1 = 0 → wp_X11_isWithin a1 (20 : Int32) (fun (r_2 : Int32) => ((r_2 = 0 → post (0 : Int32) ) ∧ (¬ r_2 = 0 → post (1 : Int32) ))))))
set_option maxHeartbeats 4000000 in
set_option maxRecDepth 100000 in
theorem c_X11_areLivers (l : Launch) (D : va_G) (ci cz : ClassId) (tr : List (ClassId × FieldType)) (sz : Nat)  (a0 : Int32) (a1 : Int32) (post : Int32 → Prop) (hw : wp_X11_areLivers a0 a1 post) : gM l yX11_areLivers cX11_areLivers 2 (some .boolean) 1 21 D ci cz tr [] sz [.int a0, .int a1] (gQi D [] sz (fun (r : Int32) w => w = [] ∧ post r )) := by
  refine gmet_z RX11 (by decide +kernel) rfl (Nat.le_of_ble_eq_true rfl) ?_
  intro p e s m args below meth c A R Q C hfr hlc hP hD hret ls hl
  obtain ⟨hx, hb, hml, hown, ht, hK, hZ, hA⟩ := C
  have hl : lv_has ls 2 [(0, .int a0), (1, .int a1)] := hl
  unfold wp_X11_areLivers at hw
  refine g_in (fun H locs => W p l e R s m args below meth c H locs 0 0 Q (F0 m 0 ls [])) (fun H locs hS0 hP => ?_) hP (va_S.rf (A := A) (H0 := s.heap))
  have hS : va_S A s.heap H locs := hS0
  clear hS0
  refine lv_iload_n hx hb dX11_areLivers_0 rfl (lv_at hl 0 rfl) ?_
  refine lv_bipush (v := (20 : Int32)) hx hb dX11_areLivers_1 (by decide) ?_
  refine gcalli (va_runS (As := [.int a0, .int (20 : Int32)]) (rest := []) ⟨hx, hb, hml, hown, ht⟩ (c_X11_isWithin l D ci cz tr  H.size a0 (20 : Int32) _ hw) (va_cwS 2 ht (gi_S mM_X11_140 mT_X11_isWithin mN_X11 mC_X11_isWithin) rfl rfl rfl (by decide +kernel) ⟨Nat.le_trans (Nat.le_of_ble_eq_true rfl) hfr, Nat.le_trans (Nat.le_of_ble_eq_true rfl) hlc⟩) (gpre (wc := []) hK hZ hP hD hS hA [] rfl rfl) rfl rfl hl.1 rfl (lv_room (Nat.le_of_ble_eq_true rfl)) dX11_areLivers_3 ⟨Nat.zero_le _, Nat.zero_le _⟩) hD hS hA [] rfl (fun r_1 w9 H locs hw hP9 hk9 hS => ?_)
  obtain ⟨rfl, hw⟩ := hw
  have hP : va_P D vwCl [] H := gjoin3 hP hD [] hP9 hk9 rfl rfl [] rfl rfl
  clear hP9 hk9
  refine lv_if_eq (tgt := 22) hx hb dX11_areLivers_6 (by decide) (fun hc => ?_) (fun hc => ?_)
  · have hw := hw.1 hc
    refine lv_iconst (v := (0 : Int32)) hx hb dX11_areLivers_22 (by decide) ?_
    exact hret _ _ H locs _ _ (by decide) ⟨rfl, hw⟩ hP hS dX11_areLivers_23
  · have hw := hw.2 hc
    refine lv_iload_n hx hb dX11_areLivers_9 rfl (lv_at hl 1 rfl) ?_
    refine lv_bipush (v := (20 : Int32)) hx hb dX11_areLivers_10 (by decide) ?_
    refine gcalli (va_runS (As := [.int a1, .int (20 : Int32)]) (rest := []) ⟨hx, hb, hml, hown, ht⟩ (c_X11_isWithin l D ci cz tr  H.size a1 (20 : Int32) _ hw) (va_cwS 2 ht (gi_S mM_X11_140 mT_X11_isWithin mN_X11 mC_X11_isWithin) rfl rfl rfl (by decide +kernel) ⟨Nat.le_trans (Nat.le_of_ble_eq_true rfl) hfr, Nat.le_trans (Nat.le_of_ble_eq_true rfl) hlc⟩) (gpre (wc := []) hK hZ hP hD hS hA [] rfl rfl) rfl rfl hl.1 rfl (lv_room (Nat.le_of_ble_eq_true rfl)) dX11_areLivers_12 ⟨Nat.zero_le _, Nat.zero_le _⟩) hD hS hA [] rfl (fun r_2 w9 H locs hw hP9 hk9 hS => ?_)
    obtain ⟨rfl, hw⟩ := hw
    have hP : va_P D vwCl [] H := gjoin3 hP hD [] hP9 hk9 rfl rfl [] rfl rfl
    clear hP9 hk9
    refine lv_if_eq (tgt := 22) hx hb dX11_areLivers_15 (by decide) (fun hc => ?_) (fun hc => ?_)
    · have hw := hw.1 hc
      refine lv_iconst (v := (0 : Int32)) hx hb dX11_areLivers_22 (by decide) ?_
      exact hret _ _ H locs _ _ (by decide) ⟨rfl, hw⟩ hP hS dX11_areLivers_23
    · have hw := hw.2 hc
      refine lv_iconst (v := (1 : Int32)) hx hb dX11_areLivers_18 (by decide) ?_
      refine lv_goto (tgt := 23) hx hb dX11_areLivers_19 (by decide) ?_
      exact hret _ _ H locs _ _ (by decide) ⟨rfl, hw⟩ hP hS dX11_areLivers_23

def wp_X11_changed (zgate_known : Int32) (zguesses_known : Int32) (zevenings_known : Int32)  (post : Int32 → Int32 → Int32 → Prop) : Prop :=
  post (0 : Int32) (0 : Int32) (0 : Int32)
set_option maxHeartbeats 4000000 in
set_option maxRecDepth 100000 in
theorem c_X11_changed (l : Launch) (D : va_G) (ci cz : ClassId) (tr : List (ClassId × FieldType)) (q0 q1 q2 q3 : Nat) (sz : Nat) (u0 u1 u2 u3 u4 u5 u6 u7 u8 u9 u10 u11 u12 u13 u14 u15 u16 u17 u18 u19 u20 u21 u22 u23 u24 : Value) (zgate_known : Int32) (zguesses_known : Int32) (zevenings_known : Int32)  (post : Int32 → Int32 → Int32 → Prop) (hw : wp_X11_changed zgate_known zguesses_known zevenings_known post) : gM l yX11_changed cX11_changed 1 none 0 0 D ci cz tr [(q0, .inr (10, [u0, u1, u2, u3, u4, u5, .ref q1, .ref q2, .ref q3])), (q1, .inr (3, [.int zgate_known, u6, u7, u8, u9, u10])), (q2, .inr (4, [.int zguesses_known, u11, u12, u13, u14, u15, u16, u17, u18])), (q3, .inr (2, [.int zevenings_known, u19, u20, u21, u22, u23, u24]))] sz [.ref q0] (gQv D [(q0, .inr (10, [u0, u1, u2, u3, u4, u5, .ref q1, .ref q2, .ref q3])), (q1, .inr (3, [.int zgate_known, u6, u7, u8, u9, u10])), (q2, .inr (4, [.int zguesses_known, u11, u12, u13, u14, u15, u16, u17, u18])), (q3, .inr (2, [.int zevenings_known, u19, u20, u21, u22, u23, u24]))] sz (fun w => ∃ (o_zgate_known : Int32) (o_zguesses_known : Int32) (o_zevenings_known : Int32), w = [(q0, .inr (10, [u0, u1, u2, u3, u4, u5, .ref q1, .ref q2, .ref q3])), (q1, .inr (3, [.int o_zgate_known, u6, u7, u8, u9, u10])), (q2, .inr (4, [.int o_zguesses_known, u11, u12, u13, u14, u15, u16, u17, u18])), (q3, .inr (2, [.int o_zevenings_known, u19, u20, u21, u22, u23, u24]))] ∧ post o_zgate_known o_zguesses_known o_zevenings_known)) := by
  refine gmet_v RX11 (by decide +kernel) rfl (Nat.le_of_ble_eq_true rfl) ?_
  intro p e s m args below meth c A R Q C hfr hlc hP hD hret ls hl
  obtain ⟨hx, hb, hml, hown, ht, hK, hZ, hA⟩ := C
  have hl : lv_has ls 1 [(0, .ref q0)] := hl
  unfold wp_X11_changed at hw
  refine g_in (fun H locs => W p l e R s m args below meth c H locs 0 0 Q (F0 m 0 ls [])) (fun H locs hS0 hP => ?_) hP (va_S.rf (A := A) (H0 := s.heap))
  have hS : va_S A s.heap H locs := hS0
  clear hS0
  refine lv_aload_n hx hb dX11_changed_0 rfl (lv_at hl 0 rfl) ?_
  refine va_get (D := D) (ci := 10) (v := .ref q1) (C := RX11) (T := TX11) (N := 9) hx hb ht in_X11 hown hK.1 hP 0 rfl rfl 6 (by decide) (ht _ mF_X11_44) (fun _ h9 => h9) rfl dX11_changed_1 ?_
  refine lv_iconst (v := (0 : Int32)) hx hb dX11_changed_4 (by decide) ?_
  refine va_put (D := D) (ci := 3) (v := .int (0 : Int32)) (ty := .boolean) (C := RX4) (T := TX4) (N := 6) hx hb ht in_X4 tyX4 tyX4_ok nmX4 hown hK.1 hP hD hS 1 rfl rfl 0 (by decide) (ht _ mF_X11_237) (fun _ h9 => h9) rfl (by decide +kernel) rfl rfl (Nat.le_of_ble_eq_true rfl) dX11_changed_5 (fun H locs hP hD hS => ?_)
  have hP : va_P D vwCl [(q0, .inr (10, [u0, u1, u2, u3, u4, u5, .ref q1, .ref q2, .ref q3])), (q1, .inr (3, [.int (0 : Int32), u6, u7, u8, u9, u10])), (q2, .inr (4, [.int zguesses_known, u11, u12, u13, u14, u15, u16, u17, u18])), (q3, .inr (2, [.int zevenings_known, u19, u20, u21, u22, u23, u24]))] H := hP
  have hD : va_D A [(q0, .inr (10, [u0, u1, u2, u3, u4, u5, .ref q1, .ref q2, .ref q3])), (q1, .inr (3, [.int (0 : Int32), u6, u7, u8, u9, u10])), (q2, .inr (4, [.int zguesses_known, u11, u12, u13, u14, u15, u16, u17, u18])), (q3, .inr (2, [.int zevenings_known, u19, u20, u21, u22, u23, u24]))] := hD
  refine lv_aload_n hx hb dX11_changed_8 rfl (lv_at hl 0 rfl) ?_
  refine va_get (D := D) (ci := 10) (v := .ref q2) (C := RX11) (T := TX11) (N := 9) hx hb ht in_X11 hown hK.1 hP 0 rfl rfl 7 (by decide) (ht _ mF_X11_51) (fun _ h9 => h9) rfl dX11_changed_9 ?_
  refine lv_iconst (v := (0 : Int32)) hx hb dX11_changed_12 (by decide) ?_
  refine va_put (D := D) (ci := 4) (v := .int (0 : Int32)) (ty := .boolean) (C := RX5) (T := TX5) (N := 9) hx hb ht in_X5 tyX5 tyX5_ok nmX5 hown hK.1 hP hD hS 2 rfl rfl 0 (by decide) (ht _ mF_X11_241) (fun _ h9 => h9) rfl (by decide +kernel) rfl rfl (Nat.le_of_ble_eq_true rfl) dX11_changed_13 (fun H locs hP hD hS => ?_)
  have hP : va_P D vwCl [(q0, .inr (10, [u0, u1, u2, u3, u4, u5, .ref q1, .ref q2, .ref q3])), (q1, .inr (3, [.int (0 : Int32), u6, u7, u8, u9, u10])), (q2, .inr (4, [.int (0 : Int32), u11, u12, u13, u14, u15, u16, u17, u18])), (q3, .inr (2, [.int zevenings_known, u19, u20, u21, u22, u23, u24]))] H := hP
  have hD : va_D A [(q0, .inr (10, [u0, u1, u2, u3, u4, u5, .ref q1, .ref q2, .ref q3])), (q1, .inr (3, [.int (0 : Int32), u6, u7, u8, u9, u10])), (q2, .inr (4, [.int (0 : Int32), u11, u12, u13, u14, u15, u16, u17, u18])), (q3, .inr (2, [.int zevenings_known, u19, u20, u21, u22, u23, u24]))] := hD
  refine lv_aload_n hx hb dX11_changed_16 rfl (lv_at hl 0 rfl) ?_
  refine va_get (D := D) (ci := 10) (v := .ref q3) (C := RX11) (T := TX11) (N := 9) hx hb ht in_X11 hown hK.1 hP 0 rfl rfl 8 (by decide) (ht _ mF_X11_58) (fun _ h9 => h9) rfl dX11_changed_17 ?_
  refine lv_iconst (v := (0 : Int32)) hx hb dX11_changed_20 (by decide) ?_
  refine va_put (D := D) (ci := 2) (v := .int (0 : Int32)) (ty := .boolean) (C := RX3) (T := TX3) (N := 7) hx hb ht in_X3 tyX3 tyX3_ok nmX3 hown hK.1 hP hD hS 3 rfl rfl 0 (by decide) (ht _ mF_X11_242) (fun _ h9 => h9) rfl (by decide +kernel) rfl rfl (Nat.le_of_ble_eq_true rfl) dX11_changed_21 (fun H locs hP hD hS => ?_)
  have hP : va_P D vwCl [(q0, .inr (10, [u0, u1, u2, u3, u4, u5, .ref q1, .ref q2, .ref q3])), (q1, .inr (3, [.int (0 : Int32), u6, u7, u8, u9, u10])), (q2, .inr (4, [.int (0 : Int32), u11, u12, u13, u14, u15, u16, u17, u18])), (q3, .inr (2, [.int (0 : Int32), u19, u20, u21, u22, u23, u24]))] H := hP
  have hD : va_D A [(q0, .inr (10, [u0, u1, u2, u3, u4, u5, .ref q1, .ref q2, .ref q3])), (q1, .inr (3, [.int (0 : Int32), u6, u7, u8, u9, u10])), (q2, .inr (4, [.int (0 : Int32), u11, u12, u13, u14, u15, u16, u17, u18])), (q3, .inr (2, [.int (0 : Int32), u19, u20, u21, u22, u23, u24]))] := hD
  exact hret _ H locs _ _ ⟨_, _, _, rfl, hw⟩ hP hS dX11_changed_24

def wp_X11_ask (zparish_questions_size : Int32) (zparish_questions_lefts : Nat → Int32) (zparish_questions_rights : Nat → Int32) (zparish_questions_numbers : Nat → Int32) (zgate_known : Int32) (zguesses_known : Int32) (zevenings_known : Int32) (a1 : Int32) (a2 : Int32) (a3 : Int32) (post : Int32 → Int32 → (Nat → Int32) → (Nat → Int32) → (Nat → Int32) → Int32 → Int32 → Int32 → Prop) : Prop :=
  wp_X11_areLivers a1 a2 (fun (r_1 : Int32) => ((r_1 = 0 → post (-2 : Int32) zparish_questions_size zparish_questions_lefts zparish_questions_rights zparish_questions_numbers zgate_known zguesses_known zevenings_known) ∧ (¬ r_1 = 0 → wp_X11_isWithin a3 (99 : Int32) (fun (r_2 : Int32) => ((¬ r_2 = 0 → wp_X10_add 5 zparish_questions_size zparish_questions_lefts zparish_questions_rights zparish_questions_numbers a1 a2 a3 (fun (r_3 : Int32) (zparish_questions_size_4 : Int32) (zparish_questions_lefts_5 : Nat → Int32) (zparish_questions_rights_6 : Nat → Int32) (zparish_questions_numbers_7 : Nat → Int32) => ((¬ r_3 = 0 → wp_X11_changed zgate_known zguesses_known zevenings_known (fun (zgate_known_9 : Int32) (zguesses_known_10 : Int32) (zevenings_known_11 : Int32) => post zparish_questions_size_4 zparish_questions_size_4 zparish_questions_lefts_5 zparish_questions_rights_6 zparish_questions_numbers_7 zgate_known_9 zguesses_known_10 zevenings_known_11)) ∧ (r_3 = 0 → post (-4 : Int32) zparish_questions_size_4 zparish_questions_lefts_5 zparish_questions_rights_6 zparish_questions_numbers_7 zgate_known zguesses_known zevenings_known)))) ∧ (r_2 = 0 → post (-2 : Int32) zparish_questions_size zparish_questions_lefts zparish_questions_rights zparish_questions_numbers zgate_known zguesses_known zevenings_known))))))
set_option maxHeartbeats 4000000 in
set_option maxRecDepth 100000 in
theorem c_X11_ask (l : Launch) (D : va_G) (ci cz : ClassId) (tr : List (ClassId × FieldType)) (q0 q1 q2 q3 q4 q5 q6 q7 q8 : Nat) (sz : Nat) (u0 u1 u2 u3 u4 u5 u6 u7 u8 u9 u10 u11 u12 u13 u14 u15 u16 u17 u18 u19 u20 u21 u22 u23 u24 u25 u26 : Value) (zparish_questions_size : Int32) (zparish_questions_lefts : Nat → Int32) (zparish_questions_rights : Nat → Int32) (zparish_questions_numbers : Nat → Int32) (zgate_known : Int32) (zguesses_known : Int32) (zevenings_known : Int32) (a1 : Int32) (a2 : Int32) (a3 : Int32) (post : Int32 → Int32 → (Nat → Int32) → (Nat → Int32) → (Nat → Int32) → Int32 → Int32 → Int32 → Prop) (hw : wp_X11_ask zparish_questions_size zparish_questions_lefts zparish_questions_rights zparish_questions_numbers zgate_known zguesses_known zevenings_known a1 a2 a3 post) : gM l yX11_ask cX11_ask 4 (some .int) 2 42 D ci cz tr [(q0, .inr (10, [u0, .ref q1, u1, u2, u3, u4, .ref q6, .ref q7, .ref q8])), (q1, .inr (7, [u5, u6, .ref q2, u7])), (q2, .inr (9, [.int zparish_questions_size, .ref q3, .ref q4, .ref q5])), (q3, .inl (ci, 5, .inl zparish_questions_lefts)), (q4, .inl (ci, 5, .inl zparish_questions_rights)), (q5, .inl (ci, 5, .inl zparish_questions_numbers)), (q6, .inr (3, [.int zgate_known, u8, u9, u10, u11, u12])), (q7, .inr (4, [.int zguesses_known, u13, u14, u15, u16, u17, u18, u19, u20])), (q8, .inr (2, [.int zevenings_known, u21, u22, u23, u24, u25, u26]))] sz [.ref q0, .int a1, .int a2, .int a3] (gQi D [(q0, .inr (10, [u0, .ref q1, u1, u2, u3, u4, .ref q6, .ref q7, .ref q8])), (q1, .inr (7, [u5, u6, .ref q2, u7])), (q2, .inr (9, [.int zparish_questions_size, .ref q3, .ref q4, .ref q5])), (q3, .inl (ci, 5, .inl zparish_questions_lefts)), (q4, .inl (ci, 5, .inl zparish_questions_rights)), (q5, .inl (ci, 5, .inl zparish_questions_numbers)), (q6, .inr (3, [.int zgate_known, u8, u9, u10, u11, u12])), (q7, .inr (4, [.int zguesses_known, u13, u14, u15, u16, u17, u18, u19, u20])), (q8, .inr (2, [.int zevenings_known, u21, u22, u23, u24, u25, u26]))] sz (fun (r : Int32) w => ∃ (o_zparish_questions_size : Int32) (o_zparish_questions_lefts : Nat → Int32) (o_zparish_questions_rights : Nat → Int32) (o_zparish_questions_numbers : Nat → Int32) (o_zgate_known : Int32) (o_zguesses_known : Int32) (o_zevenings_known : Int32), w = [(q0, .inr (10, [u0, .ref q1, u1, u2, u3, u4, .ref q6, .ref q7, .ref q8])), (q1, .inr (7, [u5, u6, .ref q2, u7])), (q2, .inr (9, [.int o_zparish_questions_size, .ref q3, .ref q4, .ref q5])), (q3, .inl (ci, 5, .inl o_zparish_questions_lefts)), (q4, .inl (ci, 5, .inl o_zparish_questions_rights)), (q5, .inl (ci, 5, .inl o_zparish_questions_numbers)), (q6, .inr (3, [.int o_zgate_known, u8, u9, u10, u11, u12])), (q7, .inr (4, [.int o_zguesses_known, u13, u14, u15, u16, u17, u18, u19, u20])), (q8, .inr (2, [.int o_zevenings_known, u21, u22, u23, u24, u25, u26]))] ∧ post r o_zparish_questions_size o_zparish_questions_lefts o_zparish_questions_rights o_zparish_questions_numbers o_zgate_known o_zguesses_known o_zevenings_known)) := by
  refine gmet_i RX11 (by decide +kernel) rfl (Nat.le_of_ble_eq_true rfl) ?_
  intro p e s m args below meth c A R Q C hfr hlc hP hD hret ls hl
  obtain ⟨hx, hb, hml, hown, ht, hK, hZ, hA⟩ := C
  have hl : lv_has ls 4 [(0, .ref q0), (1, .int a1), (2, .int a2), (3, .int a3)] := hl
  unfold wp_X11_ask at hw
  refine g_in (fun H locs => W p l e R s m args below meth c H locs 0 0 Q (F0 m 0 ls [])) (fun H locs hS0 hP => ?_) hP (va_S.rf (A := A) (H0 := s.heap))
  have hS : va_S A s.heap H locs := hS0
  clear hS0
  refine lv_iload_n hx hb dX11_ask_0 rfl (lv_at hl 1 rfl) ?_
  refine lv_iload_n hx hb dX11_ask_1 rfl (lv_at hl 2 rfl) ?_
  refine gcalli (va_runS (As := [.int a1, .int a2]) (rest := []) ⟨hx, hb, hml, hown, ht⟩ (c_X11_areLivers l D ci cz tr  H.size a1 a2 _ hw) (va_cwS 2 ht (gi_S mM_X11_129 mT_X11_areLivers mN_X11 mC_X11_areLivers) rfl rfl rfl (by decide +kernel) ⟨Nat.le_trans (Nat.le_of_ble_eq_true rfl) hfr, Nat.le_trans (Nat.le_of_ble_eq_true rfl) hlc⟩) (gpre (wc := []) hK hZ hP hD hS hA [] rfl rfl) rfl rfl hl.1 rfl (lv_room (Nat.le_of_ble_eq_true rfl)) dX11_ask_2 ⟨Nat.zero_le _, Nat.zero_le _⟩) hD hS hA [] rfl (fun r_1 w9 H locs hw hP9 hk9 hS => ?_)
  obtain ⟨rfl, hw⟩ := hw
  have hP : va_P D vwCl [(q0, .inr (10, [u0, .ref q1, u1, u2, u3, u4, .ref q6, .ref q7, .ref q8])), (q1, .inr (7, [u5, u6, .ref q2, u7])), (q2, .inr (9, [.int zparish_questions_size, .ref q3, .ref q4, .ref q5])), (q3, .inl (ci, 5, .inl zparish_questions_lefts)), (q4, .inl (ci, 5, .inl zparish_questions_rights)), (q5, .inl (ci, 5, .inl zparish_questions_numbers)), (q6, .inr (3, [.int zgate_known, u8, u9, u10, u11, u12])), (q7, .inr (4, [.int zguesses_known, u13, u14, u15, u16, u17, u18, u19, u20])), (q8, .inr (2, [.int zevenings_known, u21, u22, u23, u24, u25, u26]))] H := gjoin3 hP hD [] hP9 hk9 rfl rfl [none, none, none, none, none, none, none, none, none] rfl rfl
  clear hP9 hk9
  refine lv_if_eq (tgt := 17) hx hb dX11_ask_5 (by decide) (fun hc => ?_) (fun hc => ?_)
  · have hw := hw.1 hc
    refine lv_bipush (v := (-2 : Int32)) hx hb dX11_ask_17 (by decide) ?_
    exact hret _ _ H locs _ _ ⟨_, _, _, _, _, _, _, rfl, hw⟩ hP hS dX11_ask_19
  · have hw := hw.2 hc
    refine lv_iload_n hx hb dX11_ask_8 rfl (lv_at hl 3 rfl) ?_
    refine lv_bipush (v := (99 : Int32)) hx hb dX11_ask_9 (by decide) ?_
    refine gcalli (va_runS (As := [.int a3, .int (99 : Int32)]) (rest := []) ⟨hx, hb, hml, hown, ht⟩ (c_X11_isWithin l D ci cz tr  H.size a3 (99 : Int32) _ hw) (va_cwS 2 ht (gi_S mM_X11_140 mT_X11_isWithin mN_X11 mC_X11_isWithin) rfl rfl rfl (by decide +kernel) ⟨Nat.le_trans (Nat.le_of_ble_eq_true rfl) hfr, Nat.le_trans (Nat.le_of_ble_eq_true rfl) hlc⟩) (gpre (wc := []) hK hZ hP hD hS hA [] rfl rfl) rfl rfl hl.1 rfl (lv_room (Nat.le_of_ble_eq_true rfl)) dX11_ask_11 ⟨Nat.zero_le _, Nat.zero_le _⟩) hD hS hA [] rfl (fun r_2 w9 H locs hw hP9 hk9 hS => ?_)
    obtain ⟨rfl, hw⟩ := hw
    have hP : va_P D vwCl [(q0, .inr (10, [u0, .ref q1, u1, u2, u3, u4, .ref q6, .ref q7, .ref q8])), (q1, .inr (7, [u5, u6, .ref q2, u7])), (q2, .inr (9, [.int zparish_questions_size, .ref q3, .ref q4, .ref q5])), (q3, .inl (ci, 5, .inl zparish_questions_lefts)), (q4, .inl (ci, 5, .inl zparish_questions_rights)), (q5, .inl (ci, 5, .inl zparish_questions_numbers)), (q6, .inr (3, [.int zgate_known, u8, u9, u10, u11, u12])), (q7, .inr (4, [.int zguesses_known, u13, u14, u15, u16, u17, u18, u19, u20])), (q8, .inr (2, [.int zevenings_known, u21, u22, u23, u24, u25, u26]))] H := gjoin3 hP hD [] hP9 hk9 rfl rfl [none, none, none, none, none, none, none, none, none] rfl rfl
    clear hP9 hk9
    refine lv_if_ne (tgt := 20) hx hb dX11_ask_14 (by decide) (fun hc => ?_) (fun hc => ?_)
    · have hw := hw.1 hc
      refine lv_aload_n hx hb dX11_ask_20 rfl (lv_at hl 0 rfl) ?_
      refine va_get (D := D) (ci := 10) (v := .ref q1) (C := RX11) (T := TX11) (N := 9) hx hb ht in_X11 hown hK.1 hP 0 rfl rfl 1 (by decide) (ht _ mF_X11_19) (fun _ h9 => h9) rfl dX11_ask_21 ?_
      refine va_get (D := D) (ci := 7) (v := .ref q2) (C := RX8) (T := TX8) (N := 4) hx hb ht in_X8 hown hK.1 hP 1 rfl rfl 2 (by decide) (ht _ mF_X11_217) (fun _ h9 => h9) rfl dX11_ask_24 ?_
      refine lv_iload_n hx hb dX11_ask_27 rfl (lv_at hl 1 rfl) ?_
      refine lv_iload_n hx hb dX11_ask_28 rfl (lv_at hl 2 rfl) ?_
      refine lv_iload_n hx hb dX11_ask_29 rfl (lv_at hl 3 rfl) ?_
      refine gcalli (va_runV (As := [.int a1, .int a2, .int a3]) (rest := []) ⟨hx, hb, hml, hown, ht⟩ (c_X10_add l D ci cz tr q2 q3 q4 q5 H.size 5 zparish_questions_size zparish_questions_lefts zparish_questions_rights zparish_questions_numbers a1 a2 a3 _ hw) (cwV 3 ht (gi_V mM_X11_198 mI_X10_add mS_X10_add mN_X10 mC_X10_add) rfl rfl rfl (by decide +kernel) ⟨Nat.le_trans (Nat.le_of_ble_eq_true rfl) hfr, Nat.le_trans (Nat.le_of_ble_eq_true rfl) hlc⟩) (gpreV (wc := [(q2, .inr (9, [.int zparish_questions_size, .ref q3, .ref q4, .ref q5])), (q3, .inl (ci, 5, .inl zparish_questions_lefts)), (q4, .inl (ci, 5, .inl zparish_questions_rights)), (q5, .inl (ci, 5, .inl zparish_questions_numbers))]) (k := 9) (q0 := 2) hK hZ hP hD hS hA [2, 3, 4, 5] rfl rfl rfl rfl rfl) rfl rfl hl.1 rfl (lv_room (Nat.le_of_ble_eq_true rfl)) dX11_ask_30 ⟨Nat.zero_le _, Nat.zero_le _⟩) hD hS hA [2, 3, 4, 5] rfl (fun r_3 w9 H locs hw hP9 hk9 hS => ?_)
      obtain ⟨zparish_questions_size_4, zparish_questions_lefts_5, zparish_questions_rights_6, zparish_questions_numbers_7, rfl, hw⟩ := hw
      have hP : va_P D vwCl [(q0, .inr (10, [u0, .ref q1, u1, u2, u3, u4, .ref q6, .ref q7, .ref q8])), (q1, .inr (7, [u5, u6, .ref q2, u7])), (q2, .inr (9, [.int zparish_questions_size_4, .ref q3, .ref q4, .ref q5])), (q3, .inl (ci, 5, .inl zparish_questions_lefts_5)), (q4, .inl (ci, 5, .inl zparish_questions_rights_6)), (q5, .inl (ci, 5, .inl zparish_questions_numbers_7)), (q6, .inr (3, [.int zgate_known, u8, u9, u10, u11, u12])), (q7, .inr (4, [.int zguesses_known, u13, u14, u15, u16, u17, u18, u19, u20])), (q8, .inr (2, [.int zevenings_known, u21, u22, u23, u24, u25, u26]))] H := gjoin3 hP hD [2, 3, 4, 5] hP9 hk9 rfl rfl [none, none, some 0, some 1, some 2, some 3, none, none, none] rfl rfl
      have hD : va_D A [(q0, .inr (10, [u0, .ref q1, u1, u2, u3, u4, .ref q6, .ref q7, .ref q8])), (q1, .inr (7, [u5, u6, .ref q2, u7])), (q2, .inr (9, [.int zparish_questions_size_4, .ref q3, .ref q4, .ref q5])), (q3, .inl (ci, 5, .inl zparish_questions_lefts_5)), (q4, .inl (ci, 5, .inl zparish_questions_rights_6)), (q5, .inl (ci, 5, .inl zparish_questions_numbers_7)), (q6, .inr (3, [.int zgate_known, u8, u9, u10, u11, u12])), (q7, .inr (4, [.int zguesses_known, u13, u14, u15, u16, u17, u18, u19, u20])), (q8, .inr (2, [.int zevenings_known, u21, u22, u23, u24, u25, u26]))] := gD_re hD rfl
      clear hP9 hk9
      refine lv_if_ne (tgt := 39) hx hb dX11_ask_33 (by decide) (fun hc => ?_) (fun hc => ?_)
      · have hw := hw.1 hc
        refine lv_aload_n hx hb dX11_ask_39 rfl (lv_at hl 0 rfl) ?_
        refine gcallv (va_runV (As := []) (rest := []) ⟨hx, hb, hml, hown, ht⟩ (c_X11_changed l D ci cz tr q0 q6 q7 q8 H.size u0 (.ref q1) u1 u2 u3 u4 u8 u9 u10 u11 u12 u13 u14 u15 u16 u17 u18 u19 u20 u21 u22 u23 u24 u25 u26 zgate_known zguesses_known zevenings_known _ hw) (cwV 0 ht (gi_V mM_X11_94 mI_X11_changed mS_X11_changed mN_X11 mC_X11_changed) rfl rfl rfl (by decide +kernel) ⟨Nat.le_trans (Nat.le_of_ble_eq_true rfl) hfr, Nat.le_trans (Nat.le_of_ble_eq_true rfl) hlc⟩) (gpreV (wc := [(q0, .inr (10, [u0, .ref q1, u1, u2, u3, u4, .ref q6, .ref q7, .ref q8])), (q6, .inr (3, [.int zgate_known, u8, u9, u10, u11, u12])), (q7, .inr (4, [.int zguesses_known, u13, u14, u15, u16, u17, u18, u19, u20])), (q8, .inr (2, [.int zevenings_known, u21, u22, u23, u24, u25, u26]))]) (k := 10) (q0 := 0) hK hZ hP hD hS hA [0, 6, 7, 8] rfl rfl rfl rfl rfl) rfl rfl hl.1 rfl (lv_room (Nat.le_of_ble_eq_true rfl)) dX11_ask_40 ⟨Nat.zero_le _, Nat.zero_le _⟩) hD hS hA [0, 6, 7, 8] rfl (fun w9 H locs hw hP9 hk9 hS => ?_)
        obtain ⟨zgate_known_9, zguesses_known_10, zevenings_known_11, rfl, hw⟩ := hw
        have hP : va_P D vwCl [(q0, .inr (10, [u0, .ref q1, u1, u2, u3, u4, .ref q6, .ref q7, .ref q8])), (q1, .inr (7, [u5, u6, .ref q2, u7])), (q2, .inr (9, [.int zparish_questions_size_4, .ref q3, .ref q4, .ref q5])), (q3, .inl (ci, 5, .inl zparish_questions_lefts_5)), (q4, .inl (ci, 5, .inl zparish_questions_rights_6)), (q5, .inl (ci, 5, .inl zparish_questions_numbers_7)), (q6, .inr (3, [.int zgate_known_9, u8, u9, u10, u11, u12])), (q7, .inr (4, [.int zguesses_known_10, u13, u14, u15, u16, u17, u18, u19, u20])), (q8, .inr (2, [.int zevenings_known_11, u21, u22, u23, u24, u25, u26]))] H := gjoin3 hP hD [0, 6, 7, 8] hP9 hk9 rfl rfl [some 0, none, none, none, none, none, some 1, some 2, some 3] rfl rfl
        have hD : va_D A [(q0, .inr (10, [u0, .ref q1, u1, u2, u3, u4, .ref q6, .ref q7, .ref q8])), (q1, .inr (7, [u5, u6, .ref q2, u7])), (q2, .inr (9, [.int zparish_questions_size_4, .ref q3, .ref q4, .ref q5])), (q3, .inl (ci, 5, .inl zparish_questions_lefts_5)), (q4, .inl (ci, 5, .inl zparish_questions_rights_6)), (q5, .inl (ci, 5, .inl zparish_questions_numbers_7)), (q6, .inr (3, [.int zgate_known_9, u8, u9, u10, u11, u12])), (q7, .inr (4, [.int zguesses_known_10, u13, u14, u15, u16, u17, u18, u19, u20])), (q8, .inr (2, [.int zevenings_known_11, u21, u22, u23, u24, u25, u26]))] := gD_re hD rfl
        clear hP9 hk9
        refine lv_aload_n hx hb dX11_ask_43 rfl (lv_at hl 0 rfl) ?_
        refine va_get (D := D) (ci := 10) (v := .ref q1) (C := RX11) (T := TX11) (N := 9) hx hb ht in_X11 hown hK.1 hP 0 rfl rfl 1 (by decide) (ht _ mF_X11_19) (fun _ h9 => h9) rfl dX11_ask_44 ?_
        refine va_get (D := D) (ci := 7) (v := .ref q2) (C := RX8) (T := TX8) (N := 4) hx hb ht in_X8 hown hK.1 hP 1 rfl rfl 2 (by decide) (ht _ mF_X11_217) (fun _ h9 => h9) rfl dX11_ask_47 ?_
        refine va_get (D := D) (ci := 9) (v := .int zparish_questions_size_4) (C := RX10) (T := TX10) (N := 4) hx hb ht in_X10 hown hK.1 hP 2 rfl rfl 0 (by decide) (ht _ mF_X11_91) (fun _ h9 => h9) rfl dX11_ask_50 ?_
        exact hret _ _ H locs _ _ ⟨_, _, _, _, _, _, _, rfl, hw⟩ hP hS dX11_ask_53
      · have hw := hw.2 hc
        refine lv_bipush (v := (-4 : Int32)) hx hb dX11_ask_36 (by decide) ?_
        exact hret _ _ H locs _ _ ⟨_, _, _, _, _, _, _, rfl, hw⟩ hP hS dX11_ask_38
    · have hw := hw.2 hc
      refine lv_bipush (v := (-2 : Int32)) hx hb dX11_ask_17 (by decide) ?_
      exact hret _ _ H locs _ _ ⟨_, _, _, _, _, _, _, rfl, hw⟩ hP hS dX11_ask_19

def wp_X11_factorial  (a0 : Int32) (post : Int32 → Prop) : Prop :=
  ((a0 < 0 → post (1 : Int32) ) ∧ (¬ a0 < 0 → (((8 : Int32) ≤ a0 → post (1 : Int32) ) ∧ (¬ (8 : Int32) ≤ a0 → (vp_in a0 8 ∧ post (facI (a0).toNatClampNeg) )))))
set_option maxHeartbeats 4000000 in
set_option maxRecDepth 100000 in
theorem c_X11_factorial (l : Launch) (D : va_G) (ci cz : ClassId) (tr : List (ClassId × FieldType)) (sz : Nat)  (a0 : Int32) (post : Int32 → Prop) (hw : wp_X11_factorial a0 post) : gM l yX11_factorial cX11_factorial 1 (some .int) 0 0 D ci cz tr [] sz [.int a0] (gQi D [] sz (fun (r : Int32) w => w = [] ∧ post r )) := by
  refine gmet_i RX11 (by decide +kernel) rfl (Nat.le_of_ble_eq_true rfl) ?_
  intro p e s m args below meth c A R Q C hfr hlc hP hD hret ls hl
  obtain ⟨hx, hb, hml, hown, ht, hK, hZ, hA⟩ := C
  have hl : lv_has ls 1 [(0, .int a0)] := hl
  unfold wp_X11_factorial at hw
  refine g_in (fun H locs => W p l e R s m args below meth c H locs 0 0 Q (F0 m 0 ls [])) (fun H locs hS0 hP => ?_) hP (va_S.rf (A := A) (H0 := s.heap))
  have hS : va_S A s.heap H locs := hS0
  clear hS0
  refine lv_iload_n hx hb dX11_factorial_0 rfl (lv_at hl 0 rfl) ?_
  refine lv_if_lt (tgt := 20) hx hb dX11_factorial_1 (by decide) (fun hc => ?_) (fun hc => ?_)
  · have hw := hw.1 hc
    refine lv_iconst (v := (1 : Int32)) hx hb dX11_factorial_20 (by decide) ?_
    exact hret _ _ H locs _ _ ⟨rfl, hw⟩ hP hS dX11_factorial_21
  · have hw := hw.2 hc
    refine lv_iload_n hx hb dX11_factorial_4 rfl (lv_at hl 0 rfl) ?_
    obtain ⟨tF, hZ1, hZ2⟩ := id hZ
    refine va_gets hx hb hZ1 hS hown (ht _ mF_X11_243) (fun _ h9 => h9) dX11_factorial_5 ?_
    refine va_tlen hx hb hZ2 hS rfl dX11_factorial_8 ?_
    refine lv_icmp_ge (tgt := 20) hx hb dX11_factorial_9 (by decide) (fun hc => ?_) (fun hc => ?_)
    · have hw := hw.1 hc
      refine lv_iconst (v := (1 : Int32)) hx hb dX11_factorial_20 (by decide) ?_
      exact hret _ _ H locs _ _ ⟨rfl, hw⟩ hP hS dX11_factorial_21
    · have hw := hw.2 hc
      obtain ⟨tF, hZ1, hZ2⟩ := id hZ
      refine va_gets hx hb hZ1 hS hown (ht _ mF_X11_243) (fun _ h9 => h9) dX11_factorial_12 ?_
      refine lv_iload_n hx hb dX11_factorial_15 rfl (lv_at hl 0 rfl) ?_
      obtain ⟨hin, hw⟩ := hw
      refine va_ti (v := .int (facI (a0).toNatClampNeg)) hx hb hZ2 hS hin rfl dX11_factorial_16 ?_
      refine lv_goto (tgt := 21) hx hb dX11_factorial_17 (by decide) ?_
      exact hret _ _ H locs _ _ ⟨rfl, hw⟩ hP hS dX11_factorial_21

def wp_X6_begin (zsize : Int32) (zorder : Nat → Int32) (a1 : Int32) (post : Int32 → Int32 → (Nat → Int32) → Prop) : Prop :=
  jn (fun (zorder_1 : Nat → Int32) => wp_X11_factorial (if (0 : Int32) < (if (7 : Int32) < a1 then (7 : Int32) else a1) then (if (7 : Int32) < a1 then (7 : Int32) else a1) else (0 : Int32)) (fun (r_2 : Int32) => post r_2 (if (0 : Int32) < (if (7 : Int32) < a1 then (7 : Int32) else a1) then (if (7 : Int32) < a1 then (7 : Int32) else a1) else (0 : Int32)) zorder_1)) (fun (J37 : (Nat → Int32) → Prop) => lo (fun _ _ => False) (fun (G16 : Int32 → (Nat → Int32) → Prop) (x2_3 : Int32) (zorder_4 : Nat → Int32) => (((if (0 : Int32) < (if (7 : Int32) < a1 then (7 : Int32) else a1) then (if (7 : Int32) < a1 then (7 : Int32) else a1) else (0 : Int32)) ≤ x2_3 → J37 zorder_4) ∧ (¬ (if (0 : Int32) < (if (7 : Int32) < a1 then (7 : Int32) else a1) then (if (7 : Int32) < a1 then (7 : Int32) else a1) else (0 : Int32)) ≤ x2_3 → (vp_in x2_3 7 ∧ G16 (x2_3 + (1 : Int32)) (upd zorder_4 (x2_3).toNatClampNeg x2_3))))) (fun G16 => G16 (0 : Int32) zorder))
set_option maxHeartbeats 4000000 in
set_option maxRecDepth 100000 in
theorem c_X6_begin (l : Launch) (D : va_G) (ci cz : ClassId) (tr : List (ClassId × FieldType)) (q0 q1 : Nat) (sz : Nat) (zsize : Int32) (zorder : Nat → Int32) (a1 : Int32) (post : Int32 → Int32 → (Nat → Int32) → Prop) (hw : wp_X6_begin zsize zorder a1 post) : gM l yX6_begin cX6_begin 3 (some .int) 1 21 D ci cz tr [(q0, .inr (5, [.int zsize, .ref q1])), (q1, .inl (ci, 7, .inl zorder))] sz [.ref q0, .int a1] (gQi D [(q0, .inr (5, [.int zsize, .ref q1])), (q1, .inl (ci, 7, .inl zorder))] sz (fun (r : Int32) w => ∃ (o_zsize : Int32) (o_zorder : Nat → Int32), w = [(q0, .inr (5, [.int o_zsize, .ref q1])), (q1, .inl (ci, 7, .inl o_zorder))] ∧ post r o_zsize o_zorder)) := by
  refine gmet_i RX6 (by decide +kernel) rfl (Nat.le_of_ble_eq_true rfl) ?_
  intro p e s m args below meth c A R Q C hfr hlc hP hD hret ls hl
  obtain ⟨hx, hb, hml, hown, ht, hK, hZ, hA⟩ := C
  have hl : lv_has ls 3 [(0, .ref q0), (1, .int a1)] := hl
  unfold wp_X6_begin at hw
  refine g_in (fun H locs => W p l e R s m args below meth c H locs 0 0 Q (F0 m 0 ls [])) (fun H locs hS0 hP => ?_) hP (va_S.rf (A := A) (H0 := s.heap))
  have hS : va_S A s.heap H locs := hS0
  clear hS0
  refine lv_aload_n hx hb dX6_begin_0 rfl (lv_at hl 0 rfl) ?_
  refine lv_iconst (v := (0 : Int32)) hx hb dX6_begin_1 (by decide) ?_
  refine lv_iload_n hx hb dX6_begin_2 rfl (lv_at hl 1 rfl) ?_
  refine lv_bipush (v := (7 : Int32)) hx hb dX6_begin_3 (by decide) ?_
  refine va_mmin hx hb (hml.trans hl.1.symm) hown (ht _ mM_X6_15) (ht _ mT_J9_min_7cf53) (ht _ mN_J9) (ht _ mC_J9_min_7cf53) (Nat.le_trans (Nat.le_of_ble_eq_true rfl) hfr) (Nat.le_trans (Nat.le_of_ble_eq_true rfl) hlc) (Nat.zero_le _) (Nat.zero_le _) dX6_begin_5 ?_
  refine va_mmax hx hb (hml.trans hl.1.symm) hown (ht _ mM_X6_21) (ht _ mT_J9_max_7cf53) (ht _ mN_J9) (ht _ mC_J9_max_7cf53) (Nat.le_trans (Nat.le_of_ble_eq_true rfl) hfr) (Nat.le_trans (Nat.le_of_ble_eq_true rfl) hlc) (Nat.zero_le _) (Nat.zero_le _) dX6_begin_8 ?_
  refine va_put (D := D) (ci := 5) (v := .int (if (0 : Int32) < (if (7 : Int32) < a1 then (7 : Int32) else a1) then (if (7 : Int32) < a1 then (7 : Int32) else a1) else (0 : Int32))) (ty := .int) (C := RX6) (T := TX6) (N := 2) hx hb ht in_X6 tyX6 tyX6_ok nmX6 hown hK.1 hP hD hS 0 rfl rfl 0 (by decide) (ht _ mF_X6_24) (fun _ h9 => h9) rfl (by decide +kernel) rfl rfl (Nat.le_of_ble_eq_true rfl) dX6_begin_11 (fun H locs hP hD hS => ?_)
  have hP : va_P D vwCl [(q0, .inr (5, [.int (if (0 : Int32) < (if (7 : Int32) < a1 then (7 : Int32) else a1) then (if (7 : Int32) < a1 then (7 : Int32) else a1) else (0 : Int32)), .ref q1])), (q1, .inl (ci, 7, .inl zorder))] H := hP
  have hD : va_D A [(q0, .inr (5, [.int (if (0 : Int32) < (if (7 : Int32) < a1 then (7 : Int32) else a1) then (if (7 : Int32) < a1 then (7 : Int32) else a1) else (0 : Int32)), .ref q1])), (q1, .inl (ci, 7, .inl zorder))] := hD
  refine lv_iconst (v := (0 : Int32)) hx hb dX6_begin_14 (by decide) ?_
  refine lv_istore_n (lv' := [(2, .int (0 : Int32)), (0, .ref q0), (1, .int a1)]) hx hb dX6_begin_15 rfl hl (by decide) rfl (fun ls hl => ?_)
  refine jn_walk hw (fun J37 => ∀ (zorder_1 : Nat → Int32) (H : Heap) (locs : List Loc) (ls : Array Slot), J37 zorder_1 → va_P D vwCl [(q0, .inr (5, [.int (if (0 : Int32) < (if (7 : Int32) < a1 then (7 : Int32) else a1) then (if (7 : Int32) < a1 then (7 : Int32) else a1) else (0 : Int32)), .ref q1])), (q1, .inl (ci, 7, .inl zorder_1))] H → va_S A s.heap H locs → lv_has ls 3 [(0, .ref q0)] → W p l e R s m args below meth c H locs 0 0 Q (F0 m 37 ls [])) ?_ ?_
  · intro zorder_1 H locs ls hw hP hS hl
    have hD : va_D A [(q0, .inr (5, [.int (if (0 : Int32) < (if (7 : Int32) < a1 then (7 : Int32) else a1) then (if (7 : Int32) < a1 then (7 : Int32) else a1) else (0 : Int32)), .ref q1])), (q1, .inl (ci, 7, .inl zorder_1))] := gD_re hD rfl
    refine lv_aload_n hx hb dX6_begin_37 rfl (lv_at hl 0 rfl) ?_
    refine va_get (D := D) (ci := 5) (v := .int (if (0 : Int32) < (if (7 : Int32) < a1 then (7 : Int32) else a1) then (if (7 : Int32) < a1 then (7 : Int32) else a1) else (0 : Int32))) (C := RX6) (T := TX6) (N := 2) hx hb ht in_X6 hown hK.1 hP 0 rfl rfl 0 (by decide) (ht _ mF_X6_24) (fun _ h9 => h9) rfl dX6_begin_38 ?_
    refine gcalli (va_runSN (host := "DogVotes") (As := [.int (if (0 : Int32) < (if (7 : Int32) < a1 then (7 : Int32) else a1) then (if (7 : Int32) < a1 then (7 : Int32) else a1) else (0 : Int32))]) (rest := []) ⟨hx, hb, hml, hown, ht⟩ (c_X11_factorial l D ci cz tr  H.size (if (0 : Int32) < (if (7 : Int32) < a1 then (7 : Int32) else a1) then (if (7 : Int32) < a1 then (7 : Int32) else a1) else (0 : Int32)) _ hw) ⟨va_cnB 1 ht (gi_code mC_X11_factorial) rfl rfl rfl (hK.2.1 _ _ _ _ mQ_X6_28) (ht _ mN_X11) (by decide +kernel) ⟨Nat.le_trans (Nat.le_of_ble_eq_true rfl) hfr, Nat.le_trans (Nat.le_of_ble_eq_true rfl) hlc⟩, ht _ mT_X11_factorial, trivial⟩ (gpre (wc := []) hK hZ hP hD hS hA [] rfl rfl) rfl rfl hl.1 rfl (lv_room (Nat.le_of_ble_eq_true rfl)) dX6_begin_41 ⟨Nat.zero_le _, Nat.zero_le _⟩) hD hS hA [] rfl (fun r_2 w9 H locs hw hP9 hk9 hS => ?_)
    obtain ⟨rfl, hw⟩ := hw
    have hP : va_P D vwCl [(q0, .inr (5, [.int (if (0 : Int32) < (if (7 : Int32) < a1 then (7 : Int32) else a1) then (if (7 : Int32) < a1 then (7 : Int32) else a1) else (0 : Int32)), .ref q1])), (q1, .inl (ci, 7, .inl zorder_1))] H := gjoin3 hP hD [] hP9 hk9 rfl rfl [none, none] rfl rfl
    clear hP9 hk9
    exact hret _ _ H locs _ _ ⟨_, _, rfl, hw⟩ hP hS dX6_begin_44
  · intro J37 hJ37 hw
    refine lo_walk hw (fun G16 => ∀ (x2_3 : Int32) (zorder_4 : Nat → Int32) (H : Heap) (locs : List Loc) (ls : Array Slot), G16 x2_3 zorder_4 → va_P D vwCl [(q0, .inr (5, [.int (if (0 : Int32) < (if (7 : Int32) < a1 then (7 : Int32) else a1) then (if (7 : Int32) < a1 then (7 : Int32) else a1) else (0 : Int32)), .ref q1])), (q1, .inl (ci, 7, .inl zorder_4))] H → va_S A s.heap H locs → lv_has ls 3 [(0, .ref q0), (2, .int x2_3)] → W p l e R s m args below meth c H locs 0 0 Q (F0 m 16 ls [])) (fun _ _ _ _ _ hw _ _ _ => False.elim hw) (fun G16 hG16 x2_3 zorder_4 H locs ls hw hP hS hl => ?_) (fun G16 hG16 hw => hG16 _ _ H locs ls hw hP hS (lv_sub hl [1, 0] rfl))
    have hD : va_D A [(q0, .inr (5, [.int (if (0 : Int32) < (if (7 : Int32) < a1 then (7 : Int32) else a1) then (if (7 : Int32) < a1 then (7 : Int32) else a1) else (0 : Int32)), .ref q1])), (q1, .inl (ci, 7, .inl zorder_4))] := gD_re hD rfl
    refine lv_iload_n hx hb dX6_begin_16 rfl (lv_at hl 1 rfl) ?_
    refine lv_aload_n hx hb dX6_begin_17 rfl (lv_at hl 0 rfl) ?_
    refine va_get (D := D) (ci := 5) (v := .int (if (0 : Int32) < (if (7 : Int32) < a1 then (7 : Int32) else a1) then (if (7 : Int32) < a1 then (7 : Int32) else a1) else (0 : Int32))) (C := RX6) (T := TX6) (N := 2) hx hb ht in_X6 hown hK.1 hP 0 rfl rfl 0 (by decide) (ht _ mF_X6_24) (fun _ h9 => h9) rfl dX6_begin_18 ?_
    refine lv_icmp_ge (tgt := 37) hx hb dX6_begin_21 (by decide) (fun hc => ?_) (fun hc => ?_)
    · have hw := hw.1 hc
      exact hJ37 _ H locs ls hw hP hS (lv_sub hl [0] rfl)
    · have hw := hw.2 hc
      refine lv_aload_n hx hb dX6_begin_24 rfl (lv_at hl 0 rfl) ?_
      refine va_get (D := D) (ci := 5) (v := .ref q1) (C := RX6) (T := TX6) (N := 2) hx hb ht in_X6 hown hK.1 hP 0 rfl rfl 1 (by decide) (ht _ mF_X6_9) (fun _ h9 => h9) rfl dX6_begin_25 ?_
      refine lv_iload_n hx hb dX6_begin_28 rfl (lv_at hl 1 rfl) ?_
      refine lv_iload_n hx hb dX6_begin_29 rfl (lv_at hl 1 rfl) ?_
      obtain ⟨hin, hw⟩ := hw
      refine va_iast (D := D) hx hb hK.1 hP hD hS 1 0 rfl rfl hin dX6_begin_30 (fun H locs hP hD hS => ?_)
      have hP : va_P D vwCl [(q0, .inr (5, [.int (if (0 : Int32) < (if (7 : Int32) < a1 then (7 : Int32) else a1) then (if (7 : Int32) < a1 then (7 : Int32) else a1) else (0 : Int32)), .ref q1])), (q1, .inl (ci, 7, .inl (upd zorder_4 (x2_3).toNatClampNeg x2_3)))] H := hP
      have hD : va_D A [(q0, .inr (5, [.int (if (0 : Int32) < (if (7 : Int32) < a1 then (7 : Int32) else a1) then (if (7 : Int32) < a1 then (7 : Int32) else a1) else (0 : Int32)), .ref q1])), (q1, .inl (ci, 7, .inl (upd zorder_4 (x2_3).toNatClampNeg x2_3)))] := hD
      refine lv_iinc (v := (x2_3 + (1 : Int32))) (lv' := [(2, .int (x2_3 + (1 : Int32))), (0, .ref q0)]) hx hb dX6_begin_31 hl (k := 1) rfl rfl (by decide) rfl (fun ls hl => ?_)
      refine lv_goto (tgt := 16) hx hb dX6_begin_34 (by decide) ?_
      exact hG16 _ _ H locs ls hw hP hS (lv_sub hl [1, 0] rfl)

def wp_X3_beHungry (zfull : Int32) (zmeals : Nat → Int32)  (post : Int32 → (Nat → Int32) → Prop) : Prop :=
  lo (fun _ _ => False) (fun (G7 : Int32 → (Nat → Int32) → Prop) (x1_1 : Int32) (zmeals_2 : Nat → Int32) => (((7 : Int32) ≤ x1_1 → post (0 : Int32) zmeals_2) ∧ (¬ (7 : Int32) ≤ x1_1 → (vp_in x1_1 7 ∧ G7 (x1_1 + (1 : Int32)) (upd zmeals_2 (x1_1).toNatClampNeg (0 : Int32)))))) (fun G7 => G7 (0 : Int32) zmeals)
set_option maxHeartbeats 4000000 in
set_option maxRecDepth 100000 in
theorem c_X3_beHungry (l : Launch) (D : va_G) (ci cz : ClassId) (tr : List (ClassId × FieldType)) (q0 q1 : Nat) (sz : Nat) (u0 u1 u2 u3 u4 : Value) (zfull : Int32) (zmeals : Nat → Int32)  (post : Int32 → (Nat → Int32) → Prop) (hw : wp_X3_beHungry zfull zmeals post) : gM l yX3_beHungry cX3_beHungry 2 none 0 0 D ci cz tr [(q0, .inr (2, [u0, u1, u2, u3, u4, .ref q1, .int zfull])), (q1, .inl (ci, 7, .inl zmeals))] sz [.ref q0] (gQv D [(q0, .inr (2, [u0, u1, u2, u3, u4, .ref q1, .int zfull])), (q1, .inl (ci, 7, .inl zmeals))] sz (fun w => ∃ (o_zfull : Int32) (o_zmeals : Nat → Int32), w = [(q0, .inr (2, [u0, u1, u2, u3, u4, .ref q1, .int o_zfull])), (q1, .inl (ci, 7, .inl o_zmeals))] ∧ post o_zfull o_zmeals)) := by
  refine gmet_v RX3 (by decide +kernel) rfl (Nat.le_of_ble_eq_true rfl) ?_
  intro p e s m args below meth c A R Q C hfr hlc hP hD hret ls hl
  obtain ⟨hx, hb, hml, hown, ht, hK, hZ, hA⟩ := C
  have hl : lv_has ls 2 [(0, .ref q0)] := hl
  unfold wp_X3_beHungry at hw
  refine g_in (fun H locs => W p l e R s m args below meth c H locs 0 0 Q (F0 m 0 ls [])) (fun H locs hS0 hP => ?_) hP (va_S.rf (A := A) (H0 := s.heap))
  have hS : va_S A s.heap H locs := hS0
  clear hS0
  refine lv_aload_n hx hb dX3_beHungry_0 rfl (lv_at hl 0 rfl) ?_
  refine lv_iconst (v := (0 : Int32)) hx hb dX3_beHungry_1 (by decide) ?_
  refine va_put (D := D) (ci := 2) (v := .int (0 : Int32)) (ty := .int) (C := RX3) (T := TX3) (N := 7) hx hb ht in_X3 tyX3 tyX3_ok nmX3 hown hK.1 hP hD hS 0 rfl rfl 6 (by decide) (ht _ mF_X3_83) (fun _ h9 => h9) rfl (by decide +kernel) rfl rfl (Nat.le_of_ble_eq_true rfl) dX3_beHungry_2 (fun H locs hP hD hS => ?_)
  have hP : va_P D vwCl [(q0, .inr (2, [u0, u1, u2, u3, u4, .ref q1, .int (0 : Int32)])), (q1, .inl (ci, 7, .inl zmeals))] H := hP
  have hD : va_D A [(q0, .inr (2, [u0, u1, u2, u3, u4, .ref q1, .int (0 : Int32)])), (q1, .inl (ci, 7, .inl zmeals))] := hD
  refine lv_iconst (v := (0 : Int32)) hx hb dX3_beHungry_5 (by decide) ?_
  refine lv_istore_n (lv' := [(1, .int (0 : Int32)), (0, .ref q0)]) hx hb dX3_beHungry_6 rfl hl (by decide) rfl (fun ls hl => ?_)
  refine lo_walk hw (fun G7 => ∀ (x1_1 : Int32) (zmeals_2 : Nat → Int32) (H : Heap) (locs : List Loc) (ls : Array Slot), G7 x1_1 zmeals_2 → va_P D vwCl [(q0, .inr (2, [u0, u1, u2, u3, u4, .ref q1, .int (0 : Int32)])), (q1, .inl (ci, 7, .inl zmeals_2))] H → va_S A s.heap H locs → lv_has ls 2 [(0, .ref q0), (1, .int x1_1)] → W p l e R s m args below meth c H locs 0 0 Q (F0 m 7 ls [])) (fun _ _ _ _ _ hw _ _ _ => False.elim hw) (fun G7 hG7 x1_1 zmeals_2 H locs ls hw hP hS hl => ?_) (fun G7 hG7 hw => hG7 _ _ H locs ls hw hP hS (lv_sub hl [1, 0] rfl))
  have hD : va_D A [(q0, .inr (2, [u0, u1, u2, u3, u4, .ref q1, .int (0 : Int32)])), (q1, .inl (ci, 7, .inl zmeals_2))] := gD_re hD rfl
  refine lv_iload_n hx hb dX3_beHungry_7 rfl (lv_at hl 1 rfl) ?_
  refine lv_bipush (v := (7 : Int32)) hx hb dX3_beHungry_8 (by decide) ?_
  refine lv_icmp_ge (tgt := 26) hx hb dX3_beHungry_10 (by decide) (fun hc => ?_) (fun hc => ?_)
  · have hw := hw.1 hc
    exact hret _ H locs _ _ ⟨_, _, rfl, hw⟩ hP hS dX3_beHungry_26
  · have hw := hw.2 hc
    refine lv_aload_n hx hb dX3_beHungry_13 rfl (lv_at hl 0 rfl) ?_
    refine va_get (D := D) (ci := 2) (v := .ref q1) (C := RX3) (T := TX3) (N := 7) hx hb ht in_X3 hown hK.1 hP 0 rfl rfl 5 (by decide) (ht _ mF_X3_29) (fun _ h9 => h9) rfl dX3_beHungry_14 ?_
    refine lv_iload_n hx hb dX3_beHungry_17 rfl (lv_at hl 1 rfl) ?_
    refine lv_iconst (v := (0 : Int32)) hx hb dX3_beHungry_18 (by decide) ?_
    obtain ⟨hin, hw⟩ := hw
    refine va_iast (D := D) hx hb hK.1 hP hD hS 1 0 rfl rfl hin dX3_beHungry_19 (fun H locs hP hD hS => ?_)
    have hP : va_P D vwCl [(q0, .inr (2, [u0, u1, u2, u3, u4, .ref q1, .int (0 : Int32)])), (q1, .inl (ci, 7, .inl (upd zmeals_2 (x1_1).toNatClampNeg (0 : Int32))))] H := hP
    have hD : va_D A [(q0, .inr (2, [u0, u1, u2, u3, u4, .ref q1, .int (0 : Int32)])), (q1, .inl (ci, 7, .inl (upd zmeals_2 (x1_1).toNatClampNeg (0 : Int32))))] := hD
    refine lv_iinc (v := (x1_1 + (1 : Int32))) (lv' := [(1, .int (x1_1 + (1 : Int32))), (0, .ref q0)]) hx hb dX3_beHungry_20 hl (k := 1) rfl rfl (by decide) rfl (fun ls hl => ?_)
    refine lv_goto (tgt := 7) hx hb dX3_beHungry_23 (by decide) ?_
    exact hG7 _ _ H locs ls hw hP hS (lv_sub hl [1, 0] rfl)

def wp_X3_feed (zfull : Int32) (zmeals : Nat → Int32) (a1 : Int32) (a2 : Int32) (post : Int32 → (Nat → Int32) → Prop) : Prop :=
  lo (fun _ _ _ => False) (fun (G2 : Int32 → Int32 → (Nat → Int32) → Prop) (x3_1 : Int32) (zfull_2 : Int32) (zmeals_3 : Nat → Int32) => (((7 : Int32) ≤ x3_1 → post zfull_2 zmeals_3) ∧ (¬ (7 : Int32) ≤ x3_1 → (vp_in x3_1 7 ∧ (vp_in x3_1 7 ∧ (vp_in x3_1 7 ∧ ((((upd zmeals_3 (x3_1).toNatClampNeg ((zmeals_3 (x3_1).toNatClampNeg) + ((a1 >>> (x3_1 &&& 31)) &&& (1 : Int32)))) (x3_1).toNatClampNeg) < a2 → G2 (x3_1 + (1 : Int32)) zfull_2 (upd zmeals_3 (x3_1).toNatClampNeg ((zmeals_3 (x3_1).toNatClampNeg) + ((a1 >>> (x3_1 &&& 31)) &&& (1 : Int32))))) ∧ (¬ ((upd zmeals_3 (x3_1).toNatClampNeg ((zmeals_3 (x3_1).toNatClampNeg) + ((a1 >>> (x3_1 &&& 31)) &&& (1 : Int32)))) (x3_1).toNatClampNeg) < a2 → G2 (x3_1 + (1 : Int32)) (zfull_2 ||| ((1 : Int32) <<< (x3_1 &&& 31))) (upd zmeals_3 (x3_1).toNatClampNeg ((zmeals_3 (x3_1).toNatClampNeg) + ((a1 >>> (x3_1 &&& 31)) &&& (1 : Int32)))))))))))) (fun G2 => G2 (0 : Int32) zfull zmeals)
set_option maxHeartbeats 4000000 in
set_option maxRecDepth 100000 in
theorem c_X3_feed (l : Launch) (D : va_G) (ci cz : ClassId) (tr : List (ClassId × FieldType)) (q0 q1 : Nat) (sz : Nat) (u0 u1 u2 u3 u4 : Value) (zfull : Int32) (zmeals : Nat → Int32) (a1 : Int32) (a2 : Int32) (post : Int32 → (Nat → Int32) → Prop) (hw : wp_X3_feed zfull zmeals a1 a2 post) : gM l yX3_feed cX3_feed 4 none 0 0 D ci cz tr [(q0, .inr (2, [u0, u1, u2, u3, u4, .ref q1, .int zfull])), (q1, .inl (ci, 7, .inl zmeals))] sz [.ref q0, .int a1, .int a2] (gQv D [(q0, .inr (2, [u0, u1, u2, u3, u4, .ref q1, .int zfull])), (q1, .inl (ci, 7, .inl zmeals))] sz (fun w => ∃ (o_zfull : Int32) (o_zmeals : Nat → Int32), w = [(q0, .inr (2, [u0, u1, u2, u3, u4, .ref q1, .int o_zfull])), (q1, .inl (ci, 7, .inl o_zmeals))] ∧ post o_zfull o_zmeals)) := by
  refine gmet_v RX3 (by decide +kernel) rfl (Nat.le_of_ble_eq_true rfl) ?_
  intro p e s m args below meth c A R Q C hfr hlc hP hD hret ls hl
  obtain ⟨hx, hb, hml, hown, ht, hK, hZ, hA⟩ := C
  have hl : lv_has ls 4 [(0, .ref q0), (1, .int a1), (2, .int a2)] := hl
  unfold wp_X3_feed at hw
  refine g_in (fun H locs => W p l e R s m args below meth c H locs 0 0 Q (F0 m 0 ls [])) (fun H locs hS0 hP => ?_) hP (va_S.rf (A := A) (H0 := s.heap))
  have hS : va_S A s.heap H locs := hS0
  clear hS0
  refine lv_iconst (v := (0 : Int32)) hx hb dX3_feed_0 (by decide) ?_
  refine lv_istore_n (lv' := [(3, .int (0 : Int32)), (0, .ref q0), (1, .int a1), (2, .int a2)]) hx hb dX3_feed_1 rfl hl (by decide) rfl (fun ls hl => ?_)
  refine lo_walk hw (fun G2 => ∀ (x3_1 : Int32) (zfull_2 : Int32) (zmeals_3 : Nat → Int32) (H : Heap) (locs : List Loc) (ls : Array Slot), G2 x3_1 zfull_2 zmeals_3 → va_P D vwCl [(q0, .inr (2, [u0, u1, u2, u3, u4, .ref q1, .int zfull_2])), (q1, .inl (ci, 7, .inl zmeals_3))] H → va_S A s.heap H locs → lv_has ls 4 [(0, .ref q0), (1, .int a1), (2, .int a2), (3, .int x3_1)] → W p l e R s m args below meth c H locs 0 0 Q (F0 m 2 ls [])) (fun _ _ _ _ _ _ hw _ _ _ => False.elim hw) (fun G2 hG2 x3_1 zfull_2 zmeals_3 H locs ls hw hP hS hl => ?_) (fun G2 hG2 hw => hG2 _ _ _ H locs ls hw hP hS (lv_sub hl [1, 2, 3, 0] rfl))
  have hD : va_D A [(q0, .inr (2, [u0, u1, u2, u3, u4, .ref q1, .int zfull_2])), (q1, .inl (ci, 7, .inl zmeals_3))] := gD_re hD rfl
  refine lv_iload_n hx hb dX3_feed_2 rfl (lv_at hl 3 rfl) ?_
  refine lv_bipush (v := (7 : Int32)) hx hb dX3_feed_3 (by decide) ?_
  refine lv_icmp_ge (tgt := 50) hx hb dX3_feed_5 (by decide) (fun hc => ?_) (fun hc => ?_)
  · have hw := hw.1 hc
    exact hret _ H locs _ _ ⟨_, _, rfl, hw⟩ hP hS dX3_feed_50
  · have hw := hw.2 hc
    refine lv_aload_n hx hb dX3_feed_8 rfl (lv_at hl 0 rfl) ?_
    refine va_get (D := D) (ci := 2) (v := .ref q1) (C := RX3) (T := TX3) (N := 7) hx hb ht in_X3 hown hK.1 hP 0 rfl rfl 5 (by decide) (ht _ mF_X3_29) (fun _ h9 => h9) rfl dX3_feed_9 ?_
    refine lv_iload_n hx hb dX3_feed_12 rfl (lv_at hl 3 rfl) ?_
    refine lv_dup2_11 hx hb dX3_feed_13 rfl rfl ?_
    obtain ⟨hin, hw⟩ := hw
    refine va_iald (D := D) hx hb hK.1 hP 1 0 rfl rfl hin dX3_feed_14 ?_
    refine lv_iload_n hx hb dX3_feed_15 rfl (lv_at hl 1 rfl) ?_
    refine lv_iload_n hx hb dX3_feed_16 rfl (lv_at hl 3 rfl) ?_
    refine lv_ishr hx hb dX3_feed_17 ?_
    refine lv_iconst (v := (1 : Int32)) hx hb dX3_feed_18 (by decide) ?_
    refine lv_iand hx hb dX3_feed_19 ?_
    refine lv_iadd hx hb dX3_feed_20 ?_
    obtain ⟨hin, hw⟩ := hw
    refine va_iast (D := D) hx hb hK.1 hP hD hS 1 0 rfl rfl hin dX3_feed_21 (fun H locs hP hD hS => ?_)
    have hP : va_P D vwCl [(q0, .inr (2, [u0, u1, u2, u3, u4, .ref q1, .int zfull_2])), (q1, .inl (ci, 7, .inl (upd zmeals_3 (x3_1).toNatClampNeg ((zmeals_3 (x3_1).toNatClampNeg) + ((a1 >>> (x3_1 &&& 31)) &&& (1 : Int32))))))] H := hP
    have hD : va_D A [(q0, .inr (2, [u0, u1, u2, u3, u4, .ref q1, .int zfull_2])), (q1, .inl (ci, 7, .inl (upd zmeals_3 (x3_1).toNatClampNeg ((zmeals_3 (x3_1).toNatClampNeg) + ((a1 >>> (x3_1 &&& 31)) &&& (1 : Int32))))))] := hD
    refine lv_aload_n hx hb dX3_feed_22 rfl (lv_at hl 0 rfl) ?_
    refine va_get (D := D) (ci := 2) (v := .ref q1) (C := RX3) (T := TX3) (N := 7) hx hb ht in_X3 hown hK.1 hP 0 rfl rfl 5 (by decide) (ht _ mF_X3_29) (fun _ h9 => h9) rfl dX3_feed_23 ?_
    refine lv_iload_n hx hb dX3_feed_26 rfl (lv_at hl 3 rfl) ?_
    obtain ⟨hin, hw⟩ := hw
    refine va_iald (D := D) hx hb hK.1 hP 1 0 rfl rfl hin dX3_feed_27 ?_
    refine lv_iload_n hx hb dX3_feed_28 rfl (lv_at hl 2 rfl) ?_
    refine lv_icmp_lt (tgt := 44) hx hb dX3_feed_29 (by decide) (fun hc => ?_) (fun hc => ?_)
    · have hw := hw.1 hc
      refine lv_iinc (v := (x3_1 + (1 : Int32))) (lv' := [(3, .int (x3_1 + (1 : Int32))), (0, .ref q0), (1, .int a1), (2, .int a2)]) hx hb dX3_feed_44 hl (k := 3) rfl rfl (by decide) rfl (fun ls hl => ?_)
      refine lv_goto (tgt := 2) hx hb dX3_feed_47 (by decide) ?_
      exact hG2 _ _ _ H locs ls hw hP hS (lv_sub hl [1, 2, 3, 0] rfl)
    · have hw := hw.2 hc
      refine lv_aload_n hx hb dX3_feed_32 rfl (lv_at hl 0 rfl) ?_
      refine lv_dup hx hb dX3_feed_33 rfl ?_
      refine va_get (D := D) (ci := 2) (v := .int zfull_2) (C := RX3) (T := TX3) (N := 7) hx hb ht in_X3 hown hK.1 hP 0 rfl rfl 6 (by decide) (ht _ mF_X3_83) (fun _ h9 => h9) rfl dX3_feed_34 ?_
      refine lv_iconst (v := (1 : Int32)) hx hb dX3_feed_37 (by decide) ?_
      refine lv_iload_n hx hb dX3_feed_38 rfl (lv_at hl 3 rfl) ?_
      refine lv_ishl hx hb dX3_feed_39 ?_
      refine lv_ior hx hb dX3_feed_40 ?_
      refine va_put (D := D) (ci := 2) (v := .int (zfull_2 ||| ((1 : Int32) <<< (x3_1 &&& 31)))) (ty := .int) (C := RX3) (T := TX3) (N := 7) hx hb ht in_X3 tyX3 tyX3_ok nmX3 hown hK.1 hP hD hS 0 rfl rfl 6 (by decide) (ht _ mF_X3_83) (fun _ h9 => h9) rfl (by decide +kernel) rfl rfl (Nat.le_of_ble_eq_true rfl) dX3_feed_41 (fun H locs hP hD hS => ?_)
      have hP : va_P D vwCl [(q0, .inr (2, [u0, u1, u2, u3, u4, .ref q1, .int (zfull_2 ||| ((1 : Int32) <<< (x3_1 &&& 31)))])), (q1, .inl (ci, 7, .inl (upd zmeals_3 (x3_1).toNatClampNeg ((zmeals_3 (x3_1).toNatClampNeg) + ((a1 >>> (x3_1 &&& 31)) &&& (1 : Int32))))))] H := hP
      have hD : va_D A [(q0, .inr (2, [u0, u1, u2, u3, u4, .ref q1, .int (zfull_2 ||| ((1 : Int32) <<< (x3_1 &&& 31)))])), (q1, .inl (ci, 7, .inl (upd zmeals_3 (x3_1).toNatClampNeg ((zmeals_3 (x3_1).toNatClampNeg) + ((a1 >>> (x3_1 &&& 31)) &&& (1 : Int32))))))] := hD
      refine lv_iinc (v := (x3_1 + (1 : Int32))) (lv' := [(3, .int (x3_1 + (1 : Int32))), (0, .ref q0), (1, .int a1), (2, .int a2)]) hx hb dX3_feed_44 hl (k := 3) rfl rfl (by decide) rfl (fun ls hl => ?_)
      refine lv_goto (tgt := 2) hx hb dX3_feed_47 (by decide) ?_
      exact hG2 _ _ _ H locs ls hw hP hS (lv_sub hl [1, 2, 3, 0] rfl)

def wp_X3_worthsOf (zfull : Int32) (zorders_size : Int32) (zorders_order : Nat → Int32) (zballot_left : Int32) (zballot_right : Int32) (zballot_leftDogs : Int32) (zballot_rightDogs : Int32) (zmeals : Nat → Int32) (zp1_hunger : Int32) (zp1_roll_dogs : Int32) (zp1_roll_halves : Nat → Int32) (zp1_roll_likings : Nat → Int32) (zp1_roll_fears : Nat → Int32) (zp1_questions_size : Int32) (zp1_questions_lefts : Nat → Int32) (zp1_questions_rights : Nat → Int32) (zp1_questions_numbers : Nat → Int32)  (post : Int32 → Int32 → Int32 → Int32 → Int32 → Int32 → (Nat → Int32) → Prop) : Prop :=
  wp_X3_beHungry zfull zmeals (fun (zfull_2 : Int32) (zmeals_3 : Nat → Int32) => lo (fun _ _ _ _ _ _ _ _ => False) (fun (G14 : Int32 → Int32 → Int32 → Int32 → Int32 → Int32 → Int32 → (Nat → Int32) → Prop) (x3_4 : Int32) (x4_5 : Int32) (zfull_6 : Int32) (zballot_left_7 : Int32) (zballot_right_8 : Int32) (zballot_leftDogs_9 : Int32) (zballot_rightDogs_10 : Int32) (zmeals_11 : Nat → Int32) => ((zorders_size ≤ x4_5 → post x3_4 zfull_6 zballot_left_7 zballot_right_8 zballot_leftDogs_9 zballot_rightDogs_10 zmeals_11) ∧ (¬ zorders_size ≤ x4_5 → (vp_in x4_5 7 ∧ (((zorders_order (x4_5).toNatClampNeg) < 0 → G14 x3_4 (x4_5 + (1 : Int32)) zfull_6 zballot_left_7 zballot_right_8 zballot_leftDogs_9 zballot_rightDogs_10 zmeals_11) ∧ (¬ (zorders_order (x4_5).toNatClampNeg) < 0 → (((zorders_order (x4_5).toNatClampNeg) < zp1_questions_size → (vp_in (zorders_order (x4_5).toNatClampNeg) 5 ∧ (vp_in (zorders_order (x4_5).toNatClampNeg) 5 ∧ wp_X0_hold zballot_left_7 zballot_right_8 zballot_leftDogs_9 zballot_rightDogs_10 zp1_roll_dogs zp1_roll_halves zp1_roll_likings zp1_roll_fears ((zp1_questions_lefts ((zorders_order (x4_5).toNatClampNeg)).toNatClampNeg) - (zp1_questions_rights ((zorders_order (x4_5).toNatClampNeg)).toNatClampNeg)) (0 : Int32) zfull_6 (fun (zballot_left_13 : Int32) (zballot_right_14 : Int32) (zballot_leftDogs_15 : Int32) (zballot_rightDogs_16 : Int32) => wp_X0_winner zballot_left_13 zballot_right_14 (fun (r_17 : Int32) => jn (fun (x3_18 : Int32) => jn (fun (t_19 : Int32) => jn (fun (t_20 : Int32) => wp_X3_feed zfull_6 zmeals_11 (t_19 ||| t_20) zp1_hunger (fun (zfull_22 : Int32) (zmeals_23 : Nat → Int32) => G14 x3_18 (x4_5 + (1 : Int32)) zfull_22 zballot_left_13 zballot_right_14 zballot_leftDogs_15 zballot_rightDogs_16 zmeals_23)) (fun (J147 : Int32 → Prop) => (((zp1_questions_rights ((zorders_order (x4_5).toNatClampNeg)).toNatClampNeg) ≤ 0 → J147 (0 : Int32)) ∧ (¬ (zp1_questions_rights ((zorders_order (x4_5).toNatClampNeg)).toNatClampNeg) ≤ 0 → J147 zballot_rightDogs_16)))) (fun (J131 : Int32 → Prop) => (((zp1_questions_lefts ((zorders_order (x4_5).toNatClampNeg)).toNatClampNeg) ≤ 0 → J131 (0 : Int32)) ∧ (¬ (zp1_questions_lefts ((zorders_order (x4_5).toNatClampNeg)).toNatClampNeg) ≤ 0 → J131 zballot_leftDogs_15)))) (fun (J114 : Int32 → Prop) => ((¬ r_17 = 0 → J114 x3_4) ∧ (r_17 = 0 → (vp_in (zorders_order (x4_5).toNatClampNeg) 5 ∧ J114 (x3_4 + (zp1_questions_numbers ((zorders_order (x4_5).toNatClampNeg)).toNatClampNeg))))))))))) ∧ (¬ (zorders_order (x4_5).toNatClampNeg) < zp1_questions_size → G14 x3_4 (x4_5 + (1 : Int32)) zfull_6 zballot_left_7 zballot_right_8 zballot_leftDogs_9 zballot_rightDogs_10 zmeals_11)))))))) (fun G14 => G14 (0 : Int32) (0 : Int32) zfull_2 zballot_left zballot_right zballot_leftDogs zballot_rightDogs zmeals_3))
set_option maxHeartbeats 4000000 in
set_option maxRecDepth 100000 in
theorem c_X3_worthsOf (l : Launch) (D : va_G) (ci cz : ClassId) (tr : List (ClassId × FieldType)) (q0 q1 q2 q3 q4 q5 q6 q7 q8 q9 q10 q11 q12 q13 : Nat) (sz : Nat) (u0 u1 u2 u3 u4 u5 : Value) (zfull : Int32) (zorders_size : Int32) (zorders_order : Nat → Int32) (zballot_left : Int32) (zballot_right : Int32) (zballot_leftDogs : Int32) (zballot_rightDogs : Int32) (zmeals : Nat → Int32) (zp1_hunger : Int32) (zp1_roll_dogs : Int32) (zp1_roll_halves : Nat → Int32) (zp1_roll_likings : Nat → Int32) (zp1_roll_fears : Nat → Int32) (zp1_questions_size : Int32) (zp1_questions_lefts : Nat → Int32) (zp1_questions_rights : Nat → Int32) (zp1_questions_numbers : Nat → Int32)  (post : Int32 → Int32 → Int32 → Int32 → Int32 → Int32 → (Nat → Int32) → Prop) (hw : wp_X3_worthsOf zfull zorders_size zorders_order zballot_left zballot_right zballot_leftDogs zballot_rightDogs zmeals zp1_hunger zp1_roll_dogs zp1_roll_halves zp1_roll_likings zp1_roll_fears zp1_questions_size zp1_questions_lefts zp1_questions_rights zp1_questions_numbers post) : gM l yX3_worthsOf cX3_worthsOf 8 (some .int) 3 73 D ci cz tr [(q0, .inr (2, [u0, u1, u2, .ref q1, .ref q3, .ref q4, .int zfull])), (q1, .inr (5, [.int zorders_size, .ref q2])), (q2, .inl (ci, 7, .inl zorders_order)), (q3, .inr (0, [.int zballot_left, .int zballot_right, .int zballot_leftDogs, .int zballot_rightDogs])), (q4, .inl (ci, 7, .inl zmeals)), (q5, .inr (7, [.ref q6, u3, .ref q10, .int zp1_hunger])), (q6, .inr (8, [.int zp1_roll_dogs, u4, .ref q7, .ref q8, .ref q9, u5])), (q7, .inl (ci, 7, .inl zp1_roll_halves)), (q8, .inl (ci, 7, .inl zp1_roll_likings)), (q9, .inl (ci, 7, .inl zp1_roll_fears)), (q10, .inr (9, [.int zp1_questions_size, .ref q11, .ref q12, .ref q13])), (q11, .inl (ci, 5, .inl zp1_questions_lefts)), (q12, .inl (ci, 5, .inl zp1_questions_rights)), (q13, .inl (ci, 5, .inl zp1_questions_numbers))] sz [.ref q0, .ref q5] (gQi D [(q0, .inr (2, [u0, u1, u2, .ref q1, .ref q3, .ref q4, .int zfull])), (q1, .inr (5, [.int zorders_size, .ref q2])), (q2, .inl (ci, 7, .inl zorders_order)), (q3, .inr (0, [.int zballot_left, .int zballot_right, .int zballot_leftDogs, .int zballot_rightDogs])), (q4, .inl (ci, 7, .inl zmeals)), (q5, .inr (7, [.ref q6, u3, .ref q10, .int zp1_hunger])), (q6, .inr (8, [.int zp1_roll_dogs, u4, .ref q7, .ref q8, .ref q9, u5])), (q7, .inl (ci, 7, .inl zp1_roll_halves)), (q8, .inl (ci, 7, .inl zp1_roll_likings)), (q9, .inl (ci, 7, .inl zp1_roll_fears)), (q10, .inr (9, [.int zp1_questions_size, .ref q11, .ref q12, .ref q13])), (q11, .inl (ci, 5, .inl zp1_questions_lefts)), (q12, .inl (ci, 5, .inl zp1_questions_rights)), (q13, .inl (ci, 5, .inl zp1_questions_numbers))] sz (fun (r : Int32) w => ∃ (o_zfull : Int32) (o_zballot_left : Int32) (o_zballot_right : Int32) (o_zballot_leftDogs : Int32) (o_zballot_rightDogs : Int32) (o_zmeals : Nat → Int32), w = [(q0, .inr (2, [u0, u1, u2, .ref q1, .ref q3, .ref q4, .int o_zfull])), (q1, .inr (5, [.int zorders_size, .ref q2])), (q2, .inl (ci, 7, .inl zorders_order)), (q3, .inr (0, [.int o_zballot_left, .int o_zballot_right, .int o_zballot_leftDogs, .int o_zballot_rightDogs])), (q4, .inl (ci, 7, .inl o_zmeals)), (q5, .inr (7, [.ref q6, u3, .ref q10, .int zp1_hunger])), (q6, .inr (8, [.int zp1_roll_dogs, u4, .ref q7, .ref q8, .ref q9, u5])), (q7, .inl (ci, 7, .inl zp1_roll_halves)), (q8, .inl (ci, 7, .inl zp1_roll_likings)), (q9, .inl (ci, 7, .inl zp1_roll_fears)), (q10, .inr (9, [.int zp1_questions_size, .ref q11, .ref q12, .ref q13])), (q11, .inl (ci, 5, .inl zp1_questions_lefts)), (q12, .inl (ci, 5, .inl zp1_questions_rights)), (q13, .inl (ci, 5, .inl zp1_questions_numbers))] ∧ post r o_zfull o_zballot_left o_zballot_right o_zballot_leftDogs o_zballot_rightDogs o_zmeals)) := by
  refine gmet_i RX3 (by decide +kernel) rfl (Nat.le_of_ble_eq_true rfl) ?_
  intro p e s m args below meth c A R Q C hfr hlc hP hD hret ls hl
  obtain ⟨hx, hb, hml, hown, ht, hK, hZ, hA⟩ := C
  have hl : lv_has ls 8 [(0, .ref q0), (1, .ref q5)] := hl
  unfold wp_X3_worthsOf at hw
  refine g_in (fun H locs => W p l e R s m args below meth c H locs 0 0 Q (F0 m 0 ls [])) (fun H locs hS0 hP => ?_) hP (va_S.rf (A := A) (H0 := s.heap))
  have hS : va_S A s.heap H locs := hS0
  clear hS0
  refine lv_aload_n hx hb dX3_worthsOf_0 rfl (lv_at hl 1 rfl) ?_
  refine va_get (D := D) (ci := 7) (v := .ref q10) (C := RX8) (T := TX8) (N := 4) hx hb ht in_X8 hown hK.1 hP 5 rfl rfl 2 (by decide) (ht _ mF_X3_40) (fun _ h9 => h9) rfl dX3_worthsOf_1 ?_
  refine lv_astore_n (lv' := [(2, .ref q10), (0, .ref q0), (1, .ref q5)]) hx hb dX3_worthsOf_4 rfl hl (by decide) rfl (fun ls hl => ?_)
  refine lv_aload_n hx hb dX3_worthsOf_5 rfl (lv_at hl 1 rfl) ?_
  refine gcallv (va_runV (As := []) (rest := []) ⟨hx, hb, hml, hown, ht⟩ (c_X3_beHungry l D ci cz tr q0 q4 H.size u0 u1 u2 (.ref q1) (.ref q3) zfull zmeals _ hw) (cwV 0 ht (gi_V mM_X3_69 mI_X3_beHungry mS_X3_beHungry mN_X3 mC_X3_beHungry) rfl rfl rfl (by decide +kernel) ⟨Nat.le_trans (Nat.le_of_ble_eq_true rfl) hfr, Nat.le_trans (Nat.le_of_ble_eq_true rfl) hlc⟩) (gpreV (wc := [(q0, .inr (2, [u0, u1, u2, .ref q1, .ref q3, .ref q4, .int zfull])), (q4, .inl (ci, 7, .inl zmeals))]) (k := 2) (q0 := 0) hK hZ hP hD hS hA [0, 4] rfl rfl rfl rfl rfl) rfl rfl hl.1 rfl (lv_room (Nat.le_of_ble_eq_true rfl)) dX3_worthsOf_6 ⟨Nat.zero_le _, Nat.zero_le _⟩) hD hS hA [0, 4] rfl (fun w9 H locs hw hP9 hk9 hS => ?_)
  obtain ⟨zfull_2, zmeals_3, rfl, hw⟩ := hw
  have hP : va_P D vwCl [(q0, .inr (2, [u0, u1, u2, .ref q1, .ref q3, .ref q4, .int zfull_2])), (q1, .inr (5, [.int zorders_size, .ref q2])), (q2, .inl (ci, 7, .inl zorders_order)), (q3, .inr (0, [.int zballot_left, .int zballot_right, .int zballot_leftDogs, .int zballot_rightDogs])), (q4, .inl (ci, 7, .inl zmeals_3)), (q5, .inr (7, [.ref q6, u3, .ref q10, .int zp1_hunger])), (q6, .inr (8, [.int zp1_roll_dogs, u4, .ref q7, .ref q8, .ref q9, u5])), (q7, .inl (ci, 7, .inl zp1_roll_halves)), (q8, .inl (ci, 7, .inl zp1_roll_likings)), (q9, .inl (ci, 7, .inl zp1_roll_fears)), (q10, .inr (9, [.int zp1_questions_size, .ref q11, .ref q12, .ref q13])), (q11, .inl (ci, 5, .inl zp1_questions_lefts)), (q12, .inl (ci, 5, .inl zp1_questions_rights)), (q13, .inl (ci, 5, .inl zp1_questions_numbers))] H := gjoin3 hP hD [0, 4] hP9 hk9 rfl rfl [some 0, none, none, none, some 1, none, none, none, none, none, none, none, none, none] rfl rfl
  have hD : va_D A [(q0, .inr (2, [u0, u1, u2, .ref q1, .ref q3, .ref q4, .int zfull_2])), (q1, .inr (5, [.int zorders_size, .ref q2])), (q2, .inl (ci, 7, .inl zorders_order)), (q3, .inr (0, [.int zballot_left, .int zballot_right, .int zballot_leftDogs, .int zballot_rightDogs])), (q4, .inl (ci, 7, .inl zmeals_3)), (q5, .inr (7, [.ref q6, u3, .ref q10, .int zp1_hunger])), (q6, .inr (8, [.int zp1_roll_dogs, u4, .ref q7, .ref q8, .ref q9, u5])), (q7, .inl (ci, 7, .inl zp1_roll_halves)), (q8, .inl (ci, 7, .inl zp1_roll_likings)), (q9, .inl (ci, 7, .inl zp1_roll_fears)), (q10, .inr (9, [.int zp1_questions_size, .ref q11, .ref q12, .ref q13])), (q11, .inl (ci, 5, .inl zp1_questions_lefts)), (q12, .inl (ci, 5, .inl zp1_questions_rights)), (q13, .inl (ci, 5, .inl zp1_questions_numbers))] := gD_re hD rfl
  clear hP9 hk9
  refine lv_iconst (v := (0 : Int32)) hx hb dX3_worthsOf_9 (by decide) ?_
  refine lv_istore_n (lv' := [(3, .int (0 : Int32)), (2, .ref q10), (0, .ref q0), (1, .ref q5)]) hx hb dX3_worthsOf_10 rfl hl (by decide) rfl (fun ls hl => ?_)
  refine lv_iconst (v := (0 : Int32)) hx hb dX3_worthsOf_11 (by decide) ?_
  refine lv_istore (lv' := [(4, .int (0 : Int32)), (3, .int (0 : Int32)), (2, .ref q10), (0, .ref q0), (1, .ref q5)]) hx hb dX3_worthsOf_12 hl (by decide) rfl (fun ls hl => ?_)
  refine lo_walk hw (fun G14 => ∀ (x3_4 : Int32) (x4_5 : Int32) (zfull_6 : Int32) (zballot_left_7 : Int32) (zballot_right_8 : Int32) (zballot_leftDogs_9 : Int32) (zballot_rightDogs_10 : Int32) (zmeals_11 : Nat → Int32) (H : Heap) (locs : List Loc) (ls : Array Slot), G14 x3_4 x4_5 zfull_6 zballot_left_7 zballot_right_8 zballot_leftDogs_9 zballot_rightDogs_10 zmeals_11 → va_P D vwCl [(q0, .inr (2, [u0, u1, u2, .ref q1, .ref q3, .ref q4, .int zfull_6])), (q1, .inr (5, [.int zorders_size, .ref q2])), (q2, .inl (ci, 7, .inl zorders_order)), (q3, .inr (0, [.int zballot_left_7, .int zballot_right_8, .int zballot_leftDogs_9, .int zballot_rightDogs_10])), (q4, .inl (ci, 7, .inl zmeals_11)), (q5, .inr (7, [.ref q6, u3, .ref q10, .int zp1_hunger])), (q6, .inr (8, [.int zp1_roll_dogs, u4, .ref q7, .ref q8, .ref q9, u5])), (q7, .inl (ci, 7, .inl zp1_roll_halves)), (q8, .inl (ci, 7, .inl zp1_roll_likings)), (q9, .inl (ci, 7, .inl zp1_roll_fears)), (q10, .inr (9, [.int zp1_questions_size, .ref q11, .ref q12, .ref q13])), (q11, .inl (ci, 5, .inl zp1_questions_lefts)), (q12, .inl (ci, 5, .inl zp1_questions_rights)), (q13, .inl (ci, 5, .inl zp1_questions_numbers))] H → va_S A s.heap H locs → lv_has ls 8 [(0, .ref q0), (1, .ref q5), (2, .ref q10), (3, .int x3_4), (4, .int x4_5)] → W p l e R s m args below meth c H locs 0 0 Q (F0 m 14 ls [])) (fun _ _ _ _ _ _ _ _ _ _ _ hw _ _ _ => False.elim hw) (fun G14 hG14 x3_4 x4_5 zfull_6 zballot_left_7 zballot_right_8 zballot_leftDogs_9 zballot_rightDogs_10 zmeals_11 H locs ls hw hP hS hl => ?_) (fun G14 hG14 hw => hG14 _ _ _ _ _ _ _ _ H locs ls hw hP hS (lv_sub hl [3, 4, 2, 1, 0] rfl))
  have hD : va_D A [(q0, .inr (2, [u0, u1, u2, .ref q1, .ref q3, .ref q4, .int zfull_6])), (q1, .inr (5, [.int zorders_size, .ref q2])), (q2, .inl (ci, 7, .inl zorders_order)), (q3, .inr (0, [.int zballot_left_7, .int zballot_right_8, .int zballot_leftDogs_9, .int zballot_rightDogs_10])), (q4, .inl (ci, 7, .inl zmeals_11)), (q5, .inr (7, [.ref q6, u3, .ref q10, .int zp1_hunger])), (q6, .inr (8, [.int zp1_roll_dogs, u4, .ref q7, .ref q8, .ref q9, u5])), (q7, .inl (ci, 7, .inl zp1_roll_halves)), (q8, .inl (ci, 7, .inl zp1_roll_likings)), (q9, .inl (ci, 7, .inl zp1_roll_fears)), (q10, .inr (9, [.int zp1_questions_size, .ref q11, .ref q12, .ref q13])), (q11, .inl (ci, 5, .inl zp1_questions_lefts)), (q12, .inl (ci, 5, .inl zp1_questions_rights)), (q13, .inl (ci, 5, .inl zp1_questions_numbers))] := gD_re hD rfl
  refine lv_iload hx hb dX3_worthsOf_14 (lv_at hl 4 rfl) ?_
  refine lv_aload_n hx hb dX3_worthsOf_16 rfl (lv_at hl 0 rfl) ?_
  refine va_get (D := D) (ci := 2) (v := .ref q1) (C := RX3) (T := TX3) (N := 7) hx hb ht in_X3 hown hK.1 hP 0 rfl rfl 3 (by decide) (ht _ mF_X3_18) (fun _ h9 => h9) rfl dX3_worthsOf_17 ?_
  refine va_get (D := D) (ci := 5) (v := .int zorders_size) (C := RX6) (T := TX6) (N := 2) hx hb ht in_X6 hown hK.1 hP 1 rfl rfl 0 (by decide) (ht _ mF_X3_72) (fun _ h9 => h9) rfl dX3_worthsOf_20 ?_
  refine lv_icmp_ge (tgt := 161) hx hb dX3_worthsOf_23 (by decide) (fun hc => ?_) (fun hc => ?_)
  · have hw := hw.1 hc
    refine lv_iload_n hx hb dX3_worthsOf_161 rfl (lv_at hl 3 rfl) ?_
    exact hret _ _ H locs _ _ ⟨_, _, _, _, _, _, rfl, hw⟩ hP hS dX3_worthsOf_162
  · have hw := hw.2 hc
    refine lv_aload_n hx hb dX3_worthsOf_26 rfl (lv_at hl 0 rfl) ?_
    refine va_get (D := D) (ci := 2) (v := .ref q1) (C := RX3) (T := TX3) (N := 7) hx hb ht in_X3 hown hK.1 hP 0 rfl rfl 3 (by decide) (ht _ mF_X3_18) (fun _ h9 => h9) rfl dX3_worthsOf_27 ?_
    refine va_get (D := D) (ci := 5) (v := .ref q2) (C := RX6) (T := TX6) (N := 2) hx hb ht in_X6 hown hK.1 hP 1 rfl rfl 1 (by decide) (ht _ mF_X3_59) (fun _ h9 => h9) rfl dX3_worthsOf_30 ?_
    refine lv_iload hx hb dX3_worthsOf_33 (lv_at hl 4 rfl) ?_
    obtain ⟨hin, hw⟩ := hw
    refine va_iald (D := D) hx hb hK.1 hP 2 0 rfl rfl hin dX3_worthsOf_35 ?_
    refine lv_istore (lv' := [(5, .int (zorders_order (x4_5).toNatClampNeg)), (0, .ref q0), (1, .ref q5), (2, .ref q10), (3, .int x3_4), (4, .int x4_5)]) hx hb dX3_worthsOf_36 hl (by decide) rfl (fun ls hl => ?_)
    refine lv_iload hx hb dX3_worthsOf_38 (lv_at hl 0 rfl) ?_
    refine lv_if_lt (tgt := 155) hx hb dX3_worthsOf_40 (by decide) (fun hc => ?_) (fun hc => ?_)
    · have hw := hw.1 hc
      refine lv_iinc (v := (x4_5 + (1 : Int32))) (lv' := [(4, .int (x4_5 + (1 : Int32))), (5, .int (zorders_order (x4_5).toNatClampNeg)), (0, .ref q0), (1, .ref q5), (2, .ref q10), (3, .int x3_4)]) hx hb dX3_worthsOf_155 hl (k := 5) rfl rfl (by decide) rfl (fun ls hl => ?_)
      refine lv_goto (tgt := 14) hx hb dX3_worthsOf_158 (by decide) ?_
      exact hG14 _ _ _ _ _ _ _ _ H locs ls hw hP hS (lv_sub hl [2, 3, 4, 5, 0] rfl)
    · have hw := hw.2 hc
      refine lv_iload hx hb dX3_worthsOf_43 (lv_at hl 0 rfl) ?_
      refine lv_aload_n hx hb dX3_worthsOf_45 rfl (lv_at hl 3 rfl) ?_
      refine va_get (D := D) (ci := 9) (v := .int zp1_questions_size) (C := RX10) (T := TX10) (N := 4) hx hb ht in_X10 hown hK.1 hP 10 rfl rfl 0 (by decide) (ht _ mF_X3_46) (fun _ h9 => h9) rfl dX3_worthsOf_46 ?_
      refine lv_icmp_lt (tgt := 55) hx hb dX3_worthsOf_49 (by decide) (fun hc => ?_) (fun hc => ?_)
      · have hw := hw.1 hc
        refine lv_aload_n hx hb dX3_worthsOf_55 rfl (lv_at hl 3 rfl) ?_
        refine va_get (D := D) (ci := 9) (v := .ref q11) (C := RX10) (T := TX10) (N := 4) hx hb ht in_X10 hown hK.1 hP 10 rfl rfl 1 (by decide) (ht _ mF_X3_73) (fun _ h9 => h9) rfl dX3_worthsOf_56 ?_
        refine lv_iload hx hb dX3_worthsOf_59 (lv_at hl 0 rfl) ?_
        obtain ⟨hin, hw⟩ := hw
        refine va_iald (D := D) hx hb hK.1 hP 11 0 rfl rfl hin dX3_worthsOf_61 ?_
        refine lv_istore (lv' := [(6, .int (zp1_questions_lefts ((zorders_order (x4_5).toNatClampNeg)).toNatClampNeg)), (5, .int (zorders_order (x4_5).toNatClampNeg)), (0, .ref q0), (1, .ref q5), (2, .ref q10), (3, .int x3_4), (4, .int x4_5)]) hx hb dX3_worthsOf_62 hl (by decide) rfl (fun ls hl => ?_)
        refine lv_aload_n hx hb dX3_worthsOf_64 rfl (lv_at hl 4 rfl) ?_
        refine va_get (D := D) (ci := 9) (v := .ref q12) (C := RX10) (T := TX10) (N := 4) hx hb ht in_X10 hown hK.1 hP 10 rfl rfl 2 (by decide) (ht _ mF_X3_76) (fun _ h9 => h9) rfl dX3_worthsOf_65 ?_
        refine lv_iload hx hb dX3_worthsOf_68 (lv_at hl 1 rfl) ?_
        obtain ⟨hin, hw⟩ := hw
        refine va_iald (D := D) hx hb hK.1 hP 12 0 rfl rfl hin dX3_worthsOf_70 ?_
        refine lv_istore (lv' := [(7, .int (zp1_questions_rights ((zorders_order (x4_5).toNatClampNeg)).toNatClampNeg)), (6, .int (zp1_questions_lefts ((zorders_order (x4_5).toNatClampNeg)).toNatClampNeg)), (5, .int (zorders_order (x4_5).toNatClampNeg)), (0, .ref q0), (1, .ref q5), (2, .ref q10), (3, .int x3_4), (4, .int x4_5)]) hx hb dX3_worthsOf_71 hl (by decide) rfl (fun ls hl => ?_)
        refine lv_aload_n hx hb dX3_worthsOf_73 rfl (lv_at hl 3 rfl) ?_
        refine va_get (D := D) (ci := 2) (v := .ref q3) (C := RX3) (T := TX3) (N := 7) hx hb ht in_X3 hown hK.1 hP 0 rfl rfl 4 (by decide) (ht _ mF_X3_25) (fun _ h9 => h9) rfl dX3_worthsOf_74 ?_
        refine lv_aload_n hx hb dX3_worthsOf_77 rfl (lv_at hl 4 rfl) ?_
        refine va_get (D := D) (ci := 7) (v := .ref q6) (C := RX8) (T := TX8) (N := 4) hx hb ht in_X8 hown hK.1 hP 5 rfl rfl 0 (by decide) (ht _ mF_X3_79) (fun _ h9 => h9) rfl dX3_worthsOf_78 ?_
        refine lv_iload hx hb dX3_worthsOf_81 (lv_at hl 1 rfl) ?_
        refine lv_iload hx hb dX3_worthsOf_83 (lv_at hl 0 rfl) ?_
        refine lv_isub hx hb dX3_worthsOf_85 ?_
        refine lv_iconst (v := (0 : Int32)) hx hb dX3_worthsOf_86 (by decide) ?_
        refine lv_aload_n hx hb dX3_worthsOf_87 rfl (lv_at hl 3 rfl) ?_
        refine va_get (D := D) (ci := 2) (v := .int zfull_6) (C := RX3) (T := TX3) (N := 7) hx hb ht in_X3 hown hK.1 hP 0 rfl rfl 6 (by decide) (ht _ mF_X3_83) (fun _ h9 => h9) rfl dX3_worthsOf_88 ?_
        refine gcallv (va_runV (As := [.ref q6, .int ((zp1_questions_lefts ((zorders_order (x4_5).toNatClampNeg)).toNatClampNeg) - (zp1_questions_rights ((zorders_order (x4_5).toNatClampNeg)).toNatClampNeg)), .int (0 : Int32), .int zfull_6]) (rest := []) ⟨hx, hb, hml, hown, ht⟩ (c_X0_hold l D ci cz tr q3 q6 q7 q8 q9 H.size u4 u5 zballot_left_7 zballot_right_8 zballot_leftDogs_9 zballot_rightDogs_10 zp1_roll_dogs zp1_roll_halves zp1_roll_likings zp1_roll_fears ((zp1_questions_lefts ((zorders_order (x4_5).toNatClampNeg)).toNatClampNeg) - (zp1_questions_rights ((zorders_order (x4_5).toNatClampNeg)).toNatClampNeg)) (0 : Int32) zfull_6 _ hw) (cwV 4 ht (gi_V mM_X3_86 mI_X0_hold mS_X0_hold mN_X0 mC_X0_hold) rfl rfl rfl (by decide +kernel) ⟨Nat.le_trans (Nat.le_of_ble_eq_true rfl) hfr, Nat.le_trans (Nat.le_of_ble_eq_true rfl) hlc⟩) (gpreV (wc := [(q3, .inr (0, [.int zballot_left_7, .int zballot_right_8, .int zballot_leftDogs_9, .int zballot_rightDogs_10])), (q6, .inr (8, [.int zp1_roll_dogs, u4, .ref q7, .ref q8, .ref q9, u5])), (q7, .inl (ci, 7, .inl zp1_roll_halves)), (q8, .inl (ci, 7, .inl zp1_roll_likings)), (q9, .inl (ci, 7, .inl zp1_roll_fears))]) (k := 0) (q0 := 3) hK hZ hP hD hS hA [3, 6, 7, 8, 9] rfl rfl rfl rfl rfl) rfl rfl hl.1 rfl (lv_room (Nat.le_of_ble_eq_true rfl)) dX3_worthsOf_91 ⟨Nat.zero_le _, Nat.zero_le _⟩) hD hS hA [3, 6, 7, 8, 9] rfl (fun w9 H locs hw hP9 hk9 hS => ?_)
        obtain ⟨zballot_left_13, zballot_right_14, zballot_leftDogs_15, zballot_rightDogs_16, rfl, hw⟩ := hw
        have hP : va_P D vwCl [(q0, .inr (2, [u0, u1, u2, .ref q1, .ref q3, .ref q4, .int zfull_6])), (q1, .inr (5, [.int zorders_size, .ref q2])), (q2, .inl (ci, 7, .inl zorders_order)), (q3, .inr (0, [.int zballot_left_13, .int zballot_right_14, .int zballot_leftDogs_15, .int zballot_rightDogs_16])), (q4, .inl (ci, 7, .inl zmeals_11)), (q5, .inr (7, [.ref q6, u3, .ref q10, .int zp1_hunger])), (q6, .inr (8, [.int zp1_roll_dogs, u4, .ref q7, .ref q8, .ref q9, u5])), (q7, .inl (ci, 7, .inl zp1_roll_halves)), (q8, .inl (ci, 7, .inl zp1_roll_likings)), (q9, .inl (ci, 7, .inl zp1_roll_fears)), (q10, .inr (9, [.int zp1_questions_size, .ref q11, .ref q12, .ref q13])), (q11, .inl (ci, 5, .inl zp1_questions_lefts)), (q12, .inl (ci, 5, .inl zp1_questions_rights)), (q13, .inl (ci, 5, .inl zp1_questions_numbers))] H := gjoin3 hP hD [3, 6, 7, 8, 9] hP9 hk9 rfl rfl [none, none, none, some 0, none, none, some 1, some 2, some 3, some 4, none, none, none, none] rfl rfl
        have hD : va_D A [(q0, .inr (2, [u0, u1, u2, .ref q1, .ref q3, .ref q4, .int zfull_6])), (q1, .inr (5, [.int zorders_size, .ref q2])), (q2, .inl (ci, 7, .inl zorders_order)), (q3, .inr (0, [.int zballot_left_13, .int zballot_right_14, .int zballot_leftDogs_15, .int zballot_rightDogs_16])), (q4, .inl (ci, 7, .inl zmeals_11)), (q5, .inr (7, [.ref q6, u3, .ref q10, .int zp1_hunger])), (q6, .inr (8, [.int zp1_roll_dogs, u4, .ref q7, .ref q8, .ref q9, u5])), (q7, .inl (ci, 7, .inl zp1_roll_halves)), (q8, .inl (ci, 7, .inl zp1_roll_likings)), (q9, .inl (ci, 7, .inl zp1_roll_fears)), (q10, .inr (9, [.int zp1_questions_size, .ref q11, .ref q12, .ref q13])), (q11, .inl (ci, 5, .inl zp1_questions_lefts)), (q12, .inl (ci, 5, .inl zp1_questions_rights)), (q13, .inl (ci, 5, .inl zp1_questions_numbers))] := gD_re hD rfl
        clear hP9 hk9
        refine lv_aload_n hx hb dX3_worthsOf_94 rfl (lv_at hl 3 rfl) ?_
        refine va_get (D := D) (ci := 2) (v := .ref q3) (C := RX3) (T := TX3) (N := 7) hx hb ht in_X3 hown hK.1 hP 0 rfl rfl 4 (by decide) (ht _ mF_X3_25) (fun _ h9 => h9) rfl dX3_worthsOf_95 ?_
        refine gcalli (va_runV (As := []) (rest := []) ⟨hx, hb, hml, hown, ht⟩ (c_X0_winner l D ci cz tr q3 H.size (.int zballot_leftDogs_15) (.int zballot_rightDogs_16) zballot_left_13 zballot_right_14 _ hw) (cwV 0 ht (gi_V mM_X3_90 mI_X0_winner mS_X0_winner mN_X0 mC_X0_winner) rfl rfl rfl (by decide +kernel) ⟨Nat.le_trans (Nat.le_of_ble_eq_true rfl) hfr, Nat.le_trans (Nat.le_of_ble_eq_true rfl) hlc⟩) (gpreV (wc := [(q3, .inr (0, [.int zballot_left_13, .int zballot_right_14, .int zballot_leftDogs_15, .int zballot_rightDogs_16]))]) (k := 0) (q0 := 3) hK hZ hP hD hS hA [3] rfl rfl rfl rfl rfl) rfl rfl hl.1 rfl (lv_room (Nat.le_of_ble_eq_true rfl)) dX3_worthsOf_98 ⟨Nat.zero_le _, Nat.zero_le _⟩) hD hS hA [3] rfl (fun r_17 w9 H locs hw hP9 hk9 hS => ?_)
        obtain ⟨rfl, hw⟩ := hw
        have hP : va_P D vwCl [(q0, .inr (2, [u0, u1, u2, .ref q1, .ref q3, .ref q4, .int zfull_6])), (q1, .inr (5, [.int zorders_size, .ref q2])), (q2, .inl (ci, 7, .inl zorders_order)), (q3, .inr (0, [.int zballot_left_13, .int zballot_right_14, .int zballot_leftDogs_15, .int zballot_rightDogs_16])), (q4, .inl (ci, 7, .inl zmeals_11)), (q5, .inr (7, [.ref q6, u3, .ref q10, .int zp1_hunger])), (q6, .inr (8, [.int zp1_roll_dogs, u4, .ref q7, .ref q8, .ref q9, u5])), (q7, .inl (ci, 7, .inl zp1_roll_halves)), (q8, .inl (ci, 7, .inl zp1_roll_likings)), (q9, .inl (ci, 7, .inl zp1_roll_fears)), (q10, .inr (9, [.int zp1_questions_size, .ref q11, .ref q12, .ref q13])), (q11, .inl (ci, 5, .inl zp1_questions_lefts)), (q12, .inl (ci, 5, .inl zp1_questions_rights)), (q13, .inl (ci, 5, .inl zp1_questions_numbers))] H := gjoin3 hP hD [3] hP9 hk9 rfl rfl [none, none, none, some 0, none, none, none, none, none, none, none, none, none, none] rfl rfl
        clear hP9 hk9
        refine jn_walk hw (fun J114 => ∀ (x3_18 : Int32) (H : Heap) (locs : List Loc) (ls : Array Slot), J114 x3_18 → va_P D vwCl [(q0, .inr (2, [u0, u1, u2, .ref q1, .ref q3, .ref q4, .int zfull_6])), (q1, .inr (5, [.int zorders_size, .ref q2])), (q2, .inl (ci, 7, .inl zorders_order)), (q3, .inr (0, [.int zballot_left_13, .int zballot_right_14, .int zballot_leftDogs_15, .int zballot_rightDogs_16])), (q4, .inl (ci, 7, .inl zmeals_11)), (q5, .inr (7, [.ref q6, u3, .ref q10, .int zp1_hunger])), (q6, .inr (8, [.int zp1_roll_dogs, u4, .ref q7, .ref q8, .ref q9, u5])), (q7, .inl (ci, 7, .inl zp1_roll_halves)), (q8, .inl (ci, 7, .inl zp1_roll_likings)), (q9, .inl (ci, 7, .inl zp1_roll_fears)), (q10, .inr (9, [.int zp1_questions_size, .ref q11, .ref q12, .ref q13])), (q11, .inl (ci, 5, .inl zp1_questions_lefts)), (q12, .inl (ci, 5, .inl zp1_questions_rights)), (q13, .inl (ci, 5, .inl zp1_questions_numbers))] H → va_S A s.heap H locs → lv_has ls 8 [(0, .ref q0), (1, .ref q5), (2, .ref q10), (3, .int x3_18), (4, .int x4_5), (6, .int (zp1_questions_lefts ((zorders_order (x4_5).toNatClampNeg)).toNatClampNeg)), (7, .int (zp1_questions_rights ((zorders_order (x4_5).toNatClampNeg)).toNatClampNeg))] → W p l e R s m args below meth c H locs 0 0 Q (F0 m 114 ls [])) ?_ ?_
        · intro x3_18 H locs ls hw hP hS hl
          have hD : va_D A [(q0, .inr (2, [u0, u1, u2, .ref q1, .ref q3, .ref q4, .int zfull_6])), (q1, .inr (5, [.int zorders_size, .ref q2])), (q2, .inl (ci, 7, .inl zorders_order)), (q3, .inr (0, [.int zballot_left_13, .int zballot_right_14, .int zballot_leftDogs_15, .int zballot_rightDogs_16])), (q4, .inl (ci, 7, .inl zmeals_11)), (q5, .inr (7, [.ref q6, u3, .ref q10, .int zp1_hunger])), (q6, .inr (8, [.int zp1_roll_dogs, u4, .ref q7, .ref q8, .ref q9, u5])), (q7, .inl (ci, 7, .inl zp1_roll_halves)), (q8, .inl (ci, 7, .inl zp1_roll_likings)), (q9, .inl (ci, 7, .inl zp1_roll_fears)), (q10, .inr (9, [.int zp1_questions_size, .ref q11, .ref q12, .ref q13])), (q11, .inl (ci, 5, .inl zp1_questions_lefts)), (q12, .inl (ci, 5, .inl zp1_questions_rights)), (q13, .inl (ci, 5, .inl zp1_questions_numbers))] := gD_re hD rfl
          refine lv_aload_n hx hb dX3_worthsOf_114 rfl (lv_at hl 0 rfl) ?_
          refine lv_iload hx hb dX3_worthsOf_115 (lv_at hl 5 rfl) ?_
          refine jn_walk hw (fun J131 => ∀ (t_19 : Int32) (H : Heap) (locs : List Loc) (ls : Array Slot), J131 t_19 → va_P D vwCl [(q0, .inr (2, [u0, u1, u2, .ref q1, .ref q3, .ref q4, .int zfull_6])), (q1, .inr (5, [.int zorders_size, .ref q2])), (q2, .inl (ci, 7, .inl zorders_order)), (q3, .inr (0, [.int zballot_left_13, .int zballot_right_14, .int zballot_leftDogs_15, .int zballot_rightDogs_16])), (q4, .inl (ci, 7, .inl zmeals_11)), (q5, .inr (7, [.ref q6, u3, .ref q10, .int zp1_hunger])), (q6, .inr (8, [.int zp1_roll_dogs, u4, .ref q7, .ref q8, .ref q9, u5])), (q7, .inl (ci, 7, .inl zp1_roll_halves)), (q8, .inl (ci, 7, .inl zp1_roll_likings)), (q9, .inl (ci, 7, .inl zp1_roll_fears)), (q10, .inr (9, [.int zp1_questions_size, .ref q11, .ref q12, .ref q13])), (q11, .inl (ci, 5, .inl zp1_questions_lefts)), (q12, .inl (ci, 5, .inl zp1_questions_rights)), (q13, .inl (ci, 5, .inl zp1_questions_numbers))] H → va_S A s.heap H locs → lv_has ls 8 [(0, .ref q0), (1, .ref q5), (2, .ref q10), (3, .int x3_18), (4, .int x4_5), (7, .int (zp1_questions_rights ((zorders_order (x4_5).toNatClampNeg)).toNatClampNeg))] → W p l e R s m args below meth c H locs 0 0 Q (F0 m 131 ls [.int t_19, .ref q0])) ?_ ?_
          · intro t_19 H locs ls hw hP hS hl
            have hD : va_D A [(q0, .inr (2, [u0, u1, u2, .ref q1, .ref q3, .ref q4, .int zfull_6])), (q1, .inr (5, [.int zorders_size, .ref q2])), (q2, .inl (ci, 7, .inl zorders_order)), (q3, .inr (0, [.int zballot_left_13, .int zballot_right_14, .int zballot_leftDogs_15, .int zballot_rightDogs_16])), (q4, .inl (ci, 7, .inl zmeals_11)), (q5, .inr (7, [.ref q6, u3, .ref q10, .int zp1_hunger])), (q6, .inr (8, [.int zp1_roll_dogs, u4, .ref q7, .ref q8, .ref q9, u5])), (q7, .inl (ci, 7, .inl zp1_roll_halves)), (q8, .inl (ci, 7, .inl zp1_roll_likings)), (q9, .inl (ci, 7, .inl zp1_roll_fears)), (q10, .inr (9, [.int zp1_questions_size, .ref q11, .ref q12, .ref q13])), (q11, .inl (ci, 5, .inl zp1_questions_lefts)), (q12, .inl (ci, 5, .inl zp1_questions_rights)), (q13, .inl (ci, 5, .inl zp1_questions_numbers))] := gD_re hD rfl
            refine lv_iload hx hb dX3_worthsOf_131 (lv_at hl 5 rfl) ?_
            refine jn_walk hw (fun J147 => ∀ (t_20 : Int32) (H : Heap) (locs : List Loc) (ls : Array Slot), J147 t_20 → va_P D vwCl [(q0, .inr (2, [u0, u1, u2, .ref q1, .ref q3, .ref q4, .int zfull_6])), (q1, .inr (5, [.int zorders_size, .ref q2])), (q2, .inl (ci, 7, .inl zorders_order)), (q3, .inr (0, [.int zballot_left_13, .int zballot_right_14, .int zballot_leftDogs_15, .int zballot_rightDogs_16])), (q4, .inl (ci, 7, .inl zmeals_11)), (q5, .inr (7, [.ref q6, u3, .ref q10, .int zp1_hunger])), (q6, .inr (8, [.int zp1_roll_dogs, u4, .ref q7, .ref q8, .ref q9, u5])), (q7, .inl (ci, 7, .inl zp1_roll_halves)), (q8, .inl (ci, 7, .inl zp1_roll_likings)), (q9, .inl (ci, 7, .inl zp1_roll_fears)), (q10, .inr (9, [.int zp1_questions_size, .ref q11, .ref q12, .ref q13])), (q11, .inl (ci, 5, .inl zp1_questions_lefts)), (q12, .inl (ci, 5, .inl zp1_questions_rights)), (q13, .inl (ci, 5, .inl zp1_questions_numbers))] H → va_S A s.heap H locs → lv_has ls 8 [(0, .ref q0), (1, .ref q5), (2, .ref q10), (3, .int x3_18), (4, .int x4_5)] → W p l e R s m args below meth c H locs 0 0 Q (F0 m 147 ls [.int t_20, .int t_19, .ref q0])) ?_ ?_
            · intro t_20 H locs ls hw hP hS hl
              have hD : va_D A [(q0, .inr (2, [u0, u1, u2, .ref q1, .ref q3, .ref q4, .int zfull_6])), (q1, .inr (5, [.int zorders_size, .ref q2])), (q2, .inl (ci, 7, .inl zorders_order)), (q3, .inr (0, [.int zballot_left_13, .int zballot_right_14, .int zballot_leftDogs_15, .int zballot_rightDogs_16])), (q4, .inl (ci, 7, .inl zmeals_11)), (q5, .inr (7, [.ref q6, u3, .ref q10, .int zp1_hunger])), (q6, .inr (8, [.int zp1_roll_dogs, u4, .ref q7, .ref q8, .ref q9, u5])), (q7, .inl (ci, 7, .inl zp1_roll_halves)), (q8, .inl (ci, 7, .inl zp1_roll_likings)), (q9, .inl (ci, 7, .inl zp1_roll_fears)), (q10, .inr (9, [.int zp1_questions_size, .ref q11, .ref q12, .ref q13])), (q11, .inl (ci, 5, .inl zp1_questions_lefts)), (q12, .inl (ci, 5, .inl zp1_questions_rights)), (q13, .inl (ci, 5, .inl zp1_questions_numbers))] := gD_re hD rfl
              refine lv_ior hx hb dX3_worthsOf_147 ?_
              refine lv_aload_n hx hb dX3_worthsOf_148 rfl (lv_at hl 1 rfl) ?_
              refine va_get (D := D) (ci := 7) (v := .int zp1_hunger) (C := RX8) (T := TX8) (N := 4) hx hb ht in_X8 hown hK.1 hP 5 rfl rfl 3 (by decide) (ht _ mF_X3_103) (fun _ h9 => h9) rfl dX3_worthsOf_149 ?_
              refine gcallv (va_runV (As := [.int (t_19 ||| t_20), .int zp1_hunger]) (rest := []) ⟨hx, hb, hml, hown, ht⟩ (c_X3_feed l D ci cz tr q0 q4 H.size u0 u1 u2 (.ref q1) (.ref q3) zfull_6 zmeals_11 (t_19 ||| t_20) zp1_hunger _ hw) (cwV 2 ht (gi_V mM_X3_106 mI_X3_feed mS_X3_feed mN_X3 mC_X3_feed) rfl rfl rfl (by decide +kernel) ⟨Nat.le_trans (Nat.le_of_ble_eq_true rfl) hfr, Nat.le_trans (Nat.le_of_ble_eq_true rfl) hlc⟩) (gpreV (wc := [(q0, .inr (2, [u0, u1, u2, .ref q1, .ref q3, .ref q4, .int zfull_6])), (q4, .inl (ci, 7, .inl zmeals_11))]) (k := 2) (q0 := 0) hK hZ hP hD hS hA [0, 4] rfl rfl rfl rfl rfl) rfl rfl hl.1 rfl (lv_room (Nat.le_of_ble_eq_true rfl)) dX3_worthsOf_152 ⟨Nat.zero_le _, Nat.zero_le _⟩) hD hS hA [0, 4] rfl (fun w9 H locs hw hP9 hk9 hS => ?_)
              obtain ⟨zfull_22, zmeals_23, rfl, hw⟩ := hw
              have hP : va_P D vwCl [(q0, .inr (2, [u0, u1, u2, .ref q1, .ref q3, .ref q4, .int zfull_22])), (q1, .inr (5, [.int zorders_size, .ref q2])), (q2, .inl (ci, 7, .inl zorders_order)), (q3, .inr (0, [.int zballot_left_13, .int zballot_right_14, .int zballot_leftDogs_15, .int zballot_rightDogs_16])), (q4, .inl (ci, 7, .inl zmeals_23)), (q5, .inr (7, [.ref q6, u3, .ref q10, .int zp1_hunger])), (q6, .inr (8, [.int zp1_roll_dogs, u4, .ref q7, .ref q8, .ref q9, u5])), (q7, .inl (ci, 7, .inl zp1_roll_halves)), (q8, .inl (ci, 7, .inl zp1_roll_likings)), (q9, .inl (ci, 7, .inl zp1_roll_fears)), (q10, .inr (9, [.int zp1_questions_size, .ref q11, .ref q12, .ref q13])), (q11, .inl (ci, 5, .inl zp1_questions_lefts)), (q12, .inl (ci, 5, .inl zp1_questions_rights)), (q13, .inl (ci, 5, .inl zp1_questions_numbers))] H := gjoin3 hP hD [0, 4] hP9 hk9 rfl rfl [some 0, none, none, none, some 1, none, none, none, none, none, none, none, none, none] rfl rfl
              have hD : va_D A [(q0, .inr (2, [u0, u1, u2, .ref q1, .ref q3, .ref q4, .int zfull_22])), (q1, .inr (5, [.int zorders_size, .ref q2])), (q2, .inl (ci, 7, .inl zorders_order)), (q3, .inr (0, [.int zballot_left_13, .int zballot_right_14, .int zballot_leftDogs_15, .int zballot_rightDogs_16])), (q4, .inl (ci, 7, .inl zmeals_23)), (q5, .inr (7, [.ref q6, u3, .ref q10, .int zp1_hunger])), (q6, .inr (8, [.int zp1_roll_dogs, u4, .ref q7, .ref q8, .ref q9, u5])), (q7, .inl (ci, 7, .inl zp1_roll_halves)), (q8, .inl (ci, 7, .inl zp1_roll_likings)), (q9, .inl (ci, 7, .inl zp1_roll_fears)), (q10, .inr (9, [.int zp1_questions_size, .ref q11, .ref q12, .ref q13])), (q11, .inl (ci, 5, .inl zp1_questions_lefts)), (q12, .inl (ci, 5, .inl zp1_questions_rights)), (q13, .inl (ci, 5, .inl zp1_questions_numbers))] := gD_re hD rfl
              clear hP9 hk9
              refine lv_iinc (v := (x4_5 + (1 : Int32))) (lv' := [(4, .int (x4_5 + (1 : Int32))), (0, .ref q0), (1, .ref q5), (2, .ref q10), (3, .int x3_18)]) hx hb dX3_worthsOf_155 hl (k := 4) rfl rfl (by decide) rfl (fun ls hl => ?_)
              refine lv_goto (tgt := 14) hx hb dX3_worthsOf_158 (by decide) ?_
              exact hG14 _ _ _ _ _ _ _ _ H locs ls hw hP hS (lv_sub hl [1, 2, 3, 4, 0] rfl)
            · intro J147 hJ147 hw
              refine lv_if_le (tgt := 146) hx hb dX3_worthsOf_133 (by decide) (fun hc => ?_) (fun hc => ?_)
              · have hw := hw.1 hc
                refine lv_iconst (v := (0 : Int32)) hx hb dX3_worthsOf_146 (by decide) ?_
                exact hJ147 _ H locs ls hw hP hS (lv_sub hl [0, 1, 2, 3, 4] rfl)
              · have hw := hw.2 hc
                refine lv_aload_n hx hb dX3_worthsOf_136 rfl (lv_at hl 0 rfl) ?_
                refine va_get (D := D) (ci := 2) (v := .ref q3) (C := RX3) (T := TX3) (N := 7) hx hb ht in_X3 hown hK.1 hP 0 rfl rfl 4 (by decide) (ht _ mF_X3_25) (fun _ h9 => h9) rfl dX3_worthsOf_137 ?_
                refine va_get (D := D) (ci := 0) (v := .int zballot_rightDogs_16) (C := RX0) (T := TX0) (N := 4) hx hb ht in_X0 hown hK.1 hP 3 rfl rfl 3 (by decide) (ht _ mF_X3_100) (fun _ h9 => h9) rfl dX3_worthsOf_140 ?_
                refine lv_goto (tgt := 147) hx hb dX3_worthsOf_143 (by decide) ?_
                exact hJ147 _ H locs ls hw hP hS (lv_sub hl [0, 1, 2, 3, 4] rfl)
          · intro J131 hJ131 hw
            refine lv_if_le (tgt := 130) hx hb dX3_worthsOf_117 (by decide) (fun hc => ?_) (fun hc => ?_)
            · have hw := hw.1 hc
              refine lv_iconst (v := (0 : Int32)) hx hb dX3_worthsOf_130 (by decide) ?_
              exact hJ131 _ H locs ls hw hP hS (lv_sub hl [0, 1, 2, 3, 4, 6] rfl)
            · have hw := hw.2 hc
              refine lv_aload_n hx hb dX3_worthsOf_120 rfl (lv_at hl 0 rfl) ?_
              refine va_get (D := D) (ci := 2) (v := .ref q3) (C := RX3) (T := TX3) (N := 7) hx hb ht in_X3 hown hK.1 hP 0 rfl rfl 4 (by decide) (ht _ mF_X3_25) (fun _ h9 => h9) rfl dX3_worthsOf_121 ?_
              refine va_get (D := D) (ci := 0) (v := .int zballot_leftDogs_15) (C := RX0) (T := TX0) (N := 4) hx hb ht in_X0 hown hK.1 hP 3 rfl rfl 2 (by decide) (ht _ mF_X3_97) (fun _ h9 => h9) rfl dX3_worthsOf_124 ?_
              refine lv_goto (tgt := 131) hx hb dX3_worthsOf_127 (by decide) ?_
              exact hJ131 _ H locs ls hw hP hS (lv_sub hl [0, 1, 2, 3, 4, 6] rfl)
        · intro J114 hJ114 hw
          refine lv_if_ne (tgt := 114) hx hb dX3_worthsOf_101 (by decide) (fun hc => ?_) (fun hc => ?_)
          · have hw := hw.1 hc
            exact hJ114 _ H locs ls hw hP hS (lv_sub hl [3, 4, 5, 6, 7, 1, 0] rfl)
          · have hw := hw.2 hc
            refine lv_iload_n hx hb dX3_worthsOf_104 rfl (lv_at hl 6 rfl) ?_
            refine lv_aload_n hx hb dX3_worthsOf_105 rfl (lv_at hl 5 rfl) ?_
            refine va_get (D := D) (ci := 9) (v := .ref q13) (C := RX10) (T := TX10) (N := 4) hx hb ht in_X10 hown hK.1 hP 10 rfl rfl 3 (by decide) (ht _ mF_X3_94) (fun _ h9 => h9) rfl dX3_worthsOf_106 ?_
            refine lv_iload hx hb dX3_worthsOf_109 (lv_at hl 2 rfl) ?_
            obtain ⟨hin, hw⟩ := hw
            refine va_iald (D := D) hx hb hK.1 hP 13 0 rfl rfl hin dX3_worthsOf_111 ?_
            refine lv_iadd hx hb dX3_worthsOf_112 ?_
            refine lv_istore_n (lv' := [(3, .int (x3_4 + (zp1_questions_numbers ((zorders_order (x4_5).toNatClampNeg)).toNatClampNeg))), (7, .int (zp1_questions_rights ((zorders_order (x4_5).toNatClampNeg)).toNatClampNeg)), (6, .int (zp1_questions_lefts ((zorders_order (x4_5).toNatClampNeg)).toNatClampNeg)), (5, .int (zorders_order (x4_5).toNatClampNeg)), (0, .ref q0), (1, .ref q5), (2, .ref q10), (4, .int x4_5)]) hx hb dX3_worthsOf_113 rfl hl (by decide) rfl (fun ls hl => ?_)
            exact hJ114 _ H locs ls hw hP hS (lv_sub hl [4, 5, 6, 0, 7, 2, 1] rfl)
      · have hw := hw.2 hc
        refine lv_goto (tgt := 155) hx hb dX3_worthsOf_52 (by decide) ?_
        refine lv_iinc (v := (x4_5 + (1 : Int32))) (lv' := [(4, .int (x4_5 + (1 : Int32))), (5, .int (zorders_order (x4_5).toNatClampNeg)), (0, .ref q0), (1, .ref q5), (2, .ref q10), (3, .int x3_4)]) hx hb dX3_worthsOf_155 hl (k := 5) rfl rfl (by decide) rfl (fun ls hl => ?_)
        refine lv_goto (tgt := 14) hx hb dX3_worthsOf_158 (by decide) ?_
        exact hG14 _ _ _ _ _ _ _ _ H locs ls hw hP hS (lv_sub hl [2, 3, 4, 5, 0] rfl)

def wp_X6_swap (zorder : Nat → Int32) (a1 : Int32) (a2 : Int32) (post : (Nat → Int32) → Prop) : Prop :=
  (vp_in a1 7 ∧ (vp_in a2 7 ∧ (vp_in a1 7 ∧ (vp_in a2 7 ∧ post (upd (upd zorder (a1).toNatClampNeg (zorder (a2).toNatClampNeg)) (a2).toNatClampNeg (zorder (a1).toNatClampNeg))))))
set_option maxHeartbeats 4000000 in
set_option maxRecDepth 100000 in
theorem c_X6_swap (l : Launch) (D : va_G) (ci cz : ClassId) (tr : List (ClassId × FieldType)) (q0 q1 : Nat) (sz : Nat) (u0 : Value) (zorder : Nat → Int32) (a1 : Int32) (a2 : Int32) (post : (Nat → Int32) → Prop) (hw : wp_X6_swap zorder a1 a2 post) : gM l yX6_swap cX6_swap 4 none 0 0 D ci cz tr [(q0, .inr (5, [u0, .ref q1])), (q1, .inl (ci, 7, .inl zorder))] sz [.ref q0, .int a1, .int a2] (gQv D [(q0, .inr (5, [u0, .ref q1])), (q1, .inl (ci, 7, .inl zorder))] sz (fun w => ∃ (o_zorder : Nat → Int32), w = [(q0, .inr (5, [u0, .ref q1])), (q1, .inl (ci, 7, .inl o_zorder))] ∧ post o_zorder)) := by
  refine gmet_v RX6 (by decide +kernel) rfl (Nat.le_of_ble_eq_true rfl) ?_
  intro p e s m args below meth c A R Q C hfr hlc hP hD hret ls hl
  obtain ⟨hx, hb, hml, hown, ht, hK, hZ, hA⟩ := C
  have hl : lv_has ls 4 [(0, .ref q0), (1, .int a1), (2, .int a2)] := hl
  unfold wp_X6_swap at hw
  refine g_in (fun H locs => W p l e R s m args below meth c H locs 0 0 Q (F0 m 0 ls [])) (fun H locs hS0 hP => ?_) hP (va_S.rf (A := A) (H0 := s.heap))
  have hS : va_S A s.heap H locs := hS0
  clear hS0
  refine lv_aload_n hx hb dX6_swap_0 rfl (lv_at hl 0 rfl) ?_
  refine va_get (D := D) (ci := 5) (v := .ref q1) (C := RX6) (T := TX6) (N := 2) hx hb ht in_X6 hown hK.1 hP 0 rfl rfl 1 (by decide) (ht _ mF_X6_9) (fun _ h9 => h9) rfl dX6_swap_1 ?_
  refine lv_iload_n hx hb dX6_swap_4 rfl (lv_at hl 1 rfl) ?_
  obtain ⟨hin, hw⟩ := hw
  refine va_iald (D := D) hx hb hK.1 hP 1 0 rfl rfl hin dX6_swap_5 ?_
  refine lv_istore_n (lv' := [(3, .int (zorder (a1).toNatClampNeg)), (0, .ref q0), (1, .int a1), (2, .int a2)]) hx hb dX6_swap_6 rfl hl (by decide) rfl (fun ls hl => ?_)
  refine lv_aload_n hx hb dX6_swap_7 rfl (lv_at hl 1 rfl) ?_
  refine va_get (D := D) (ci := 5) (v := .ref q1) (C := RX6) (T := TX6) (N := 2) hx hb ht in_X6 hown hK.1 hP 0 rfl rfl 1 (by decide) (ht _ mF_X6_9) (fun _ h9 => h9) rfl dX6_swap_8 ?_
  refine lv_iload_n hx hb dX6_swap_11 rfl (lv_at hl 2 rfl) ?_
  refine lv_aload_n hx hb dX6_swap_12 rfl (lv_at hl 1 rfl) ?_
  refine va_get (D := D) (ci := 5) (v := .ref q1) (C := RX6) (T := TX6) (N := 2) hx hb ht in_X6 hown hK.1 hP 0 rfl rfl 1 (by decide) (ht _ mF_X6_9) (fun _ h9 => h9) rfl dX6_swap_13 ?_
  refine lv_iload_n hx hb dX6_swap_16 rfl (lv_at hl 3 rfl) ?_
  obtain ⟨hin, hw⟩ := hw
  refine va_iald (D := D) hx hb hK.1 hP 1 0 rfl rfl hin dX6_swap_17 ?_
  obtain ⟨hin, hw⟩ := hw
  refine va_iast (D := D) hx hb hK.1 hP hD hS 1 0 rfl rfl hin dX6_swap_18 (fun H locs hP hD hS => ?_)
  have hP : va_P D vwCl [(q0, .inr (5, [u0, .ref q1])), (q1, .inl (ci, 7, .inl (upd zorder (a1).toNatClampNeg (zorder (a2).toNatClampNeg))))] H := hP
  have hD : va_D A [(q0, .inr (5, [u0, .ref q1])), (q1, .inl (ci, 7, .inl (upd zorder (a1).toNatClampNeg (zorder (a2).toNatClampNeg))))] := hD
  refine lv_aload_n hx hb dX6_swap_19 rfl (lv_at hl 1 rfl) ?_
  refine va_get (D := D) (ci := 5) (v := .ref q1) (C := RX6) (T := TX6) (N := 2) hx hb ht in_X6 hown hK.1 hP 0 rfl rfl 1 (by decide) (ht _ mF_X6_9) (fun _ h9 => h9) rfl dX6_swap_20 ?_
  refine lv_iload_n hx hb dX6_swap_23 rfl (lv_at hl 3 rfl) ?_
  refine lv_iload_n hx hb dX6_swap_24 rfl (lv_at hl 0 rfl) ?_
  obtain ⟨hin, hw⟩ := hw
  refine va_iast (D := D) hx hb hK.1 hP hD hS 1 0 rfl rfl hin dX6_swap_25 (fun H locs hP hD hS => ?_)
  have hP : va_P D vwCl [(q0, .inr (5, [u0, .ref q1])), (q1, .inl (ci, 7, .inl (upd (upd zorder (a1).toNatClampNeg (zorder (a2).toNatClampNeg)) (a2).toNatClampNeg (zorder (a1).toNatClampNeg))))] H := hP
  have hD : va_D A [(q0, .inr (5, [u0, .ref q1])), (q1, .inl (ci, 7, .inl (upd (upd zorder (a1).toNatClampNeg (zorder (a2).toNatClampNeg)) (a2).toNatClampNeg (zorder (a1).toNatClampNeg))))] := hD
  exact hret _ H locs _ _ ⟨_, rfl, hw⟩ hP hS dX6_swap_26

def wp_X6_advance (zsize : Int32) (zorder : Nat → Int32)  (post : (Nat → Int32) → Prop) : Prop :=
  jn (fun (x1_1 : Int32) => ((0 ≤ x1_1 → jn (fun (x2_2 : Int32) => wp_X6_swap zorder x1_1 x2_2 (fun (zorder_4 : Nat → Int32) => lo (fun _ _ _ => False) (fun (G90 : Int32 → Int32 → (Nat → Int32) → Prop) (x3_5 : Int32) (x4_6 : Int32) (zorder_7 : Nat → Int32) => ((x4_6 ≤ x3_5 → post zorder_7) ∧ (¬ x4_6 ≤ x3_5 → wp_X6_swap zorder_7 x3_5 x4_6 (fun (zorder_9 : Nat → Int32) => G90 (x3_5 + (1 : Int32)) (x4_6 + (-1 : Int32)) zorder_9)))) (fun G90 => G90 (x1_1 + (1 : Int32)) (zsize - (1 : Int32)) zorder_4))) (fun (J72 : Int32 → Prop) => lo (fun _ => False) (fun (G46 : Int32 → Prop) (x2_10 : Int32) => ((x2_10 ≤ x1_1 → J72 x2_10) ∧ (¬ x2_10 ≤ x1_1 → (vp_in x2_10 7 ∧ (vp_in x1_1 7 ∧ (((zorder (x1_1).toNatClampNeg) ≤ (zorder (x2_10).toNatClampNeg) → J72 x2_10) ∧ (¬ (zorder (x1_1).toNatClampNeg) ≤ (zorder (x2_10).toNatClampNeg) → G46 (x2_10 + (-1 : Int32))))))))) (fun G46 => G46 (zsize - (1 : Int32))))) ∧ (¬ 0 ≤ x1_1 → post zorder))) (fun (J34 : Int32 → Prop) => lo (fun _ => False) (fun (G7 : Int32 → Prop) (x1_11 : Int32) => ((x1_11 < 0 → J34 x1_11) ∧ (¬ x1_11 < 0 → (vp_in x1_11 7 ∧ (vp_in (x1_11 + (1 : Int32)) 7 ∧ (((zorder (x1_11).toNatClampNeg) ≤ (zorder ((x1_11 + (1 : Int32))).toNatClampNeg) → J34 x1_11) ∧ (¬ (zorder (x1_11).toNatClampNeg) ≤ (zorder ((x1_11 + (1 : Int32))).toNatClampNeg) → G7 (x1_11 + (-1 : Int32))))))))) (fun G7 => G7 (zsize - (2 : Int32))))
set_option maxHeartbeats 4000000 in
set_option maxRecDepth 100000 in
theorem c_X6_advance (l : Launch) (D : va_G) (ci cz : ClassId) (tr : List (ClassId × FieldType)) (q0 q1 : Nat) (sz : Nat) (zsize : Int32) (zorder : Nat → Int32)  (post : (Nat → Int32) → Prop) (hw : wp_X6_advance zsize zorder post) : gM l yX6_advance cX6_advance 5 none 1 23 D ci cz tr [(q0, .inr (5, [.int zsize, .ref q1])), (q1, .inl (ci, 7, .inl zorder))] sz [.ref q0] (gQv D [(q0, .inr (5, [.int zsize, .ref q1])), (q1, .inl (ci, 7, .inl zorder))] sz (fun w => ∃ (o_zorder : Nat → Int32), w = [(q0, .inr (5, [.int zsize, .ref q1])), (q1, .inl (ci, 7, .inl o_zorder))] ∧ post o_zorder)) := by
  refine gmet_v RX6 (by decide +kernel) rfl (Nat.le_of_ble_eq_true rfl) ?_
  intro p e s m args below meth c A R Q C hfr hlc hP hD hret ls hl
  obtain ⟨hx, hb, hml, hown, ht, hK, hZ, hA⟩ := C
  have hl : lv_has ls 5 [(0, .ref q0)] := hl
  unfold wp_X6_advance at hw
  refine g_in (fun H locs => W p l e R s m args below meth c H locs 0 0 Q (F0 m 0 ls [])) (fun H locs hS0 hP => ?_) hP (va_S.rf (A := A) (H0 := s.heap))
  have hS : va_S A s.heap H locs := hS0
  clear hS0
  refine lv_aload_n hx hb dX6_advance_0 rfl (lv_at hl 0 rfl) ?_
  refine va_get (D := D) (ci := 5) (v := .int zsize) (C := RX6) (T := TX6) (N := 2) hx hb ht in_X6 hown hK.1 hP 0 rfl rfl 0 (by decide) (ht _ mF_X6_24) (fun _ h9 => h9) rfl dX6_advance_1 ?_
  refine lv_iconst (v := (2 : Int32)) hx hb dX6_advance_4 (by decide) ?_
  refine lv_isub hx hb dX6_advance_5 ?_
  refine lv_istore_n (lv' := [(1, .int (zsize - (2 : Int32))), (0, .ref q0)]) hx hb dX6_advance_6 rfl hl (by decide) rfl (fun ls hl => ?_)
  refine jn_walk hw (fun J34 => ∀ (x1_1 : Int32) (H : Heap) (locs : List Loc) (ls : Array Slot), J34 x1_1 → va_P D vwCl [(q0, .inr (5, [.int zsize, .ref q1])), (q1, .inl (ci, 7, .inl zorder))] H → va_S A s.heap H locs → lv_has ls 5 [(0, .ref q0), (1, .int x1_1)] → W p l e R s m args below meth c H locs 0 0 Q (F0 m 34 ls [])) ?_ ?_
  · intro x1_1 H locs ls hw hP hS hl
    have hD : va_D A [(q0, .inr (5, [.int zsize, .ref q1])), (q1, .inl (ci, 7, .inl zorder))] := gD_re hD rfl
    refine lv_iload_n hx hb dX6_advance_34 rfl (lv_at hl 1 rfl) ?_
    refine lv_if_ge (tgt := 39) hx hb dX6_advance_35 (by decide) (fun hc => ?_) (fun hc => ?_)
    · have hw := hw.1 hc
      refine lv_aload_n hx hb dX6_advance_39 rfl (lv_at hl 0 rfl) ?_
      refine va_get (D := D) (ci := 5) (v := .int zsize) (C := RX6) (T := TX6) (N := 2) hx hb ht in_X6 hown hK.1 hP 0 rfl rfl 0 (by decide) (ht _ mF_X6_24) (fun _ h9 => h9) rfl dX6_advance_40 ?_
      refine lv_iconst (v := (1 : Int32)) hx hb dX6_advance_43 (by decide) ?_
      refine lv_isub hx hb dX6_advance_44 ?_
      refine lv_istore_n (lv' := [(2, .int (zsize - (1 : Int32))), (0, .ref q0), (1, .int x1_1)]) hx hb dX6_advance_45 rfl hl (by decide) rfl (fun ls hl => ?_)
      refine jn_walk hw (fun J72 => ∀ (x2_2 : Int32) (H : Heap) (locs : List Loc) (ls : Array Slot), J72 x2_2 → va_P D vwCl [(q0, .inr (5, [.int zsize, .ref q1])), (q1, .inl (ci, 7, .inl zorder))] H → va_S A s.heap H locs → lv_has ls 5 [(0, .ref q0), (1, .int x1_1), (2, .int x2_2)] → W p l e R s m args below meth c H locs 0 0 Q (F0 m 72 ls [])) ?_ ?_
      · intro x2_2 H locs ls hw hP hS hl
        have hD : va_D A [(q0, .inr (5, [.int zsize, .ref q1])), (q1, .inl (ci, 7, .inl zorder))] := gD_re hD rfl
        refine lv_aload_n hx hb dX6_advance_72 rfl (lv_at hl 0 rfl) ?_
        refine lv_iload_n hx hb dX6_advance_73 rfl (lv_at hl 1 rfl) ?_
        refine lv_iload_n hx hb dX6_advance_74 rfl (lv_at hl 2 rfl) ?_
        refine gcallv (va_runV (As := [.int x1_1, .int x2_2]) (rest := []) ⟨hx, hb, hml, hown, ht⟩ (c_X6_swap l D ci cz tr q0 q1 H.size (.int zsize) zorder x1_1 x2_2 _ hw) (cwV 2 ht (gi_V mM_X6_32 mI_X6_swap mS_X6_swap mN_X6 mC_X6_swap) rfl rfl rfl (by decide +kernel) ⟨Nat.le_trans (Nat.le_of_ble_eq_true rfl) hfr, Nat.le_trans (Nat.le_of_ble_eq_true rfl) hlc⟩) (gpreV (wc := [(q0, .inr (5, [.int zsize, .ref q1])), (q1, .inl (ci, 7, .inl zorder))]) (k := 5) (q0 := 0) hK hZ hP hD hS hA [0, 1] rfl rfl rfl rfl rfl) rfl rfl hl.1 rfl (lv_room (Nat.le_of_ble_eq_true rfl)) dX6_advance_75 ⟨Nat.zero_le _, Nat.zero_le _⟩) hD hS hA [0, 1] rfl (fun w9 H locs hw hP9 hk9 hS => ?_)
        obtain ⟨zorder_4, rfl, hw⟩ := hw
        have hP : va_P D vwCl [(q0, .inr (5, [.int zsize, .ref q1])), (q1, .inl (ci, 7, .inl zorder_4))] H := gjoin3 hP hD [0, 1] hP9 hk9 rfl rfl [some 0, some 1] rfl rfl
        have hD : va_D A [(q0, .inr (5, [.int zsize, .ref q1])), (q1, .inl (ci, 7, .inl zorder_4))] := gD_re hD rfl
        clear hP9 hk9
        refine lv_iload_n hx hb dX6_advance_78 rfl (lv_at hl 1 rfl) ?_
        refine lv_iconst (v := (1 : Int32)) hx hb dX6_advance_79 (by decide) ?_
        refine lv_iadd hx hb dX6_advance_80 ?_
        refine lv_istore_n (lv' := [(3, .int (x1_1 + (1 : Int32))), (0, .ref q0), (1, .int x1_1), (2, .int x2_2)]) hx hb dX6_advance_81 rfl hl (by decide) rfl (fun ls hl => ?_)
        refine lv_aload_n hx hb dX6_advance_82 rfl (lv_at hl 1 rfl) ?_
        refine va_get (D := D) (ci := 5) (v := .int zsize) (C := RX6) (T := TX6) (N := 2) hx hb ht in_X6 hown hK.1 hP 0 rfl rfl 0 (by decide) (ht _ mF_X6_24) (fun _ h9 => h9) rfl dX6_advance_83 ?_
        refine lv_iconst (v := (1 : Int32)) hx hb dX6_advance_86 (by decide) ?_
        refine lv_isub hx hb dX6_advance_87 ?_
        refine lv_istore (lv' := [(4, .int (zsize - (1 : Int32))), (3, .int (x1_1 + (1 : Int32))), (0, .ref q0), (1, .int x1_1), (2, .int x2_2)]) hx hb dX6_advance_88 hl (by decide) rfl (fun ls hl => ?_)
        refine lo_walk hw (fun G90 => ∀ (x3_5 : Int32) (x4_6 : Int32) (zorder_7 : Nat → Int32) (H : Heap) (locs : List Loc) (ls : Array Slot), G90 x3_5 x4_6 zorder_7 → va_P D vwCl [(q0, .inr (5, [.int zsize, .ref q1])), (q1, .inl (ci, 7, .inl zorder_7))] H → va_S A s.heap H locs → lv_has ls 5 [(0, .ref q0), (3, .int x3_5), (4, .int x4_6)] → W p l e R s m args below meth c H locs 0 0 Q (F0 m 90 ls [])) (fun _ _ _ _ _ _ hw _ _ _ => False.elim hw) (fun G90 hG90 x3_5 x4_6 zorder_7 H locs ls hw hP hS hl => ?_) (fun G90 hG90 hw => hG90 _ _ _ H locs ls hw hP hS (lv_sub hl [2, 1, 0] rfl))
        have hD : va_D A [(q0, .inr (5, [.int zsize, .ref q1])), (q1, .inl (ci, 7, .inl zorder_7))] := gD_re hD rfl
        refine lv_iload_n hx hb dX6_advance_90 rfl (lv_at hl 1 rfl) ?_
        refine lv_iload hx hb dX6_advance_91 (lv_at hl 2 rfl) ?_
        refine lv_icmp_ge (tgt := 112) hx hb dX6_advance_93 (by decide) (fun hc => ?_) (fun hc => ?_)
        · have hw := hw.1 hc
          exact hret _ H locs _ _ ⟨_, rfl, hw⟩ hP hS dX6_advance_112
        · have hw := hw.2 hc
          refine lv_aload_n hx hb dX6_advance_96 rfl (lv_at hl 0 rfl) ?_
          refine lv_iload_n hx hb dX6_advance_97 rfl (lv_at hl 1 rfl) ?_
          refine lv_iload hx hb dX6_advance_98 (lv_at hl 2 rfl) ?_
          refine gcallv (va_runV (As := [.int x3_5, .int x4_6]) (rest := []) ⟨hx, hb, hml, hown, ht⟩ (c_X6_swap l D ci cz tr q0 q1 H.size (.int zsize) zorder_7 x3_5 x4_6 _ hw) (cwV 2 ht (gi_V mM_X6_32 mI_X6_swap mS_X6_swap mN_X6 mC_X6_swap) rfl rfl rfl (by decide +kernel) ⟨Nat.le_trans (Nat.le_of_ble_eq_true rfl) hfr, Nat.le_trans (Nat.le_of_ble_eq_true rfl) hlc⟩) (gpreV (wc := [(q0, .inr (5, [.int zsize, .ref q1])), (q1, .inl (ci, 7, .inl zorder_7))]) (k := 5) (q0 := 0) hK hZ hP hD hS hA [0, 1] rfl rfl rfl rfl rfl) rfl rfl hl.1 rfl (lv_room (Nat.le_of_ble_eq_true rfl)) dX6_advance_100 ⟨Nat.zero_le _, Nat.zero_le _⟩) hD hS hA [0, 1] rfl (fun w9 H locs hw hP9 hk9 hS => ?_)
          obtain ⟨zorder_9, rfl, hw⟩ := hw
          have hP : va_P D vwCl [(q0, .inr (5, [.int zsize, .ref q1])), (q1, .inl (ci, 7, .inl zorder_9))] H := gjoin3 hP hD [0, 1] hP9 hk9 rfl rfl [some 0, some 1] rfl rfl
          have hD : va_D A [(q0, .inr (5, [.int zsize, .ref q1])), (q1, .inl (ci, 7, .inl zorder_9))] := gD_re hD rfl
          clear hP9 hk9
          refine lv_iinc (v := (x3_5 + (1 : Int32))) (lv' := [(3, .int (x3_5 + (1 : Int32))), (0, .ref q0), (4, .int x4_6)]) hx hb dX6_advance_103 hl (k := 1) rfl rfl (by decide) rfl (fun ls hl => ?_)
          refine lv_iinc (v := (x4_6 + (-1 : Int32))) (lv' := [(4, .int (x4_6 + (-1 : Int32))), (3, .int (x3_5 + (1 : Int32))), (0, .ref q0)]) hx hb dX6_advance_106 hl (k := 2) rfl rfl (by decide) rfl (fun ls hl => ?_)
          refine lv_goto (tgt := 90) hx hb dX6_advance_109 (by decide) ?_
          exact hG90 _ _ _ H locs ls hw hP hS (lv_sub hl [2, 1, 0] rfl)
      · intro J72 hJ72 hw
        refine lo_walk hw (fun G46 => ∀ (x2_10 : Int32) (H : Heap) (locs : List Loc) (ls : Array Slot), G46 x2_10 → va_P D vwCl [(q0, .inr (5, [.int zsize, .ref q1])), (q1, .inl (ci, 7, .inl zorder))] H → va_S A s.heap H locs → lv_has ls 5 [(0, .ref q0), (1, .int x1_1), (2, .int x2_10)] → W p l e R s m args below meth c H locs 0 0 Q (F0 m 46 ls [])) (fun _ _ _ _ hw _ _ _ => False.elim hw) (fun G46 hG46 x2_10 H locs ls hw hP hS hl => ?_) (fun G46 hG46 hw => hG46 _ H locs ls hw hP hS (lv_sub hl [1, 2, 0] rfl))
        have hD : va_D A [(q0, .inr (5, [.int zsize, .ref q1])), (q1, .inl (ci, 7, .inl zorder))] := gD_re hD rfl
        refine lv_iload_n hx hb dX6_advance_46 rfl (lv_at hl 2 rfl) ?_
        refine lv_iload_n hx hb dX6_advance_47 rfl (lv_at hl 1 rfl) ?_
        refine lv_icmp_le (tgt := 72) hx hb dX6_advance_48 (by decide) (fun hc => ?_) (fun hc => ?_)
        · have hw := hw.1 hc
          exact hJ72 _ H locs ls hw hP hS (lv_sub hl [0, 1, 2] rfl)
        · have hw := hw.2 hc
          refine lv_aload_n hx hb dX6_advance_51 rfl (lv_at hl 0 rfl) ?_
          refine va_get (D := D) (ci := 5) (v := .ref q1) (C := RX6) (T := TX6) (N := 2) hx hb ht in_X6 hown hK.1 hP 0 rfl rfl 1 (by decide) (ht _ mF_X6_9) (fun _ h9 => h9) rfl dX6_advance_52 ?_
          refine lv_iload_n hx hb dX6_advance_55 rfl (lv_at hl 2 rfl) ?_
          obtain ⟨hin, hw⟩ := hw
          refine va_iald (D := D) hx hb hK.1 hP 1 0 rfl rfl hin dX6_advance_56 ?_
          refine lv_aload_n hx hb dX6_advance_57 rfl (lv_at hl 0 rfl) ?_
          refine va_get (D := D) (ci := 5) (v := .ref q1) (C := RX6) (T := TX6) (N := 2) hx hb ht in_X6 hown hK.1 hP 0 rfl rfl 1 (by decide) (ht _ mF_X6_9) (fun _ h9 => h9) rfl dX6_advance_58 ?_
          refine lv_iload_n hx hb dX6_advance_61 rfl (lv_at hl 1 rfl) ?_
          obtain ⟨hin, hw⟩ := hw
          refine va_iald (D := D) hx hb hK.1 hP 1 0 rfl rfl hin dX6_advance_62 ?_
          refine lv_icmp_ge (tgt := 72) hx hb dX6_advance_63 (by decide) (fun hc => ?_) (fun hc => ?_)
          · have hw := hw.1 hc
            exact hJ72 _ H locs ls hw hP hS (lv_sub hl [0, 1, 2] rfl)
          · have hw := hw.2 hc
            refine lv_iinc (v := (x2_10 + (-1 : Int32))) (lv' := [(2, .int (x2_10 + (-1 : Int32))), (0, .ref q0), (1, .int x1_1)]) hx hb dX6_advance_66 hl (k := 2) rfl rfl (by decide) rfl (fun ls hl => ?_)
            refine lv_goto (tgt := 46) hx hb dX6_advance_69 (by decide) ?_
            exact hG46 _ H locs ls hw hP hS (lv_sub hl [1, 2, 0] rfl)
    · have hw := hw.2 hc
      exact hret _ H locs _ _ ⟨_, rfl, hw⟩ hP hS dX6_advance_38
  · intro J34 hJ34 hw
    refine lo_walk hw (fun G7 => ∀ (x1_11 : Int32) (H : Heap) (locs : List Loc) (ls : Array Slot), G7 x1_11 → va_P D vwCl [(q0, .inr (5, [.int zsize, .ref q1])), (q1, .inl (ci, 7, .inl zorder))] H → va_S A s.heap H locs → lv_has ls 5 [(0, .ref q0), (1, .int x1_11)] → W p l e R s m args below meth c H locs 0 0 Q (F0 m 7 ls [])) (fun _ _ _ _ hw _ _ _ => False.elim hw) (fun G7 hG7 x1_11 H locs ls hw hP hS hl => ?_) (fun G7 hG7 hw => hG7 _ H locs ls hw hP hS (lv_sub hl [1, 0] rfl))
    have hD : va_D A [(q0, .inr (5, [.int zsize, .ref q1])), (q1, .inl (ci, 7, .inl zorder))] := gD_re hD rfl
    refine lv_iload_n hx hb dX6_advance_7 rfl (lv_at hl 1 rfl) ?_
    refine lv_if_lt (tgt := 34) hx hb dX6_advance_8 (by decide) (fun hc => ?_) (fun hc => ?_)
    · have hw := hw.1 hc
      exact hJ34 _ H locs ls hw hP hS (lv_sub hl [0, 1] rfl)
    · have hw := hw.2 hc
      refine lv_aload_n hx hb dX6_advance_11 rfl (lv_at hl 0 rfl) ?_
      refine va_get (D := D) (ci := 5) (v := .ref q1) (C := RX6) (T := TX6) (N := 2) hx hb ht in_X6 hown hK.1 hP 0 rfl rfl 1 (by decide) (ht _ mF_X6_9) (fun _ h9 => h9) rfl dX6_advance_12 ?_
      refine lv_iload_n hx hb dX6_advance_15 rfl (lv_at hl 1 rfl) ?_
      obtain ⟨hin, hw⟩ := hw
      refine va_iald (D := D) hx hb hK.1 hP 1 0 rfl rfl hin dX6_advance_16 ?_
      refine lv_aload_n hx hb dX6_advance_17 rfl (lv_at hl 0 rfl) ?_
      refine va_get (D := D) (ci := 5) (v := .ref q1) (C := RX6) (T := TX6) (N := 2) hx hb ht in_X6 hown hK.1 hP 0 rfl rfl 1 (by decide) (ht _ mF_X6_9) (fun _ h9 => h9) rfl dX6_advance_18 ?_
      refine lv_iload_n hx hb dX6_advance_21 rfl (lv_at hl 1 rfl) ?_
      refine lv_iconst (v := (1 : Int32)) hx hb dX6_advance_22 (by decide) ?_
      refine lv_iadd hx hb dX6_advance_23 ?_
      obtain ⟨hin, hw⟩ := hw
      refine va_iald (D := D) hx hb hK.1 hP 1 0 rfl rfl hin dX6_advance_24 ?_
      refine lv_icmp_le (tgt := 34) hx hb dX6_advance_25 (by decide) (fun hc => ?_) (fun hc => ?_)
      · have hw := hw.1 hc
        exact hJ34 _ H locs ls hw hP hS (lv_sub hl [0, 1] rfl)
      · have hw := hw.2 hc
        refine lv_iinc (v := (x1_11 + (-1 : Int32))) (lv' := [(1, .int (x1_11 + (-1 : Int32))), (0, .ref q0)]) hx hb dX6_advance_28 hl (k := 1) rfl rfl (by decide) rfl (fun ls hl => ?_)
        refine lv_goto (tgt := 7) hx hb dX6_advance_31 (by decide) ?_
        exact hG7 _ H locs ls hw hP hS (lv_sub hl [1, 0] rfl)

def wp_X3_find (zknown : Int32) (zmost : Int32) (zfull : Int32) (zorder : Nat → Int32) (zorders_size : Int32) (zorders_order : Nat → Int32) (zballot_left : Int32) (zballot_right : Int32) (zballot_leftDogs : Int32) (zballot_rightDogs : Int32) (zmeals : Nat → Int32) (zp1_hunger : Int32) (zp1_roll_dogs : Int32) (zp1_roll_halves : Nat → Int32) (zp1_roll_likings : Nat → Int32) (zp1_roll_fears : Nat → Int32) (zp1_questions_size : Int32) (zp1_questions_lefts : Nat → Int32) (zp1_questions_rights : Nat → Int32) (zp1_questions_numbers : Nat → Int32)  (post : Int32 → Int32 → Int32 → (Nat → Int32) → Int32 → (Nat → Int32) → Int32 → Int32 → Int32 → Int32 → (Nat → Int32) → Prop) : Prop :=
  ((zknown = 0 → wp_X6_begin zorders_size zorders_order zp1_questions_size (fun (r_1 : Int32) (zorders_size_2 : Int32) (zorders_order_3 : Nat → Int32) => jn (fun (zmost_4 : Int32) (zfull_5 : Int32) (zorder_6 : Nat → Int32) (zorders_order_7 : Nat → Int32) (zballot_left_8 : Int32) (zballot_right_9 : Int32) (zballot_leftDogs_10 : Int32) (zballot_rightDogs_11 : Int32) (zmeals_12 : Nat → Int32) => post (1 : Int32) zmost_4 zfull_5 zorder_6 zorders_size_2 zorders_order_7 zballot_left_8 zballot_right_9 zballot_leftDogs_10 zballot_rightDogs_11 zmeals_12) (fun (J88 : Int32 → Int32 → (Nat → Int32) → (Nat → Int32) → Int32 → Int32 → Int32 → Int32 → (Nat → Int32) → Prop) => lo (fun _ _ _ _ _ _ _ _ _ _ => False) (fun (G30 : Int32 → Int32 → Int32 → (Nat → Int32) → (Nat → Int32) → Int32 → Int32 → Int32 → Int32 → (Nat → Int32) → Prop) (x3_13 : Int32) (zmost_14 : Int32) (zfull_15 : Int32) (zorder_16 : Nat → Int32) (zorders_order_17 : Nat → Int32) (zballot_left_18 : Int32) (zballot_right_19 : Int32) (zballot_leftDogs_20 : Int32) (zballot_rightDogs_21 : Int32) (zmeals_22 : Nat → Int32) => ((r_1 ≤ x3_13 → J88 zmost_14 zfull_15 zorder_16 zorders_order_17 zballot_left_18 zballot_right_19 zballot_leftDogs_20 zballot_rightDogs_21 zmeals_22) ∧ (¬ r_1 ≤ x3_13 → wp_X3_worthsOf zfull_15 zorders_size_2 zorders_order_17 zballot_left_18 zballot_right_19 zballot_leftDogs_20 zballot_rightDogs_21 zmeals_22 zp1_hunger zp1_roll_dogs zp1_roll_halves zp1_roll_likings zp1_roll_fears zp1_questions_size zp1_questions_lefts zp1_questions_rights zp1_questions_numbers (fun (r_23 : Int32) (zfull_24 : Int32) (zballot_left_25 : Int32) (zballot_right_26 : Int32) (zballot_leftDogs_27 : Int32) (zballot_rightDogs_28 : Int32) (zmeals_29 : Nat → Int32) => jn (fun (zmost_30 : Int32) (zorder_31 : Nat → Int32) => wp_X6_advance zorders_size_2 zorders_order_17 (fun (zorders_order_33 : Nat → Int32) => G30 (x3_13 + (1 : Int32)) zmost_30 zfull_24 zorder_31 zorders_order_33 zballot_left_25 zballot_right_26 zballot_leftDogs_27 zballot_rightDogs_28 zmeals_29)) (fun (J75 : Int32 → (Nat → Int32) → Prop) => ((r_23 ≤ zmost_14 → J75 zmost_14 zorder_16) ∧ (¬ r_23 ≤ zmost_14 → J75 r_23 (va_cpy zorders_order_17 zorder_16 (0 : Int32).toNatClampNeg (0 : Int32).toNatClampNeg (7 : Int32).toNatClampNeg)))))))) (fun G30 => G30 (0 : Int32) (-1 : Int32) zfull zorder zorders_order_3 zballot_left zballot_right zballot_leftDogs zballot_rightDogs zmeals)))) ∧ (¬ zknown = 0 → post zknown zmost zfull zorder zorders_size zorders_order zballot_left zballot_right zballot_leftDogs zballot_rightDogs zmeals))
set_option maxHeartbeats 4000000 in
set_option maxRecDepth 100000 in
theorem c_X3_find (l : Launch) (D : va_G) (ci cz : ClassId) (tr : List (ClassId × FieldType)) (q0 q1 q2 q3 q4 q5 q6 q7 q8 q9 q10 q11 q12 q13 q14 : Nat) (sz : Nat) (u0 u1 u2 : Value) (zknown : Int32) (zmost : Int32) (zfull : Int32) (zorder : Nat → Int32) (zorders_size : Int32) (zorders_order : Nat → Int32) (zballot_left : Int32) (zballot_right : Int32) (zballot_leftDogs : Int32) (zballot_rightDogs : Int32) (zmeals : Nat → Int32) (zp1_hunger : Int32) (zp1_roll_dogs : Int32) (zp1_roll_halves : Nat → Int32) (zp1_roll_likings : Nat → Int32) (zp1_roll_fears : Nat → Int32) (zp1_questions_size : Int32) (zp1_questions_lefts : Nat → Int32) (zp1_questions_rights : Nat → Int32) (zp1_questions_numbers : Nat → Int32)  (post : Int32 → Int32 → Int32 → (Nat → Int32) → Int32 → (Nat → Int32) → Int32 → Int32 → Int32 → Int32 → (Nat → Int32) → Prop) (hw : wp_X3_find zknown zmost zfull zorder zorders_size zorders_order zballot_left zballot_right zballot_leftDogs zballot_rightDogs zmeals zp1_hunger zp1_roll_dogs zp1_roll_halves zp1_roll_likings zp1_roll_fears zp1_questions_size zp1_questions_lefts zp1_questions_rights zp1_questions_numbers post) : gM l yX3_find cX3_find 5 none 4 100 D ci cz tr [(q0, .inr (2, [.int zknown, .int zmost, .ref q1, .ref q2, .ref q4, .ref q5, .int zfull])), (q1, .inl (ci, 7, .inl zorder)), (q2, .inr (5, [.int zorders_size, .ref q3])), (q3, .inl (ci, 7, .inl zorders_order)), (q4, .inr (0, [.int zballot_left, .int zballot_right, .int zballot_leftDogs, .int zballot_rightDogs])), (q5, .inl (ci, 7, .inl zmeals)), (q6, .inr (7, [.ref q7, u0, .ref q11, .int zp1_hunger])), (q7, .inr (8, [.int zp1_roll_dogs, u1, .ref q8, .ref q9, .ref q10, u2])), (q8, .inl (ci, 7, .inl zp1_roll_halves)), (q9, .inl (ci, 7, .inl zp1_roll_likings)), (q10, .inl (ci, 7, .inl zp1_roll_fears)), (q11, .inr (9, [.int zp1_questions_size, .ref q12, .ref q13, .ref q14])), (q12, .inl (ci, 5, .inl zp1_questions_lefts)), (q13, .inl (ci, 5, .inl zp1_questions_rights)), (q14, .inl (ci, 5, .inl zp1_questions_numbers))] sz [.ref q0, .ref q6] (gQv D [(q0, .inr (2, [.int zknown, .int zmost, .ref q1, .ref q2, .ref q4, .ref q5, .int zfull])), (q1, .inl (ci, 7, .inl zorder)), (q2, .inr (5, [.int zorders_size, .ref q3])), (q3, .inl (ci, 7, .inl zorders_order)), (q4, .inr (0, [.int zballot_left, .int zballot_right, .int zballot_leftDogs, .int zballot_rightDogs])), (q5, .inl (ci, 7, .inl zmeals)), (q6, .inr (7, [.ref q7, u0, .ref q11, .int zp1_hunger])), (q7, .inr (8, [.int zp1_roll_dogs, u1, .ref q8, .ref q9, .ref q10, u2])), (q8, .inl (ci, 7, .inl zp1_roll_halves)), (q9, .inl (ci, 7, .inl zp1_roll_likings)), (q10, .inl (ci, 7, .inl zp1_roll_fears)), (q11, .inr (9, [.int zp1_questions_size, .ref q12, .ref q13, .ref q14])), (q12, .inl (ci, 5, .inl zp1_questions_lefts)), (q13, .inl (ci, 5, .inl zp1_questions_rights)), (q14, .inl (ci, 5, .inl zp1_questions_numbers))] sz (fun w => ∃ (o_zknown : Int32) (o_zmost : Int32) (o_zfull : Int32) (o_zorder : Nat → Int32) (o_zorders_size : Int32) (o_zorders_order : Nat → Int32) (o_zballot_left : Int32) (o_zballot_right : Int32) (o_zballot_leftDogs : Int32) (o_zballot_rightDogs : Int32) (o_zmeals : Nat → Int32), w = [(q0, .inr (2, [.int o_zknown, .int o_zmost, .ref q1, .ref q2, .ref q4, .ref q5, .int o_zfull])), (q1, .inl (ci, 7, .inl o_zorder)), (q2, .inr (5, [.int o_zorders_size, .ref q3])), (q3, .inl (ci, 7, .inl o_zorders_order)), (q4, .inr (0, [.int o_zballot_left, .int o_zballot_right, .int o_zballot_leftDogs, .int o_zballot_rightDogs])), (q5, .inl (ci, 7, .inl o_zmeals)), (q6, .inr (7, [.ref q7, u0, .ref q11, .int zp1_hunger])), (q7, .inr (8, [.int zp1_roll_dogs, u1, .ref q8, .ref q9, .ref q10, u2])), (q8, .inl (ci, 7, .inl zp1_roll_halves)), (q9, .inl (ci, 7, .inl zp1_roll_likings)), (q10, .inl (ci, 7, .inl zp1_roll_fears)), (q11, .inr (9, [.int zp1_questions_size, .ref q12, .ref q13, .ref q14])), (q12, .inl (ci, 5, .inl zp1_questions_lefts)), (q13, .inl (ci, 5, .inl zp1_questions_rights)), (q14, .inl (ci, 5, .inl zp1_questions_numbers))] ∧ post o_zknown o_zmost o_zfull o_zorder o_zorders_size o_zorders_order o_zballot_left o_zballot_right o_zballot_leftDogs o_zballot_rightDogs o_zmeals)) := by
  refine gmet_v RX3 (by decide +kernel) rfl (Nat.le_of_ble_eq_true rfl) ?_
  intro p e s m args below meth c A R Q C hfr hlc hP hD hret ls hl
  obtain ⟨hx, hb, hml, hown, ht, hK, hZ, hA⟩ := C
  have hl : lv_has ls 5 [(0, .ref q0), (1, .ref q6)] := hl
  unfold wp_X3_find at hw
  refine g_in (fun H locs => W p l e R s m args below meth c H locs 0 0 Q (F0 m 0 ls [])) (fun H locs hS0 hP => ?_) hP (va_S.rf (A := A) (H0 := s.heap))
  have hS : va_S A s.heap H locs := hS0
  clear hS0
  refine lv_aload_n hx hb dX3_find_0 rfl (lv_at hl 0 rfl) ?_
  refine va_get (D := D) (ci := 2) (v := .int zknown) (C := RX3) (T := TX3) (N := 7) hx hb ht in_X3 hown hK.1 hP 0 rfl rfl 0 (by decide) (ht _ mF_X3_32) (fun _ h9 => h9) rfl dX3_find_1 ?_
  refine lv_if_eq (tgt := 8) hx hb dX3_find_4 (by decide) (fun hc => ?_) (fun hc => ?_)
  · have hw := hw.1 hc
    refine lv_aload_n hx hb dX3_find_8 rfl (lv_at hl 0 rfl) ?_
    refine lv_iconst (v := (-1 : Int32)) hx hb dX3_find_9 (by decide) ?_
    refine va_put (D := D) (ci := 2) (v := .int (-1 : Int32)) (ty := .int) (C := RX3) (T := TX3) (N := 7) hx hb ht in_X3 tyX3 tyX3_ok nmX3 hown hK.1 hP hD hS 0 rfl rfl 1 (by decide) (ht _ mF_X3_36) (fun _ h9 => h9) rfl (by decide +kernel) rfl rfl (Nat.le_of_ble_eq_true rfl) dX3_find_10 (fun H locs hP hD hS => ?_)
    have hP : va_P D vwCl [(q0, .inr (2, [.int zknown, .int (-1 : Int32), .ref q1, .ref q2, .ref q4, .ref q5, .int zfull])), (q1, .inl (ci, 7, .inl zorder)), (q2, .inr (5, [.int zorders_size, .ref q3])), (q3, .inl (ci, 7, .inl zorders_order)), (q4, .inr (0, [.int zballot_left, .int zballot_right, .int zballot_leftDogs, .int zballot_rightDogs])), (q5, .inl (ci, 7, .inl zmeals)), (q6, .inr (7, [.ref q7, u0, .ref q11, .int zp1_hunger])), (q7, .inr (8, [.int zp1_roll_dogs, u1, .ref q8, .ref q9, .ref q10, u2])), (q8, .inl (ci, 7, .inl zp1_roll_halves)), (q9, .inl (ci, 7, .inl zp1_roll_likings)), (q10, .inl (ci, 7, .inl zp1_roll_fears)), (q11, .inr (9, [.int zp1_questions_size, .ref q12, .ref q13, .ref q14])), (q12, .inl (ci, 5, .inl zp1_questions_lefts)), (q13, .inl (ci, 5, .inl zp1_questions_rights)), (q14, .inl (ci, 5, .inl zp1_questions_numbers))] H := hP
    have hD : va_D A [(q0, .inr (2, [.int zknown, .int (-1 : Int32), .ref q1, .ref q2, .ref q4, .ref q5, .int zfull])), (q1, .inl (ci, 7, .inl zorder)), (q2, .inr (5, [.int zorders_size, .ref q3])), (q3, .inl (ci, 7, .inl zorders_order)), (q4, .inr (0, [.int zballot_left, .int zballot_right, .int zballot_leftDogs, .int zballot_rightDogs])), (q5, .inl (ci, 7, .inl zmeals)), (q6, .inr (7, [.ref q7, u0, .ref q11, .int zp1_hunger])), (q7, .inr (8, [.int zp1_roll_dogs, u1, .ref q8, .ref q9, .ref q10, u2])), (q8, .inl (ci, 7, .inl zp1_roll_halves)), (q9, .inl (ci, 7, .inl zp1_roll_likings)), (q10, .inl (ci, 7, .inl zp1_roll_fears)), (q11, .inr (9, [.int zp1_questions_size, .ref q12, .ref q13, .ref q14])), (q12, .inl (ci, 5, .inl zp1_questions_lefts)), (q13, .inl (ci, 5, .inl zp1_questions_rights)), (q14, .inl (ci, 5, .inl zp1_questions_numbers))] := hD
    refine lv_aload_n hx hb dX3_find_13 rfl (lv_at hl 0 rfl) ?_
    refine va_get (D := D) (ci := 2) (v := .ref q2) (C := RX3) (T := TX3) (N := 7) hx hb ht in_X3 hown hK.1 hP 0 rfl rfl 3 (by decide) (ht _ mF_X3_18) (fun _ h9 => h9) rfl dX3_find_14 ?_
    refine lv_aload_n hx hb dX3_find_17 rfl (lv_at hl 1 rfl) ?_
    refine va_get (D := D) (ci := 7) (v := .ref q11) (C := RX8) (T := TX8) (N := 4) hx hb ht in_X8 hown hK.1 hP 6 rfl rfl 2 (by decide) (ht _ mF_X3_40) (fun _ h9 => h9) rfl dX3_find_18 ?_
    refine va_get (D := D) (ci := 9) (v := .int zp1_questions_size) (C := RX10) (T := TX10) (N := 4) hx hb ht in_X10 hown hK.1 hP 11 rfl rfl 0 (by decide) (ht _ mF_X3_46) (fun _ h9 => h9) rfl dX3_find_21 ?_
    refine gcalli (va_runV (As := [.int zp1_questions_size]) (rest := []) ⟨hx, hb, hml, hown, ht⟩ (c_X6_begin l D ci cz tr q2 q3 H.size zorders_size zorders_order zp1_questions_size _ hw) (cwV 1 ht (gi_V mM_X3_51 mI_X6_begin mS_X6_begin mN_X6 mC_X6_begin) rfl rfl rfl (by decide +kernel) ⟨Nat.le_trans (Nat.le_of_ble_eq_true rfl) hfr, Nat.le_trans (Nat.le_of_ble_eq_true rfl) hlc⟩) (gpreV (wc := [(q2, .inr (5, [.int zorders_size, .ref q3])), (q3, .inl (ci, 7, .inl zorders_order))]) (k := 5) (q0 := 2) hK hZ hP hD hS hA [2, 3] rfl rfl rfl rfl rfl) rfl rfl hl.1 rfl (lv_room (Nat.le_of_ble_eq_true rfl)) dX3_find_24 ⟨Nat.zero_le _, Nat.zero_le _⟩) hD hS hA [2, 3] rfl (fun r_1 w9 H locs hw hP9 hk9 hS => ?_)
    obtain ⟨zorders_size_2, zorders_order_3, rfl, hw⟩ := hw
    have hP : va_P D vwCl [(q0, .inr (2, [.int zknown, .int (-1 : Int32), .ref q1, .ref q2, .ref q4, .ref q5, .int zfull])), (q1, .inl (ci, 7, .inl zorder)), (q2, .inr (5, [.int zorders_size_2, .ref q3])), (q3, .inl (ci, 7, .inl zorders_order_3)), (q4, .inr (0, [.int zballot_left, .int zballot_right, .int zballot_leftDogs, .int zballot_rightDogs])), (q5, .inl (ci, 7, .inl zmeals)), (q6, .inr (7, [.ref q7, u0, .ref q11, .int zp1_hunger])), (q7, .inr (8, [.int zp1_roll_dogs, u1, .ref q8, .ref q9, .ref q10, u2])), (q8, .inl (ci, 7, .inl zp1_roll_halves)), (q9, .inl (ci, 7, .inl zp1_roll_likings)), (q10, .inl (ci, 7, .inl zp1_roll_fears)), (q11, .inr (9, [.int zp1_questions_size, .ref q12, .ref q13, .ref q14])), (q12, .inl (ci, 5, .inl zp1_questions_lefts)), (q13, .inl (ci, 5, .inl zp1_questions_rights)), (q14, .inl (ci, 5, .inl zp1_questions_numbers))] H := gjoin3 hP hD [2, 3] hP9 hk9 rfl rfl [none, none, some 0, some 1, none, none, none, none, none, none, none, none, none, none, none] rfl rfl
    have hD : va_D A [(q0, .inr (2, [.int zknown, .int (-1 : Int32), .ref q1, .ref q2, .ref q4, .ref q5, .int zfull])), (q1, .inl (ci, 7, .inl zorder)), (q2, .inr (5, [.int zorders_size_2, .ref q3])), (q3, .inl (ci, 7, .inl zorders_order_3)), (q4, .inr (0, [.int zballot_left, .int zballot_right, .int zballot_leftDogs, .int zballot_rightDogs])), (q5, .inl (ci, 7, .inl zmeals)), (q6, .inr (7, [.ref q7, u0, .ref q11, .int zp1_hunger])), (q7, .inr (8, [.int zp1_roll_dogs, u1, .ref q8, .ref q9, .ref q10, u2])), (q8, .inl (ci, 7, .inl zp1_roll_halves)), (q9, .inl (ci, 7, .inl zp1_roll_likings)), (q10, .inl (ci, 7, .inl zp1_roll_fears)), (q11, .inr (9, [.int zp1_questions_size, .ref q12, .ref q13, .ref q14])), (q12, .inl (ci, 5, .inl zp1_questions_lefts)), (q13, .inl (ci, 5, .inl zp1_questions_rights)), (q14, .inl (ci, 5, .inl zp1_questions_numbers))] := gD_re hD rfl
    clear hP9 hk9
    refine lv_istore_n (lv' := [(2, .int r_1), (0, .ref q0), (1, .ref q6)]) hx hb dX3_find_27 rfl hl (by decide) rfl (fun ls hl => ?_)
    refine lv_iconst (v := (0 : Int32)) hx hb dX3_find_28 (by decide) ?_
    refine lv_istore_n (lv' := [(3, .int (0 : Int32)), (2, .int r_1), (0, .ref q0), (1, .ref q6)]) hx hb dX3_find_29 rfl hl (by decide) rfl (fun ls hl => ?_)
    refine jn_walk hw (fun J88 => ∀ (zmost_4 : Int32) (zfull_5 : Int32) (zorder_6 : Nat → Int32) (zorders_order_7 : Nat → Int32) (zballot_left_8 : Int32) (zballot_right_9 : Int32) (zballot_leftDogs_10 : Int32) (zballot_rightDogs_11 : Int32) (zmeals_12 : Nat → Int32) (H : Heap) (locs : List Loc) (ls : Array Slot), J88 zmost_4 zfull_5 zorder_6 zorders_order_7 zballot_left_8 zballot_right_9 zballot_leftDogs_10 zballot_rightDogs_11 zmeals_12 → va_P D vwCl [(q0, .inr (2, [.int zknown, .int zmost_4, .ref q1, .ref q2, .ref q4, .ref q5, .int zfull_5])), (q1, .inl (ci, 7, .inl zorder_6)), (q2, .inr (5, [.int zorders_size_2, .ref q3])), (q3, .inl (ci, 7, .inl zorders_order_7)), (q4, .inr (0, [.int zballot_left_8, .int zballot_right_9, .int zballot_leftDogs_10, .int zballot_rightDogs_11])), (q5, .inl (ci, 7, .inl zmeals_12)), (q6, .inr (7, [.ref q7, u0, .ref q11, .int zp1_hunger])), (q7, .inr (8, [.int zp1_roll_dogs, u1, .ref q8, .ref q9, .ref q10, u2])), (q8, .inl (ci, 7, .inl zp1_roll_halves)), (q9, .inl (ci, 7, .inl zp1_roll_likings)), (q10, .inl (ci, 7, .inl zp1_roll_fears)), (q11, .inr (9, [.int zp1_questions_size, .ref q12, .ref q13, .ref q14])), (q12, .inl (ci, 5, .inl zp1_questions_lefts)), (q13, .inl (ci, 5, .inl zp1_questions_rights)), (q14, .inl (ci, 5, .inl zp1_questions_numbers))] H → va_S A s.heap H locs → lv_has ls 5 [(0, .ref q0)] → W p l e R s m args below meth c H locs 0 0 Q (F0 m 88 ls [])) ?_ ?_
    · intro zmost_4 zfull_5 zorder_6 zorders_order_7 zballot_left_8 zballot_right_9 zballot_leftDogs_10 zballot_rightDogs_11 zmeals_12 H locs ls hw hP hS hl
      have hD : va_D A [(q0, .inr (2, [.int zknown, .int zmost_4, .ref q1, .ref q2, .ref q4, .ref q5, .int zfull_5])), (q1, .inl (ci, 7, .inl zorder_6)), (q2, .inr (5, [.int zorders_size_2, .ref q3])), (q3, .inl (ci, 7, .inl zorders_order_7)), (q4, .inr (0, [.int zballot_left_8, .int zballot_right_9, .int zballot_leftDogs_10, .int zballot_rightDogs_11])), (q5, .inl (ci, 7, .inl zmeals_12)), (q6, .inr (7, [.ref q7, u0, .ref q11, .int zp1_hunger])), (q7, .inr (8, [.int zp1_roll_dogs, u1, .ref q8, .ref q9, .ref q10, u2])), (q8, .inl (ci, 7, .inl zp1_roll_halves)), (q9, .inl (ci, 7, .inl zp1_roll_likings)), (q10, .inl (ci, 7, .inl zp1_roll_fears)), (q11, .inr (9, [.int zp1_questions_size, .ref q12, .ref q13, .ref q14])), (q12, .inl (ci, 5, .inl zp1_questions_lefts)), (q13, .inl (ci, 5, .inl zp1_questions_rights)), (q14, .inl (ci, 5, .inl zp1_questions_numbers))] := gD_re hD rfl
      refine lv_aload_n hx hb dX3_find_88 rfl (lv_at hl 0 rfl) ?_
      refine lv_iconst (v := (1 : Int32)) hx hb dX3_find_89 (by decide) ?_
      refine va_put (D := D) (ci := 2) (v := .int (1 : Int32)) (ty := .boolean) (C := RX3) (T := TX3) (N := 7) hx hb ht in_X3 tyX3 tyX3_ok nmX3 hown hK.1 hP hD hS 0 rfl rfl 0 (by decide) (ht _ mF_X3_32) (fun _ h9 => h9) rfl (by decide +kernel) rfl rfl (Nat.le_of_ble_eq_true rfl) dX3_find_90 (fun H locs hP hD hS => ?_)
      have hP : va_P D vwCl [(q0, .inr (2, [.int (1 : Int32), .int zmost_4, .ref q1, .ref q2, .ref q4, .ref q5, .int zfull_5])), (q1, .inl (ci, 7, .inl zorder_6)), (q2, .inr (5, [.int zorders_size_2, .ref q3])), (q3, .inl (ci, 7, .inl zorders_order_7)), (q4, .inr (0, [.int zballot_left_8, .int zballot_right_9, .int zballot_leftDogs_10, .int zballot_rightDogs_11])), (q5, .inl (ci, 7, .inl zmeals_12)), (q6, .inr (7, [.ref q7, u0, .ref q11, .int zp1_hunger])), (q7, .inr (8, [.int zp1_roll_dogs, u1, .ref q8, .ref q9, .ref q10, u2])), (q8, .inl (ci, 7, .inl zp1_roll_halves)), (q9, .inl (ci, 7, .inl zp1_roll_likings)), (q10, .inl (ci, 7, .inl zp1_roll_fears)), (q11, .inr (9, [.int zp1_questions_size, .ref q12, .ref q13, .ref q14])), (q12, .inl (ci, 5, .inl zp1_questions_lefts)), (q13, .inl (ci, 5, .inl zp1_questions_rights)), (q14, .inl (ci, 5, .inl zp1_questions_numbers))] H := hP
      have hD : va_D A [(q0, .inr (2, [.int (1 : Int32), .int zmost_4, .ref q1, .ref q2, .ref q4, .ref q5, .int zfull_5])), (q1, .inl (ci, 7, .inl zorder_6)), (q2, .inr (5, [.int zorders_size_2, .ref q3])), (q3, .inl (ci, 7, .inl zorders_order_7)), (q4, .inr (0, [.int zballot_left_8, .int zballot_right_9, .int zballot_leftDogs_10, .int zballot_rightDogs_11])), (q5, .inl (ci, 7, .inl zmeals_12)), (q6, .inr (7, [.ref q7, u0, .ref q11, .int zp1_hunger])), (q7, .inr (8, [.int zp1_roll_dogs, u1, .ref q8, .ref q9, .ref q10, u2])), (q8, .inl (ci, 7, .inl zp1_roll_halves)), (q9, .inl (ci, 7, .inl zp1_roll_likings)), (q10, .inl (ci, 7, .inl zp1_roll_fears)), (q11, .inr (9, [.int zp1_questions_size, .ref q12, .ref q13, .ref q14])), (q12, .inl (ci, 5, .inl zp1_questions_lefts)), (q13, .inl (ci, 5, .inl zp1_questions_rights)), (q14, .inl (ci, 5, .inl zp1_questions_numbers))] := hD
      exact hret _ H locs _ _ ⟨_, _, _, _, _, _, _, _, _, _, _, rfl, hw⟩ hP hS dX3_find_93
    · intro J88 hJ88 hw
      refine lo_walk hw (fun G30 => ∀ (x3_13 : Int32) (zmost_14 : Int32) (zfull_15 : Int32) (zorder_16 : Nat → Int32) (zorders_order_17 : Nat → Int32) (zballot_left_18 : Int32) (zballot_right_19 : Int32) (zballot_leftDogs_20 : Int32) (zballot_rightDogs_21 : Int32) (zmeals_22 : Nat → Int32) (H : Heap) (locs : List Loc) (ls : Array Slot), G30 x3_13 zmost_14 zfull_15 zorder_16 zorders_order_17 zballot_left_18 zballot_right_19 zballot_leftDogs_20 zballot_rightDogs_21 zmeals_22 → va_P D vwCl [(q0, .inr (2, [.int zknown, .int zmost_14, .ref q1, .ref q2, .ref q4, .ref q5, .int zfull_15])), (q1, .inl (ci, 7, .inl zorder_16)), (q2, .inr (5, [.int zorders_size_2, .ref q3])), (q3, .inl (ci, 7, .inl zorders_order_17)), (q4, .inr (0, [.int zballot_left_18, .int zballot_right_19, .int zballot_leftDogs_20, .int zballot_rightDogs_21])), (q5, .inl (ci, 7, .inl zmeals_22)), (q6, .inr (7, [.ref q7, u0, .ref q11, .int zp1_hunger])), (q7, .inr (8, [.int zp1_roll_dogs, u1, .ref q8, .ref q9, .ref q10, u2])), (q8, .inl (ci, 7, .inl zp1_roll_halves)), (q9, .inl (ci, 7, .inl zp1_roll_likings)), (q10, .inl (ci, 7, .inl zp1_roll_fears)), (q11, .inr (9, [.int zp1_questions_size, .ref q12, .ref q13, .ref q14])), (q12, .inl (ci, 5, .inl zp1_questions_lefts)), (q13, .inl (ci, 5, .inl zp1_questions_rights)), (q14, .inl (ci, 5, .inl zp1_questions_numbers))] H → va_S A s.heap H locs → lv_has ls 5 [(0, .ref q0), (1, .ref q6), (2, .int r_1), (3, .int x3_13)] → W p l e R s m args below meth c H locs 0 0 Q (F0 m 30 ls [])) (fun _ _ _ _ _ _ _ _ _ _ _ _ _ hw _ _ _ => False.elim hw) (fun G30 hG30 x3_13 zmost_14 zfull_15 zorder_16 zorders_order_17 zballot_left_18 zballot_right_19 zballot_leftDogs_20 zballot_rightDogs_21 zmeals_22 H locs ls hw hP hS hl => ?_) (fun G30 hG30 hw => hG30 _ _ _ _ _ _ _ _ _ _ H locs ls hw hP hS (lv_sub hl [2, 3, 1, 0] rfl))
      have hD : va_D A [(q0, .inr (2, [.int zknown, .int zmost_14, .ref q1, .ref q2, .ref q4, .ref q5, .int zfull_15])), (q1, .inl (ci, 7, .inl zorder_16)), (q2, .inr (5, [.int zorders_size_2, .ref q3])), (q3, .inl (ci, 7, .inl zorders_order_17)), (q4, .inr (0, [.int zballot_left_18, .int zballot_right_19, .int zballot_leftDogs_20, .int zballot_rightDogs_21])), (q5, .inl (ci, 7, .inl zmeals_22)), (q6, .inr (7, [.ref q7, u0, .ref q11, .int zp1_hunger])), (q7, .inr (8, [.int zp1_roll_dogs, u1, .ref q8, .ref q9, .ref q10, u2])), (q8, .inl (ci, 7, .inl zp1_roll_halves)), (q9, .inl (ci, 7, .inl zp1_roll_likings)), (q10, .inl (ci, 7, .inl zp1_roll_fears)), (q11, .inr (9, [.int zp1_questions_size, .ref q12, .ref q13, .ref q14])), (q12, .inl (ci, 5, .inl zp1_questions_lefts)), (q13, .inl (ci, 5, .inl zp1_questions_rights)), (q14, .inl (ci, 5, .inl zp1_questions_numbers))] := gD_re hD rfl
      refine lv_iload_n hx hb dX3_find_30 rfl (lv_at hl 3 rfl) ?_
      refine lv_iload_n hx hb dX3_find_31 rfl (lv_at hl 2 rfl) ?_
      refine lv_icmp_ge (tgt := 88) hx hb dX3_find_32 (by decide) (fun hc => ?_) (fun hc => ?_)
      · have hw := hw.1 hc
        exact hJ88 _ _ _ _ _ _ _ _ _ H locs ls hw hP hS (lv_sub hl [0] rfl)
      · have hw := hw.2 hc
        refine lv_aload_n hx hb dX3_find_35 rfl (lv_at hl 0 rfl) ?_
        refine lv_aload_n hx hb dX3_find_36 rfl (lv_at hl 1 rfl) ?_
        refine gcalli (va_runV (As := [.ref q6]) (rest := []) ⟨hx, hb, hml, hown, ht⟩ (c_X3_worthsOf l D ci cz tr q0 q2 q3 q4 q5 q6 q7 q8 q9 q10 q11 q12 q13 q14 H.size (.int zknown) (.int zmost_14) (.ref q1) u0 u1 u2 zfull_15 zorders_size_2 zorders_order_17 zballot_left_18 zballot_right_19 zballot_leftDogs_20 zballot_rightDogs_21 zmeals_22 zp1_hunger zp1_roll_dogs zp1_roll_halves zp1_roll_likings zp1_roll_fears zp1_questions_size zp1_questions_lefts zp1_questions_rights zp1_questions_numbers _ hw) (cwV 1 ht (gi_V mM_X3_55 mI_X3_worthsOf mS_X3_worthsOf mN_X3 mC_X3_worthsOf) rfl rfl rfl (by decide +kernel) ⟨Nat.le_trans (Nat.le_of_ble_eq_true rfl) hfr, Nat.le_trans (Nat.le_of_ble_eq_true rfl) hlc⟩) (gpreV (wc := [(q0, .inr (2, [.int zknown, .int zmost_14, .ref q1, .ref q2, .ref q4, .ref q5, .int zfull_15])), (q2, .inr (5, [.int zorders_size_2, .ref q3])), (q3, .inl (ci, 7, .inl zorders_order_17)), (q4, .inr (0, [.int zballot_left_18, .int zballot_right_19, .int zballot_leftDogs_20, .int zballot_rightDogs_21])), (q5, .inl (ci, 7, .inl zmeals_22)), (q6, .inr (7, [.ref q7, u0, .ref q11, .int zp1_hunger])), (q7, .inr (8, [.int zp1_roll_dogs, u1, .ref q8, .ref q9, .ref q10, u2])), (q8, .inl (ci, 7, .inl zp1_roll_halves)), (q9, .inl (ci, 7, .inl zp1_roll_likings)), (q10, .inl (ci, 7, .inl zp1_roll_fears)), (q11, .inr (9, [.int zp1_questions_size, .ref q12, .ref q13, .ref q14])), (q12, .inl (ci, 5, .inl zp1_questions_lefts)), (q13, .inl (ci, 5, .inl zp1_questions_rights)), (q14, .inl (ci, 5, .inl zp1_questions_numbers))]) (k := 2) (q0 := 0) hK hZ hP hD hS hA [0, 2, 3, 4, 5, 6, 7, 8, 9, 10, 11, 12, 13, 14] rfl rfl rfl rfl rfl) rfl rfl hl.1 rfl (lv_room (Nat.le_of_ble_eq_true rfl)) dX3_find_37 ⟨Nat.zero_le _, Nat.zero_le _⟩) hD hS hA [0, 2, 3, 4, 5, 6, 7, 8, 9, 10, 11, 12, 13, 14] rfl (fun r_23 w9 H locs hw hP9 hk9 hS => ?_)
        obtain ⟨zfull_24, zballot_left_25, zballot_right_26, zballot_leftDogs_27, zballot_rightDogs_28, zmeals_29, rfl, hw⟩ := hw
        have hP : va_P D vwCl [(q0, .inr (2, [.int zknown, .int zmost_14, .ref q1, .ref q2, .ref q4, .ref q5, .int zfull_24])), (q1, .inl (ci, 7, .inl zorder_16)), (q2, .inr (5, [.int zorders_size_2, .ref q3])), (q3, .inl (ci, 7, .inl zorders_order_17)), (q4, .inr (0, [.int zballot_left_25, .int zballot_right_26, .int zballot_leftDogs_27, .int zballot_rightDogs_28])), (q5, .inl (ci, 7, .inl zmeals_29)), (q6, .inr (7, [.ref q7, u0, .ref q11, .int zp1_hunger])), (q7, .inr (8, [.int zp1_roll_dogs, u1, .ref q8, .ref q9, .ref q10, u2])), (q8, .inl (ci, 7, .inl zp1_roll_halves)), (q9, .inl (ci, 7, .inl zp1_roll_likings)), (q10, .inl (ci, 7, .inl zp1_roll_fears)), (q11, .inr (9, [.int zp1_questions_size, .ref q12, .ref q13, .ref q14])), (q12, .inl (ci, 5, .inl zp1_questions_lefts)), (q13, .inl (ci, 5, .inl zp1_questions_rights)), (q14, .inl (ci, 5, .inl zp1_questions_numbers))] H := gjoin3 hP hD [0, 2, 3, 4, 5, 6, 7, 8, 9, 10, 11, 12, 13, 14] hP9 hk9 rfl rfl [some 0, none, some 1, some 2, some 3, some 4, some 5, some 6, some 7, some 8, some 9, some 10, some 11, some 12, some 13] rfl rfl
        have hD : va_D A [(q0, .inr (2, [.int zknown, .int zmost_14, .ref q1, .ref q2, .ref q4, .ref q5, .int zfull_24])), (q1, .inl (ci, 7, .inl zorder_16)), (q2, .inr (5, [.int zorders_size_2, .ref q3])), (q3, .inl (ci, 7, .inl zorders_order_17)), (q4, .inr (0, [.int zballot_left_25, .int zballot_right_26, .int zballot_leftDogs_27, .int zballot_rightDogs_28])), (q5, .inl (ci, 7, .inl zmeals_29)), (q6, .inr (7, [.ref q7, u0, .ref q11, .int zp1_hunger])), (q7, .inr (8, [.int zp1_roll_dogs, u1, .ref q8, .ref q9, .ref q10, u2])), (q8, .inl (ci, 7, .inl zp1_roll_halves)), (q9, .inl (ci, 7, .inl zp1_roll_likings)), (q10, .inl (ci, 7, .inl zp1_roll_fears)), (q11, .inr (9, [.int zp1_questions_size, .ref q12, .ref q13, .ref q14])), (q12, .inl (ci, 5, .inl zp1_questions_lefts)), (q13, .inl (ci, 5, .inl zp1_questions_rights)), (q14, .inl (ci, 5, .inl zp1_questions_numbers))] := gD_re hD rfl
        clear hP9 hk9
        refine lv_istore (lv' := [(4, .int r_23), (0, .ref q0), (1, .ref q6), (2, .int r_1), (3, .int x3_13)]) hx hb dX3_find_40 hl (by decide) rfl (fun ls hl => ?_)
        refine lv_iload hx hb dX3_find_42 (lv_at hl 0 rfl) ?_
        refine lv_aload_n hx hb dX3_find_44 rfl (lv_at hl 1 rfl) ?_
        refine va_get (D := D) (ci := 2) (v := .int zmost_14) (C := RX3) (T := TX3) (N := 7) hx hb ht in_X3 hown hK.1 hP 0 rfl rfl 1 (by decide) (ht _ mF_X3_36) (fun _ h9 => h9) rfl dX3_find_45 ?_
        refine jn_walk hw (fun J75 => ∀ (zmost_30 : Int32) (zorder_31 : Nat → Int32) (H : Heap) (locs : List Loc) (ls : Array Slot), J75 zmost_30 zorder_31 → va_P D vwCl [(q0, .inr (2, [.int zknown, .int zmost_30, .ref q1, .ref q2, .ref q4, .ref q5, .int zfull_24])), (q1, .inl (ci, 7, .inl zorder_31)), (q2, .inr (5, [.int zorders_size_2, .ref q3])), (q3, .inl (ci, 7, .inl zorders_order_17)), (q4, .inr (0, [.int zballot_left_25, .int zballot_right_26, .int zballot_leftDogs_27, .int zballot_rightDogs_28])), (q5, .inl (ci, 7, .inl zmeals_29)), (q6, .inr (7, [.ref q7, u0, .ref q11, .int zp1_hunger])), (q7, .inr (8, [.int zp1_roll_dogs, u1, .ref q8, .ref q9, .ref q10, u2])), (q8, .inl (ci, 7, .inl zp1_roll_halves)), (q9, .inl (ci, 7, .inl zp1_roll_likings)), (q10, .inl (ci, 7, .inl zp1_roll_fears)), (q11, .inr (9, [.int zp1_questions_size, .ref q12, .ref q13, .ref q14])), (q12, .inl (ci, 5, .inl zp1_questions_lefts)), (q13, .inl (ci, 5, .inl zp1_questions_rights)), (q14, .inl (ci, 5, .inl zp1_questions_numbers))] H → va_S A s.heap H locs → lv_has ls 5 [(0, .ref q0), (1, .ref q6), (2, .int r_1), (3, .int x3_13)] → W p l e R s m args below meth c H locs 0 0 Q (F0 m 75 ls [])) ?_ ?_
        · intro zmost_30 zorder_31 H locs ls hw hP hS hl
          have hD : va_D A [(q0, .inr (2, [.int zknown, .int zmost_30, .ref q1, .ref q2, .ref q4, .ref q5, .int zfull_24])), (q1, .inl (ci, 7, .inl zorder_31)), (q2, .inr (5, [.int zorders_size_2, .ref q3])), (q3, .inl (ci, 7, .inl zorders_order_17)), (q4, .inr (0, [.int zballot_left_25, .int zballot_right_26, .int zballot_leftDogs_27, .int zballot_rightDogs_28])), (q5, .inl (ci, 7, .inl zmeals_29)), (q6, .inr (7, [.ref q7, u0, .ref q11, .int zp1_hunger])), (q7, .inr (8, [.int zp1_roll_dogs, u1, .ref q8, .ref q9, .ref q10, u2])), (q8, .inl (ci, 7, .inl zp1_roll_halves)), (q9, .inl (ci, 7, .inl zp1_roll_likings)), (q10, .inl (ci, 7, .inl zp1_roll_fears)), (q11, .inr (9, [.int zp1_questions_size, .ref q12, .ref q13, .ref q14])), (q12, .inl (ci, 5, .inl zp1_questions_lefts)), (q13, .inl (ci, 5, .inl zp1_questions_rights)), (q14, .inl (ci, 5, .inl zp1_questions_numbers))] := gD_re hD rfl
          refine lv_aload_n hx hb dX3_find_75 rfl (lv_at hl 0 rfl) ?_
          refine va_get (D := D) (ci := 2) (v := .ref q2) (C := RX3) (T := TX3) (N := 7) hx hb ht in_X3 hown hK.1 hP 0 rfl rfl 3 (by decide) (ht _ mF_X3_18) (fun _ h9 => h9) rfl dX3_find_76 ?_
          refine gcallv (va_runV (As := []) (rest := []) ⟨hx, hb, hml, hown, ht⟩ (c_X6_advance l D ci cz tr q2 q3 H.size zorders_size_2 zorders_order_17 _ hw) (cwV 0 ht (gi_V mM_X3_66 mI_X6_advance mS_X6_advance mN_X6 mC_X6_advance) rfl rfl rfl (by decide +kernel) ⟨Nat.le_trans (Nat.le_of_ble_eq_true rfl) hfr, Nat.le_trans (Nat.le_of_ble_eq_true rfl) hlc⟩) (gpreV (wc := [(q2, .inr (5, [.int zorders_size_2, .ref q3])), (q3, .inl (ci, 7, .inl zorders_order_17))]) (k := 5) (q0 := 2) hK hZ hP hD hS hA [2, 3] rfl rfl rfl rfl rfl) rfl rfl hl.1 rfl (lv_room (Nat.le_of_ble_eq_true rfl)) dX3_find_79 ⟨Nat.zero_le _, Nat.zero_le _⟩) hD hS hA [2, 3] rfl (fun w9 H locs hw hP9 hk9 hS => ?_)
          obtain ⟨zorders_order_33, rfl, hw⟩ := hw
          have hP : va_P D vwCl [(q0, .inr (2, [.int zknown, .int zmost_30, .ref q1, .ref q2, .ref q4, .ref q5, .int zfull_24])), (q1, .inl (ci, 7, .inl zorder_31)), (q2, .inr (5, [.int zorders_size_2, .ref q3])), (q3, .inl (ci, 7, .inl zorders_order_33)), (q4, .inr (0, [.int zballot_left_25, .int zballot_right_26, .int zballot_leftDogs_27, .int zballot_rightDogs_28])), (q5, .inl (ci, 7, .inl zmeals_29)), (q6, .inr (7, [.ref q7, u0, .ref q11, .int zp1_hunger])), (q7, .inr (8, [.int zp1_roll_dogs, u1, .ref q8, .ref q9, .ref q10, u2])), (q8, .inl (ci, 7, .inl zp1_roll_halves)), (q9, .inl (ci, 7, .inl zp1_roll_likings)), (q10, .inl (ci, 7, .inl zp1_roll_fears)), (q11, .inr (9, [.int zp1_questions_size, .ref q12, .ref q13, .ref q14])), (q12, .inl (ci, 5, .inl zp1_questions_lefts)), (q13, .inl (ci, 5, .inl zp1_questions_rights)), (q14, .inl (ci, 5, .inl zp1_questions_numbers))] H := gjoin3 hP hD [2, 3] hP9 hk9 rfl rfl [none, none, some 0, some 1, none, none, none, none, none, none, none, none, none, none, none] rfl rfl
          have hD : va_D A [(q0, .inr (2, [.int zknown, .int zmost_30, .ref q1, .ref q2, .ref q4, .ref q5, .int zfull_24])), (q1, .inl (ci, 7, .inl zorder_31)), (q2, .inr (5, [.int zorders_size_2, .ref q3])), (q3, .inl (ci, 7, .inl zorders_order_33)), (q4, .inr (0, [.int zballot_left_25, .int zballot_right_26, .int zballot_leftDogs_27, .int zballot_rightDogs_28])), (q5, .inl (ci, 7, .inl zmeals_29)), (q6, .inr (7, [.ref q7, u0, .ref q11, .int zp1_hunger])), (q7, .inr (8, [.int zp1_roll_dogs, u1, .ref q8, .ref q9, .ref q10, u2])), (q8, .inl (ci, 7, .inl zp1_roll_halves)), (q9, .inl (ci, 7, .inl zp1_roll_likings)), (q10, .inl (ci, 7, .inl zp1_roll_fears)), (q11, .inr (9, [.int zp1_questions_size, .ref q12, .ref q13, .ref q14])), (q12, .inl (ci, 5, .inl zp1_questions_lefts)), (q13, .inl (ci, 5, .inl zp1_questions_rights)), (q14, .inl (ci, 5, .inl zp1_questions_numbers))] := gD_re hD rfl
          clear hP9 hk9
          refine lv_iinc (v := (x3_13 + (1 : Int32))) (lv' := [(3, .int (x3_13 + (1 : Int32))), (0, .ref q0), (1, .ref q6), (2, .int r_1)]) hx hb dX3_find_82 hl (k := 3) rfl rfl (by decide) rfl (fun ls hl => ?_)
          refine lv_goto (tgt := 30) hx hb dX3_find_85 (by decide) ?_
          exact hG30 _ _ _ _ _ _ _ _ _ _ H locs ls hw hP hS (lv_sub hl [1, 2, 3, 0] rfl)
        · intro J75 hJ75 hw
          refine lv_icmp_le (tgt := 75) hx hb dX3_find_48 (by decide) (fun hc => ?_) (fun hc => ?_)
          · have hw := hw.1 hc
            exact hJ75 _ _ H locs ls hw hP hS (lv_sub hl [1, 2, 3, 4] rfl)
          · have hw := hw.2 hc
            refine lv_aload_n hx hb dX3_find_51 rfl (lv_at hl 1 rfl) ?_
            refine lv_iload hx hb dX3_find_52 (lv_at hl 0 rfl) ?_
            refine va_put (D := D) (ci := 2) (v := .int r_23) (ty := .int) (C := RX3) (T := TX3) (N := 7) hx hb ht in_X3 tyX3 tyX3_ok nmX3 hown hK.1 hP hD hS 0 rfl rfl 1 (by decide) (ht _ mF_X3_36) (fun _ h9 => h9) rfl (by decide +kernel) rfl rfl (Nat.le_of_ble_eq_true rfl) dX3_find_54 (fun H locs hP hD hS => ?_)
            have hP : va_P D vwCl [(q0, .inr (2, [.int zknown, .int r_23, .ref q1, .ref q2, .ref q4, .ref q5, .int zfull_24])), (q1, .inl (ci, 7, .inl zorder_16)), (q2, .inr (5, [.int zorders_size_2, .ref q3])), (q3, .inl (ci, 7, .inl zorders_order_17)), (q4, .inr (0, [.int zballot_left_25, .int zballot_right_26, .int zballot_leftDogs_27, .int zballot_rightDogs_28])), (q5, .inl (ci, 7, .inl zmeals_29)), (q6, .inr (7, [.ref q7, u0, .ref q11, .int zp1_hunger])), (q7, .inr (8, [.int zp1_roll_dogs, u1, .ref q8, .ref q9, .ref q10, u2])), (q8, .inl (ci, 7, .inl zp1_roll_halves)), (q9, .inl (ci, 7, .inl zp1_roll_likings)), (q10, .inl (ci, 7, .inl zp1_roll_fears)), (q11, .inr (9, [.int zp1_questions_size, .ref q12, .ref q13, .ref q14])), (q12, .inl (ci, 5, .inl zp1_questions_lefts)), (q13, .inl (ci, 5, .inl zp1_questions_rights)), (q14, .inl (ci, 5, .inl zp1_questions_numbers))] H := hP
            have hD : va_D A [(q0, .inr (2, [.int zknown, .int r_23, .ref q1, .ref q2, .ref q4, .ref q5, .int zfull_24])), (q1, .inl (ci, 7, .inl zorder_16)), (q2, .inr (5, [.int zorders_size_2, .ref q3])), (q3, .inl (ci, 7, .inl zorders_order_17)), (q4, .inr (0, [.int zballot_left_25, .int zballot_right_26, .int zballot_leftDogs_27, .int zballot_rightDogs_28])), (q5, .inl (ci, 7, .inl zmeals_29)), (q6, .inr (7, [.ref q7, u0, .ref q11, .int zp1_hunger])), (q7, .inr (8, [.int zp1_roll_dogs, u1, .ref q8, .ref q9, .ref q10, u2])), (q8, .inl (ci, 7, .inl zp1_roll_halves)), (q9, .inl (ci, 7, .inl zp1_roll_likings)), (q10, .inl (ci, 7, .inl zp1_roll_fears)), (q11, .inr (9, [.int zp1_questions_size, .ref q12, .ref q13, .ref q14])), (q12, .inl (ci, 5, .inl zp1_questions_lefts)), (q13, .inl (ci, 5, .inl zp1_questions_rights)), (q14, .inl (ci, 5, .inl zp1_questions_numbers))] := hD
            refine lv_aload_n hx hb dX3_find_57 rfl (lv_at hl 1 rfl) ?_
            refine va_get (D := D) (ci := 2) (v := .ref q2) (C := RX3) (T := TX3) (N := 7) hx hb ht in_X3 hown hK.1 hP 0 rfl rfl 3 (by decide) (ht _ mF_X3_18) (fun _ h9 => h9) rfl dX3_find_58 ?_
            refine va_get (D := D) (ci := 5) (v := .ref q3) (C := RX6) (T := TX6) (N := 2) hx hb ht in_X6 hown hK.1 hP 2 rfl rfl 1 (by decide) (ht _ mF_X3_59) (fun _ h9 => h9) rfl dX3_find_61 ?_
            refine lv_iconst (v := (0 : Int32)) hx hb dX3_find_64 (by decide) ?_
            refine lv_aload_n hx hb dX3_find_65 rfl (lv_at hl 1 rfl) ?_
            refine va_get (D := D) (ci := 2) (v := .ref q1) (C := RX3) (T := TX3) (N := 7) hx hb ht in_X3 hown hK.1 hP 0 rfl rfl 2 (by decide) (ht _ mF_X3_9) (fun _ h9 => h9) rfl dX3_find_66 ?_
            refine lv_iconst (v := (0 : Int32)) hx hb dX3_find_69 (by decide) ?_
            refine lv_bipush (v := (7 : Int32)) hx hb dX3_find_70 (by decide) ?_
            refine va_copyi (D := D) (ty := .int) hx hb (hml.trans hl.1.symm) hown (ht _ mM_X3_60) (ht _ mV_arraycopy) (ht _ mT_arraycopy) (ht _ mN_J10) hK.1 hP hD hS 3 1 0 0 rfl rfl rfl rfl rfl (by decide) (by decide) (by decide) (by decide) (by decide) (fun _ _ => rfl) (Nat.le_trans (Nat.le_of_ble_eq_true rfl) hfr) (Nat.le_trans (Nat.le_of_ble_eq_true rfl) hlc) dX3_find_72 (fun H locs hP hD hS => ?_)
            have hP : va_P D vwCl [(q0, .inr (2, [.int zknown, .int r_23, .ref q1, .ref q2, .ref q4, .ref q5, .int zfull_24])), (q1, .inl (ci, 7, .inl (va_cpy zorders_order_17 zorder_16 (0 : Int32).toNatClampNeg (0 : Int32).toNatClampNeg (7 : Int32).toNatClampNeg))), (q2, .inr (5, [.int zorders_size_2, .ref q3])), (q3, .inl (ci, 7, .inl zorders_order_17)), (q4, .inr (0, [.int zballot_left_25, .int zballot_right_26, .int zballot_leftDogs_27, .int zballot_rightDogs_28])), (q5, .inl (ci, 7, .inl zmeals_29)), (q6, .inr (7, [.ref q7, u0, .ref q11, .int zp1_hunger])), (q7, .inr (8, [.int zp1_roll_dogs, u1, .ref q8, .ref q9, .ref q10, u2])), (q8, .inl (ci, 7, .inl zp1_roll_halves)), (q9, .inl (ci, 7, .inl zp1_roll_likings)), (q10, .inl (ci, 7, .inl zp1_roll_fears)), (q11, .inr (9, [.int zp1_questions_size, .ref q12, .ref q13, .ref q14])), (q12, .inl (ci, 5, .inl zp1_questions_lefts)), (q13, .inl (ci, 5, .inl zp1_questions_rights)), (q14, .inl (ci, 5, .inl zp1_questions_numbers))] H := hP
            have hD : va_D A [(q0, .inr (2, [.int zknown, .int r_23, .ref q1, .ref q2, .ref q4, .ref q5, .int zfull_24])), (q1, .inl (ci, 7, .inl (va_cpy zorders_order_17 zorder_16 (0 : Int32).toNatClampNeg (0 : Int32).toNatClampNeg (7 : Int32).toNatClampNeg))), (q2, .inr (5, [.int zorders_size_2, .ref q3])), (q3, .inl (ci, 7, .inl zorders_order_17)), (q4, .inr (0, [.int zballot_left_25, .int zballot_right_26, .int zballot_leftDogs_27, .int zballot_rightDogs_28])), (q5, .inl (ci, 7, .inl zmeals_29)), (q6, .inr (7, [.ref q7, u0, .ref q11, .int zp1_hunger])), (q7, .inr (8, [.int zp1_roll_dogs, u1, .ref q8, .ref q9, .ref q10, u2])), (q8, .inl (ci, 7, .inl zp1_roll_halves)), (q9, .inl (ci, 7, .inl zp1_roll_likings)), (q10, .inl (ci, 7, .inl zp1_roll_fears)), (q11, .inr (9, [.int zp1_questions_size, .ref q12, .ref q13, .ref q14])), (q12, .inl (ci, 5, .inl zp1_questions_lefts)), (q13, .inl (ci, 5, .inl zp1_questions_rights)), (q14, .inl (ci, 5, .inl zp1_questions_numbers))] := hD
            exact hJ75 _ _ H locs ls hw hP hS (lv_sub hl [1, 2, 3, 4] rfl)
  · have hw := hw.2 hc
    exact hret _ H locs _ _ ⟨_, _, _, _, _, _, _, _, _, _, _, rfl, hw⟩ hP hS dX3_find_7
