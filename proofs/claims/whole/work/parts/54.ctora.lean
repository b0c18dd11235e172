set_option maxHeartbeats 4000000 in
set_option maxRecDepth 100000 in
theorem c_X9_init (l : Launch) (D : va_G) (ci cz : ClassId) (tr : List (ClassId × FieldType)) (q0 : Nat) (sz : Nat) : gMI l yX9_init cX9_init 1 1 20 4 28 D ci cz tr [(q0, .inr (8, [.int (0 : Int32), .int (0 : Int32), .null, .null, .null, .null]))] sz [.ref q0] (gQI D [(q0, .inr (8, [.int (0 : Int32), .int (0 : Int32), .null, .null, .null, .null]))] sz (fun w _ => ∃ q1 q2 q3 q4 : Nat, w = [(q0, .inr (8, [.int (0 : Int32), .int (0 : Int32), .ref q1, .ref q2, .ref q3, .ref q4])), (q1, .inl (ci, 7, .inl (fun _ => 0))), (q2, .inl (ci, 7, .inl (fun _ => 0))), (q3, .inl (ci, 7, .inl (fun _ => 0))), (q4, .inl (ci, 7, .inl (fun _ => 0)))])) := by
  refine gmet_I RX9 (by decide +kernel) rfl rfl (Nat.le_of_ble_eq_true rfl) ?_
  intro p e s m args below meth c A R Q C hin hfr hlc hce hsl hP hD hret ls hl
  obtain ⟨hx, hb, hml, hown, ht, hK, hZ, hA⟩ := C
  have hl : lv_has ls 1 [(0, .ref q0)] := hl
  refine g_in (fun H locs => W p l e R s m args below meth c H locs 0 0 Q (F0 m 0 ls [])) (fun H locs hS0 hP => ?_) hP (va_S.rf (A := A) (H0 := s.heap))
  have hS : va_S A s.heap H locs := hS0
  clear hS0
  refine lv_aload_n hx hb dX9_init_0 rfl (lv_at hl 0 rfl) ?_
  refine W.objInit hx hb hown (ht _ mM_X9_3) (ht _ mI_objinit) (ht _ mC_objinit) rfl (hl.1.trans hml.symm) rfl dX9_init_1 (Nat.le_trans (Nat.le_of_ble_eq_true rfl) hfr) (Nat.le_trans (Nat.le_of_ble_eq_true rfl) hlc) ?_
  refine W.eq (g2 := F0 m 4 ls []) rfl ?_
  refine lv_aload_n hx hb dX9_init_4 rfl (lv_at hl 0 rfl) ?_
  refine lv_bipush (v := (7 : Int32)) hx hb dX9_init_5 (by decide) ?_
  refine g_newI hx hb (ht _ mA_int) hK hP hD hS hA (N := 7) (by decide) (by decide) (by decide) (Nat.le_trans (Nat.le_of_ble_eq_true rfl) hce) (Nat.le_trans (Nat.le_of_ble_eq_true rfl) hsl) dX9_init_7 (fun q1 H hP hD hS => ?_)
  have hP : va_P D vwCl [(q0, .inr (8, [.int (0 : Int32), .int (0 : Int32), .null, .null, .null, .null])), (q1, .inl (ci, 7, .inl (fun _ => 0)))] H := hP
  have hD : va_D A [(q0, .inr (8, [.int (0 : Int32), .int (0 : Int32), .null, .null, .null, .null])), (q1, .inl (ci, 7, .inl (fun _ => 0)))] := hD
  refine W.widen (k := 1) (n := 7) (Nat.le_of_ble_eq_true rfl) (Nat.le_of_ble_eq_true rfl) ?_
  refine va_putF (D := D) (ci := 8) (v := .ref q1) (ty := (.array .int)) (C := RX9) (T := TX9) (N := 6) hx hb ht in_X9 tyX9 tyX9_ok nmX9 hown hK.1 hP hD hS 0 rfl rfl 2 (by decide) (ht _ mF_X9_9) (fun _ h9 => h9) rfl hin rfl (by decide +kernel) rfl rfl (Nat.le_of_ble_eq_true rfl) dX9_init_9 (fun H locs hP hD hS => ?_)
  have hP : va_P D vwCl [(q0, .inr (8, [.int (0 : Int32), .int (0 : Int32), .ref q1, .null, .null, .null])), (q1, .inl (ci, 7, .inl (fun _ => 0)))] H := hP
  have hD : va_D A [(q0, .inr (8, [.int (0 : Int32), .int (0 : Int32), .ref q1, .null, .null, .null])), (q1, .inl (ci, 7, .inl (fun _ => 0)))] := hD
  refine lv_aload_n hx hb dX9_init_12 rfl (lv_at hl 0 rfl) ?_
  refine lv_bipush (v := (7 : Int32)) hx hb dX9_init_13 (by decide) ?_
  refine g_newI hx hb (ht _ mA_int) hK hP hD hS hA (N := 7) (by decide) (by decide) (by decide) (Nat.le_trans (Nat.le_of_ble_eq_true rfl) hce) (Nat.le_trans (Nat.le_of_ble_eq_true rfl) hsl) dX9_init_15 (fun q2 H hP hD hS => ?_)
  have hP : va_P D vwCl [(q0, .inr (8, [.int (0 : Int32), .int (0 : Int32), .ref q1, .null, .null, .null])), (q1, .inl (ci, 7, .inl (fun _ => 0))), (q2, .inl (ci, 7, .inl (fun _ => 0)))] H := hP
  have hD : va_D A [(q0, .inr (8, [.int (0 : Int32), .int (0 : Int32), .ref q1, .null, .null, .null])), (q1, .inl (ci, 7, .inl (fun _ => 0))), (q2, .inl (ci, 7, .inl (fun _ => 0)))] := hD
  refine W.widen (k := 2) (n := 14) (Nat.le_of_ble_eq_true rfl) (Nat.le_of_ble_eq_true rfl) ?_
  refine va_putF (D := D) (ci := 8) (v := .ref q2) (ty := (.array .int)) (C := RX9) (T := TX9) (N := 6) hx hb ht in_X9 tyX9 tyX9_ok nmX9 hown hK.1 hP hD hS 0 rfl rfl 3 (by decide) (ht _ mF_X9_15) (fun _ h9 => h9) rfl hin rfl (by decide +kernel) rfl rfl (Nat.le_of_ble_eq_true rfl) dX9_init_17 (fun H locs hP hD hS => ?_)
  have hP : va_P D vwCl [(q0, .inr (8, [.int (0 : Int32), .int (0 : Int32), .ref q1, .ref q2, .null, .null])), (q1, .inl (ci, 7, .inl (fun _ => 0))), (q2, .inl (ci, 7, .inl (fun _ => 0)))] H := hP
  have hD : va_D A [(q0, .inr (8, [.int (0 : Int32), .int (0 : Int32), .ref q1, .ref q2, .null, .null])), (q1, .inl (ci, 7, .inl (fun _ => 0))), (q2, .inl (ci, 7, .inl (fun _ => 0)))] := hD
  refine lv_aload_n hx hb dX9_init_20 rfl (lv_at hl 0 rfl) ?_
  refine lv_bipush (v := (7 : Int32)) hx hb dX9_init_21 (by decide) ?_
  refine g_newI hx hb (ht _ mA_int) hK hP hD hS hA (N := 7) (by decide) (by decide) (by decide) (Nat.le_trans (Nat.le_of_ble_eq_true rfl) hce) (Nat.le_trans (Nat.le_of_ble_eq_true rfl) hsl) dX9_init_23 (fun q3 H hP hD hS => ?_)
  have hP : va_P D vwCl [(q0, .inr (8, [.int (0 : Int32), .int (0 : Int32), .ref q1, .ref q2, .null, .null])), (q1, .inl (ci, 7, .inl (fun _ => 0))), (q2, .inl (ci, 7, .inl (fun _ => 0))), (q3, .inl (ci, 7, .inl (fun _ => 0)))] H := hP
  have hD : va_D A [(q0, .inr (8, [.int (0 : Int32), .int (0 : Int32), .ref q1, .ref q2, .null, .null])), (q1, .inl (ci, 7, .inl (fun _ => 0))), (q2, .inl (ci, 7, .inl (fun _ => 0))), (q3, .inl (ci, 7, .inl (fun _ => 0)))] := hD
  refine W.widen (k := 3) (n := 21) (Nat.le_of_ble_eq_true rfl) (Nat.le_of_ble_eq_true rfl) ?_
  refine va_putF (D := D) (ci := 8) (v := .ref q3) (ty := (.array .int)) (C := RX9) (T := TX9) (N := 6) hx hb ht in_X9 tyX9 tyX9_ok nmX9 hown hK.1 hP hD hS 0 rfl rfl 4 (by decide) (ht _ mF_X9_18) (fun _ h9 => h9) rfl hin rfl (by decide +kernel) rfl rfl (Nat.le_of_ble_eq_true rfl) dX9_init_25 (fun H locs hP hD hS => ?_)
  have hP : va_P D vwCl [(q0, .inr (8, [.int (0 : Int32), .int (0 : Int32), .ref q1, .ref q2, .ref q3, .null])), (q1, .inl (ci, 7, .inl (fun _ => 0))), (q2, .inl (ci, 7, .inl (fun _ => 0))), (q3, .inl (ci, 7, .inl (fun _ => 0)))] H := hP
  have hD : va_D A [(q0, .inr (8, [.int (0 : Int32), .int (0 : Int32), .ref q1, .ref q2, .ref q3, .null])), (q1, .inl (ci, 7, .inl (fun _ => 0))), (q2, .inl (ci, 7, .inl (fun _ => 0))), (q3, .inl (ci, 7, .inl (fun _ => 0)))] := hD
  refine lv_aload_n hx hb dX9_init_28 rfl (lv_at hl 0 rfl) ?_
  refine lv_bipush (v := (7 : Int32)) hx hb dX9_init_29 (by decide) ?_
  refine g_newI hx hb (ht _ mA_int) hK hP hD hS hA (N := 7) (by decide) (by decide) (by decide) (Nat.le_trans (Nat.le_of_ble_eq_true rfl) hce) (Nat.le_trans (Nat.le_of_ble_eq_true rfl) hsl) dX9_init_31 (fun q4 H hP hD hS => ?_)
  have hP : va_P D vwCl [(q0, .inr (8, [.int (0 : Int32), .int (0 : Int32), .ref q1, .ref q2, .ref q3, .null])), (q1, .inl (ci, 7, .inl (fun _ => 0))), (q2, .inl (ci, 7, .inl (fun _ => 0))), (q3, .inl (ci, 7, .inl (fun _ => 0))), (q4, .inl (ci, 7, .inl (fun _ => 0)))] H := hP
  have hD : va_D A [(q0, .inr (8, [.int (0 : Int32), .int (0 : Int32), .ref q1, .ref q2, .ref q3, .null])), (q1, .inl (ci, 7, .inl (fun _ => 0))), (q2, .inl (ci, 7, .inl (fun _ => 0))), (q3, .inl (ci, 7, .inl (fun _ => 0))), (q4, .inl (ci, 7, .inl (fun _ => 0)))] := hD
  refine W.widen (k := 4) (n := 28) (Nat.le_of_ble_eq_true rfl) (Nat.le_of_ble_eq_true rfl) ?_
  refine va_putF (D := D) (ci := 8) (v := .ref q4) (ty := (.array .int)) (C := RX9) (T := TX9) (N := 6) hx hb ht in_X9 tyX9 tyX9_ok nmX9 hown hK.1 hP hD hS 0 rfl rfl 5 (by decide) (ht _ mF_X9_21) (fun _ h9 => h9) rfl hin rfl (by decide +kernel) rfl rfl (Nat.le_of_ble_eq_true rfl) dX9_init_33 (fun H locs hP hD hS => ?_)
  have hP : va_P D vwCl [(q0, .inr (8, [.int (0 : Int32), .int (0 : Int32), .ref q1, .ref q2, .ref q3, .ref q4])), (q1, .inl (ci, 7, .inl (fun _ => 0))), (q2, .inl (ci, 7, .inl (fun _ => 0))), (q3, .inl (ci, 7, .inl (fun _ => 0))), (q4, .inl (ci, 7, .inl (fun _ => 0)))] H := hP
  have hD : va_D A [(q0, .inr (8, [.int (0 : Int32), .int (0 : Int32), .ref q1, .ref q2, .ref q3, .ref q4])), (q1, .inl (ci, 7, .inl (fun _ => 0))), (q2, .inl (ci, 7, .inl (fun _ => 0))), (q3, .inl (ci, 7, .inl (fun _ => 0))), (q4, .inl (ci, 7, .inl (fun _ => 0)))] := hD
  exact hret _ H locs _ _ (fun _ _ => ⟨_, _, _, _, rfl⟩) hP hD hS dX9_init_36

set_option maxHeartbeats 4000000 in
set_option maxRecDepth 100000 in
theorem c_X7_init (l : Launch) (D : va_G) (ci cz : ClassId) (tr : List (ClassId × FieldType)) (q0 : Nat) (sz : Nat) : gMI l yX7_init cX7_init 1 2 40 6 94 D ci cz tr [(q0, .inr (6, [.null, .int (0 : Int32), .null, .int (0 : Int32), .int (0 : Int32), .int (0 : Int32)]))] sz [.ref q0] (gQI D [(q0, .inr (6, [.null, .int (0 : Int32), .null, .int (0 : Int32), .int (0 : Int32), .int (0 : Int32)]))] sz (fun w _ => ∃ q1 q2 q3 q4 q5 q6 : Nat, w = [(q0, .inr (6, [.ref q1, .int (0 : Int32), .ref q2, .int (0 : Int32), .int (0 : Int32), .int (0 : Int32)])), (q1, .inl (ci, 60, .inl (fun _ => 0))), (q2, .inr (8, [.int (0 : Int32), .int (0 : Int32), .ref q3, .ref q4, .ref q5, .ref q6])), (q3, .inl (ci, 7, .inl (fun _ => 0))), (q4, .inl (ci, 7, .inl (fun _ => 0))), (q5, .inl (ci, 7, .inl (fun _ => 0))), (q6, .inl (ci, 7, .inl (fun _ => 0)))])) := by
  refine gmet_I RX7 (by decide +kernel) rfl rfl (Nat.le_of_ble_eq_true rfl) ?_
  intro p e s m args below meth c A R Q C hin hfr hlc hce hsl hP hD hret ls hl
  obtain ⟨hx, hb, hml, hown, ht, hK, hZ, hA⟩ := C
  have hl : lv_has ls 1 [(0, .ref q0)] := hl
  refine g_in (fun H locs => W p l e R s m args below meth c H locs 0 0 Q (F0 m 0 ls [])) (fun H locs hS0 hP => ?_) hP (va_S.rf (A := A) (H0 := s.heap))
  have hS : va_S A s.heap H locs := hS0
  clear hS0
  refine lv_aload_n hx hb dX7_init_0 rfl (lv_at hl 0 rfl) ?_
  refine W.objInit hx hb hown (ht _ mM_X7_3) (ht _ mI_objinit) (ht _ mC_objinit) rfl (hl.1.trans hml.symm) rfl dX7_init_1 (Nat.le_trans (Nat.le_of_ble_eq_true rfl) hfr) (Nat.le_trans (Nat.le_of_ble_eq_true rfl) hlc) ?_
  refine W.eq (g2 := F0 m 4 ls []) rfl ?_
  refine lv_aload_n hx hb dX7_init_4 rfl (lv_at hl 0 rfl) ?_
  refine lv_bipush (v := (60 : Int32)) hx hb dX7_init_5 (by decide) ?_
  refine g_newI hx hb (ht _ mA_int) hK hP hD hS hA (N := 60) (by decide) (by decide) (by decide) (Nat.le_trans (Nat.le_of_ble_eq_true rfl) hce) (Nat.le_trans (Nat.le_of_ble_eq_true rfl) hsl) dX7_init_7 (fun q1 H hP hD hS => ?_)
  have hP : va_P D vwCl [(q0, .inr (6, [.null, .int (0 : Int32), .null, .int (0 : Int32), .int (0 : Int32), .int (0 : Int32)])), (q1, .inl (ci, 60, .inl (fun _ => 0)))] H := hP
  have hD : va_D A [(q0, .inr (6, [.null, .int (0 : Int32), .null, .int (0 : Int32), .int (0 : Int32), .int (0 : Int32)])), (q1, .inl (ci, 60, .inl (fun _ => 0)))] := hD
  refine W.widen (k := 1) (n := 60) (Nat.le_of_ble_eq_true rfl) (Nat.le_of_ble_eq_true rfl) ?_
  refine va_putF (D := D) (ci := 6) (v := .ref q1) (ty := (.array .int)) (C := RX7) (T := TX7) (N := 6) hx hb ht in_X7 tyX7 tyX7_ok nmX7 hown hK.1 hP hD hS 0 rfl rfl 0 (by decide) (ht _ mF_X7_9) (fun _ h9 => h9) rfl hin rfl (by decide +kernel) rfl rfl (Nat.le_of_ble_eq_true rfl) dX7_init_9 (fun H locs hP hD hS => ?_)
  have hP : va_P D vwCl [(q0, .inr (6, [.ref q1, .int (0 : Int32), .null, .int (0 : Int32), .int (0 : Int32), .int (0 : Int32)])), (q1, .inl (ci, 60, .inl (fun _ => 0)))] H := hP
  have hD : va_D A [(q0, .inr (6, [.ref q1, .int (0 : Int32), .null, .int (0 : Int32), .int (0 : Int32), .int (0 : Int32)])), (q1, .inl (ci, 60, .inl (fun _ => 0)))] := hD
  refine lv_aload_n hx hb dX7_init_12 rfl (lv_at hl 0 rfl) ?_
  refine va_new (D := D) (ci := 8) (fs := [.int (0 : Int32), .int (0 : Int32), .null, .null, .null, .null]) (C := RX9) (T := TX9) (N := 6) hx hb ht in_X9 tyX9 tyX9_ok hown (ht _ mK_X7_15) (ht _ mB_X9) (ht _ mN_X9) hK.1 hP hD hS hA rfl (fun j hj => by rcases (show j = 0 ∨ j = 1 ∨ j = 2 ∨ j = 3 ∨ j = 4 ∨ j = 5 by omega) with rfl | rfl | rfl | rfl | rfl | rfl <;> rfl) (Nat.le_trans (Nat.le_of_ble_eq_true rfl) hce) (Nat.le_trans (Nat.le_of_ble_eq_true rfl) hsl) dX7_init_13 (fun q2 H hP hD hS => ?_)
  have hP : va_P D vwCl [(q0, .inr (6, [.ref q1, .int (0 : Int32), .null, .int (0 : Int32), .int (0 : Int32), .int (0 : Int32)])), (q1, .inl (ci, 60, .inl (fun _ => 0))), (q2, .inr (8, [.int (0 : Int32), .int (0 : Int32), .null, .null, .null, .null]))] H := hP
  have hD : va_D A [(q0, .inr (6, [.ref q1, .int (0 : Int32), .null, .int (0 : Int32), .int (0 : Int32), .int (0 : Int32)])), (q1, .inl (ci, 60, .inl (fun _ => 0))), (q2, .inr (8, [.int (0 : Int32), .int (0 : Int32), .null, .null, .null, .null]))] := hD
  refine W.widen (k := 2) (n := 66) (Nat.le_of_ble_eq_true rfl) (Nat.le_of_ble_eq_true rfl) ?_
  refine lv_dup hx hb dX7_init_16 rfl ?_
  refine gcallI (wr := [(q0, .inr (6, [.ref q1, .int (0 : Int32), .null, .int (0 : Int32), .int (0 : Int32), .int (0 : Int32)])), (q1, .inl (ci, 60, .inl (fun _ => 0)))]) (va_runIN (host := "DogVotes") (As := []) (rest := [.ref q2, .ref q0]) ⟨hx, hb, hml, hown, ht⟩ (c_X9_init l D ci cz tr q2 H.size) ⟨va_cnB 0 ht (gi_code mC_X9_init) rfl rfl rfl (hK.2.1 _ _ _ _ mQ_X7_17) (ht _ mN_X9) (by decide +kernel) ⟨Nat.le_trans (Nat.le_of_ble_eq_true rfl) hfr, Nat.le_trans (Nat.le_of_ble_eq_true rfl) hlc⟩, rfl, ht _ mI_X9_init⟩ (gpre (av := .ref q2 :: []) (wc := [(q2, .inr (8, [.int (0 : Int32), .int (0 : Int32), .null, .null, .null, .null]))]) hK hZ hP hD hS hA [2] rfl rfl) rfl rfl hl.1 rfl (lv_room (Nat.le_of_ble_eq_true rfl)) dX7_init_17 ⟨(Nat.le_trans (Nat.le_of_ble_eq_true rfl) hce), (Nat.le_trans (Nat.le_of_ble_eq_true rfl) hsl)⟩) hP hD hS hA [2] [0, 1] rfl rfl (by decide) (by decide) (fun w9 H locs hw9 hP hD hS => ?_)
  obtain ⟨t9, hvm9, q3, q4, q5, q6, rfl⟩ := hw9
  have hP : va_P D vwCl [(q0, .inr (6, [.ref q1, .int (0 : Int32), .null, .int (0 : Int32), .int (0 : Int32), .int (0 : Int32)])), (q1, .inl (ci, 60, .inl (fun _ => 0))), (q2, .inr (8, [.int (0 : Int32), .int (0 : Int32), .ref q3, .ref q4, .ref q5, .ref q6])), (q3, .inl (ci, 7, .inl (fun _ => 0))), (q4, .inl (ci, 7, .inl (fun _ => 0))), (q5, .inl (ci, 7, .inl (fun _ => 0))), (q6, .inl (ci, 7, .inl (fun _ => 0)))] H := hP
  have hD : va_D A [(q0, .inr (6, [.ref q1, .int (0 : Int32), .null, .int (0 : Int32), .int (0 : Int32), .int (0 : Int32)])), (q1, .inl (ci, 60, .inl (fun _ => 0))), (q2, .inr (8, [.int (0 : Int32), .int (0 : Int32), .ref q3, .ref q4, .ref q5, .ref q6])), (q3, .inl (ci, 7, .inl (fun _ => 0))), (q4, .inl (ci, 7, .inl (fun _ => 0))), (q5, .inl (ci, 7, .inl (fun _ => 0))), (q6, .inl (ci, 7, .inl (fun _ => 0)))] := hD
  refine W.widen (k := 6) (n := 94) (Nat.le_of_ble_eq_true rfl) (Nat.le_of_ble_eq_true rfl) ?_
  refine va_putF (D := D) (ci := 6) (v := .ref q2) (ty := (.object "DogVotes$Roll")) (C := RX7) (T := TX7) (N := 6) hx hb ht in_X7 tyX7 tyX7_ok nmX7 hown hK.1 hP hD hS 0 rfl rfl 2 (by decide) (ht _ mF_X7_18) (fun _ h9 => h9) rfl hin rfl (by decide +kernel) rfl rfl (Nat.le_of_ble_eq_true rfl) dX7_init_20 (fun H locs hP hD hS => ?_)
  have hP : va_P D vwCl [(q0, .inr (6, [.ref q1, .int (0 : Int32), .ref q2, .int (0 : Int32), .int (0 : Int32), .int (0 : Int32)])), (q1, .inl (ci, 60, .inl (fun _ => 0))), (q2, .inr (8, [.int (0 : Int32), .int (0 : Int32), .ref q3, .ref q4, .ref q5, .ref q6])), (q3, .inl (ci, 7, .inl (fun _ => 0))), (q4, .inl (ci, 7, .inl (fun _ => 0))), (q5, .inl (ci, 7, .inl (fun _ => 0))), (q6, .inl (ci, 7, .inl (fun _ => 0)))] H := hP
  have hD : va_D A [(q0, .inr (6, [.ref q1, .int (0 : Int32), .ref q2, .int (0 : Int32), .int (0 : Int32), .int (0 : Int32)])), (q1, .inl (ci, 60, .inl (fun _ => 0))), (q2, .inr (8, [.int (0 : Int32), .int (0 : Int32), .ref q3, .ref q4, .ref q5, .ref q6])), (q3, .inl (ci, 7, .inl (fun _ => 0))), (q4, .inl (ci, 7, .inl (fun _ => 0))), (q5, .inl (ci, 7, .inl (fun _ => 0))), (q6, .inl (ci, 7, .inl (fun _ => 0)))] := hD
  exact hret _ H locs _ _ (fun _ _ => ⟨_, _, _, _, _, _, rfl⟩) hP hD hS dX7_init_23

set_option maxHeartbeats 4000000 in
set_option maxRecDepth 100000 in
theorem c_X10_init6 (l : Launch) (D : va_G) (ci cz : ClassId) (tr : List (ClassId × FieldType)) (q0 : Nat) (sz : Nat) : gMI l yX10_init cX10_init 3 1 21 3 18 D ci cz tr [(q0, .inr (9, [.int (0 : Int32), .null, .null, .null]))] sz [.ref q0, .int (6 : Int32)] (gQI D [(q0, .inr (9, [.int (0 : Int32), .null, .null, .null]))] sz (fun w _ => ∃ q1 q2 q3 : Nat, w = [(q0, .inr (9, [.int (0 : Int32), .ref q1, .ref q2, .ref q3])), (q1, .inl (ci, 6, .inl (fun _ => 0))), (q2, .inl (ci, 6, .inl (fun _ => 0))), (q3, .inl (ci, 6, .inl (fun _ => 0)))])) := by
  refine gmet_I RX10 (by decide +kernel) rfl rfl (Nat.le_of_ble_eq_true rfl) ?_
  intro p e s m args below meth c A R Q C hin hfr hlc hce hsl hP hD hret ls hl
  obtain ⟨hx, hb, hml, hown, ht, hK, hZ, hA⟩ := C
  have hl : lv_has ls 3 [(0, .ref q0), (1, .int (6 : Int32))] := hl
  refine g_in (fun H locs => W p l e R s m args below meth c H locs 0 0 Q (F0 m 0 ls [])) (fun H locs hS0 hP => ?_) hP (va_S.rf (A := A) (H0 := s.heap))
  have hS : va_S A s.heap H locs := hS0
  clear hS0
  refine lv_aload_n hx hb dX10_init_0 rfl (lv_at hl 0 rfl) ?_
  refine W.objInit hx hb hown (ht _ mM_X10_1) (ht _ mI_objinit) (ht _ mC_objinit) rfl (hl.1.trans hml.symm) rfl dX10_init_1 (Nat.le_trans (Nat.le_of_ble_eq_true rfl) hfr) (Nat.le_trans (Nat.le_of_ble_eq_true rfl) hlc) ?_
  refine W.eq (g2 := F0 m 4 ls []) rfl ?_
  refine lv_iconst (v := (0 : Int32)) hx hb dX10_init_4 (by decide) ?_
  refine lv_iload_n hx hb dX10_init_5 rfl (lv_at hl 1 rfl) ?_
  refine va_mmax hx hb (hml.trans hl.1.symm) hown (ht _ mM_X10_7) (ht _ mT_J9_max_7cf53) (ht _ mN_J9) (ht _ mC_J9_max_7cf53) (Nat.le_trans (Nat.le_of_ble_eq_true rfl) hfr) (Nat.le_trans (Nat.le_of_ble_eq_true rfl) hlc) (Nat.zero_le _) (Nat.zero_le _) dX10_init_6 ?_
  refine W.eq (g2 := F0 m 9 ls [.int (6 : Int32)]) (by rfl) ?_
  refine lv_istore_n (lv' := [(2, .int (6 : Int32)), (0, .ref q0), (1, .int (6 : Int32))]) hx hb dX10_init_9 rfl hl (by decide) rfl (fun ls hl => ?_)
  refine lv_aload_n hx hb dX10_init_10 rfl (lv_at hl 1 rfl) ?_
  refine lv_iload_n hx hb dX10_init_11 rfl (lv_at hl 0 rfl) ?_
  refine g_newI hx hb (ht _ mA_int) hK hP hD hS hA (N := 6) (by decide) (by decide) (by decide) (Nat.le_trans (Nat.le_of_ble_eq_true rfl) hce) (Nat.le_trans (Nat.le_of_ble_eq_true rfl) hsl) dX10_init_12 (fun q1 H hP hD hS => ?_)
  have hP : va_P D vwCl [(q0, .inr (9, [.int (0 : Int32), .null, .null, .null])), (q1, .inl (ci, 6, .inl (fun _ => 0)))] H := hP
  have hD : va_D A [(q0, .inr (9, [.int (0 : Int32), .null, .null, .null])), (q1, .inl (ci, 6, .inl (fun _ => 0)))] := hD
  refine W.widen (k := 1) (n := 6) (Nat.le_of_ble_eq_true rfl) (Nat.le_of_ble_eq_true rfl) ?_
  refine va_putF (D := D) (ci := 9) (v := .ref q1) (ty := (.array .int)) (C := RX10) (T := TX10) (N := 4) hx hb ht in_X10 tyX10 tyX10_ok nmX10 hown hK.1 hP hD hS 0 rfl rfl 1 (by decide) (ht _ mF_X10_13) (fun _ h9 => h9) rfl hin rfl (by decide +kernel) rfl rfl (Nat.le_of_ble_eq_true rfl) dX10_init_14 (fun H locs hP hD hS => ?_)
  have hP : va_P D vwCl [(q0, .inr (9, [.int (0 : Int32), .ref q1, .null, .null])), (q1, .inl (ci, 6, .inl (fun _ => 0)))] H := hP
  have hD : va_D A [(q0, .inr (9, [.int (0 : Int32), .ref q1, .null, .null])), (q1, .inl (ci, 6, .inl (fun _ => 0)))] := hD
  refine lv_aload_n hx hb dX10_init_17 rfl (lv_at hl 1 rfl) ?_
  refine lv_iload_n hx hb dX10_init_18 rfl (lv_at hl 0 rfl) ?_
  refine g_newI hx hb (ht _ mA_int) hK hP hD hS hA (N := 6) (by decide) (by decide) (by decide) (Nat.le_trans (Nat.le_of_ble_eq_true rfl) hce) (Nat.le_trans (Nat.le_of_ble_eq_true rfl) hsl) dX10_init_19 (fun q2 H hP hD hS => ?_)
  have hP : va_P D vwCl [(q0, .inr (9, [.int (0 : Int32), .ref q1, .null, .null])), (q1, .inl (ci, 6, .inl (fun _ => 0))), (q2, .inl (ci, 6, .inl (fun _ => 0)))] H := hP
  have hD : va_D A [(q0, .inr (9, [.int (0 : Int32), .ref q1, .null, .null])), (q1, .inl (ci, 6, .inl (fun _ => 0))), (q2, .inl (ci, 6, .inl (fun _ => 0)))] := hD
  refine W.widen (k := 2) (n := 12) (Nat.le_of_ble_eq_true rfl) (Nat.le_of_ble_eq_true rfl) ?_
  refine va_putF (D := D) (ci := 9) (v := .ref q2) (ty := (.array .int)) (C := RX10) (T := TX10) (N := 4) hx hb ht in_X10 tyX10 tyX10_ok nmX10 hown hK.1 hP hD hS 0 rfl rfl 2 (by decide) (ht _ mF_X10_19) (fun _ h9 => h9) rfl hin rfl (by decide +kernel) rfl rfl (Nat.le_of_ble_eq_true rfl) dX10_init_21 (fun H locs hP hD hS => ?_)
  have hP : va_P D vwCl [(q0, .inr (9, [.int (0 : Int32), .ref q1, .ref q2, .null])), (q1, .inl (ci, 6, .inl (fun _ => 0))), (q2, .inl (ci, 6, .inl (fun _ => 0)))] H := hP
  have hD : va_D A [(q0, .inr (9, [.int (0 : Int32), .ref q1, .ref q2, .null])), (q1, .inl (ci, 6, .inl (fun _ => 0))), (q2, .inl (ci, 6, .inl (fun _ => 0)))] := hD
  refine lv_aload_n hx hb dX10_init_24 rfl (lv_at hl 1 rfl) ?_
  refine lv_iload_n hx hb dX10_init_25 rfl (lv_at hl 0 rfl) ?_
  refine g_newI hx hb (ht _ mA_int) hK hP hD hS hA (N := 6) (by decide) (by decide) (by decide) (Nat.le_trans (Nat.le_of_ble_eq_true rfl) hce) (Nat.le_trans (Nat.le_of_ble_eq_true rfl) hsl) dX10_init_26 (fun q3 H hP hD hS => ?_)
  have hP : va_P D vwCl [(q0, .inr (9, [.int (0 : Int32), .ref q1, .ref q2, .null])), (q1, .inl (ci, 6, .inl (fun _ => 0))), (q2, .inl (ci, 6, .inl (fun _ => 0))), (q3, .inl (ci, 6, .inl (fun _ => 0)))] H := hP
  have hD : va_D A [(q0, .inr (9, [.int (0 : Int32), .ref q1, .ref q2, .null])), (q1, .inl (ci, 6, .inl (fun _ => 0))), (q2, .inl (ci, 6, .inl (fun _ => 0))), (q3, .inl (ci, 6, .inl (fun _ => 0)))] := hD
  refine W.widen (k := 3) (n := 18) (Nat.le_of_ble_eq_true rfl) (Nat.le_of_ble_eq_true rfl) ?_
  refine va_putF (D := D) (ci := 9) (v := .ref q3) (ty := (.array .int)) (C := RX10) (T := TX10) (N := 4) hx hb ht in_X10 tyX10 tyX10_ok nmX10 hown hK.1 hP hD hS 0 rfl rfl 3 (by decide) (ht _ mF_X10_22) (fun _ h9 => h9) rfl hin rfl (by decide +kernel) rfl rfl (Nat.le_of_ble_eq_true rfl) dX10_init_28 (fun H locs hP hD hS => ?_)
  have hP : va_P D vwCl [(q0, .inr (9, [.int (0 : Int32), .ref q1, .ref q2, .ref q3])), (q1, .inl (ci, 6, .inl (fun _ => 0))), (q2, .inl (ci, 6, .inl (fun _ => 0))), (q3, .inl (ci, 6, .inl (fun _ => 0)))] H := hP
  have hD : va_D A [(q0, .inr (9, [.int (0 : Int32), .ref q1, .ref q2, .ref q3])), (q1, .inl (ci, 6, .inl (fun _ => 0))), (q2, .inl (ci, 6, .inl (fun _ => 0))), (q3, .inl (ci, 6, .inl (fun _ => 0)))] := hD
  exact hret _ H locs _ _ (fun _ _ => ⟨_, _, _, rfl⟩) hP hD hS dX10_init_31

set_option maxHeartbeats 4000000 in
set_option maxRecDepth 100000 in
theorem c_X10_init5 (l : Launch) (D : va_G) (ci cz : ClassId) (tr : List (ClassId × FieldType)) (q0 : Nat) (sz : Nat) : gMI l yX10_init cX10_init 3 1 21 3 15 D ci cz tr [(q0, .inr (9, [.int (0 : Int32), .null, .null, .null]))] sz [.ref q0, .int (5 : Int32)] (gQI D [(q0, .inr (9, [.int (0 : Int32), .null, .null, .null]))] sz (fun w _ => ∃ q1 q2 q3 : Nat, w = [(q0, .inr (9, [.int (0 : Int32), .ref q1, .ref q2, .ref q3])), (q1, .inl (ci, 5, .inl (fun _ => 0))), (q2, .inl (ci, 5, .inl (fun _ => 0))), (q3, .inl (ci, 5, .inl (fun _ => 0)))])) := by
  refine gmet_I RX10 (by decide +kernel) rfl rfl (Nat.le_of_ble_eq_true rfl) ?_
  intro p e s m args below meth c A R Q C hin hfr hlc hce hsl hP hD hret ls hl
  obtain ⟨hx, hb, hml, hown, ht, hK, hZ, hA⟩ := C
  have hl : lv_has ls 3 [(0, .ref q0), (1, .int (5 : Int32))] := hl
  refine g_in (fun H locs => W p l e R s m args below meth c H locs 0 0 Q (F0 m 0 ls [])) (fun H locs hS0 hP => ?_) hP (va_S.rf (A := A) (H0 := s.heap))
  have hS : va_S A s.heap H locs := hS0
  clear hS0
  refine lv_aload_n hx hb dX10_init_0 rfl (lv_at hl 0 rfl) ?_
  refine W.objInit hx hb hown (ht _ mM_X10_1) (ht _ mI_objinit) (ht _ mC_objinit) rfl (hl.1.trans hml.symm) rfl dX10_init_1 (Nat.le_trans (Nat.le_of_ble_eq_true rfl) hfr) (Nat.le_trans (Nat.le_of_ble_eq_true rfl) hlc) ?_
  refine W.eq (g2 := F0 m 4 ls []) rfl ?_
  refine lv_iconst (v := (0 : Int32)) hx hb dX10_init_4 (by decide) ?_
  refine lv_iload_n hx hb dX10_init_5 rfl (lv_at hl 1 rfl) ?_
  refine va_mmax hx hb (hml.trans hl.1.symm) hown (ht _ mM_X10_7) (ht _ mT_J9_max_7cf53) (ht _ mN_J9) (ht _ mC_J9_max_7cf53) (Nat.le_trans (Nat.le_of_ble_eq_true rfl) hfr) (Nat.le_trans (Nat.le_of_ble_eq_true rfl) hlc) (Nat.zero_le _) (Nat.zero_le _) dX10_init_6 ?_
  refine W.eq (g2 := F0 m 9 ls [.int (5 : Int32)]) (by rfl) ?_
  refine lv_istore_n (lv' := [(2, .int (5 : Int32)), (0, .ref q0), (1, .int (5 : Int32))]) hx hb dX10_init_9 rfl hl (by decide) rfl (fun ls hl => ?_)
  refine lv_aload_n hx hb dX10_init_10 rfl (lv_at hl 1 rfl) ?_
  refine lv_iload_n hx hb dX10_init_11 rfl (lv_at hl 0 rfl) ?_
  refine g_newI hx hb (ht _ mA_int) hK hP hD hS hA (N := 5) (by decide) (by decide) (by decide) (Nat.le_trans (Nat.le_of_ble_eq_true rfl) hce) (Nat.le_trans (Nat.le_of_ble_eq_true rfl) hsl) dX10_init_12 (fun q1 H hP hD hS => ?_)
  have hP : va_P D vwCl [(q0, .inr (9, [.int (0 : Int32), .null, .null, .null])), (q1, .inl (ci, 5, .inl (fun _ => 0)))] H := hP
  have hD : va_D A [(q0, .inr (9, [.int (0 : Int32), .null, .null, .null])), (q1, .inl (ci, 5, .inl (fun _ => 0)))] := hD
  refine W.widen (k := 1) (n := 5) (Nat.le_of_ble_eq_true rfl) (Nat.le_of_ble_eq_true rfl) ?_
  refine va_putF (D := D) (ci := 9) (v := .ref q1) (ty := (.array .int)) (C := RX10) (T := TX10) (N := 4) hx hb ht in_X10 tyX10 tyX10_ok nmX10 hown hK.1 hP hD hS 0 rfl rfl 1 (by decide) (ht _ mF_X10_13) (fun _ h9 => h9) rfl hin rfl (by decide +kernel) rfl rfl (Nat.le_of_ble_eq_true rfl) dX10_init_14 (fun H locs hP hD hS => ?_)
  have hP : va_P D vwCl [(q0, .inr (9, [.int (0 : Int32), .ref q1, .null, .null])), (q1, .inl (ci, 5, .inl (fun _ => 0)))] H := hP
  have hD : va_D A [(q0, .inr (9, [.int (0 : Int32), .ref q1, .null, .null])), (q1, .inl (ci, 5, .inl (fun _ => 0)))] := hD
  refine lv_aload_n hx hb dX10_init_17 rfl (lv_at hl 1 rfl) ?_
  refine lv_iload_n hx hb dX10_init_18 rfl (lv_at hl 0 rfl) ?_
  refine g_newI hx hb (ht _ mA_int) hK hP hD hS hA (N := 5) (by decide) (by decide) (by decide) (Nat.le_trans (Nat.le_of_ble_eq_true rfl) hce) (Nat.le_trans (Nat.le_of_ble_eq_true rfl) hsl) dX10_init_19 (fun q2 H hP hD hS => ?_)
  have hP : va_P D vwCl [(q0, .inr (9, [.int (0 : Int32), .ref q1, .null, .null])), (q1, .inl (ci, 5, .inl (fun _ => 0))), (q2, .inl (ci, 5, .inl (fun _ => 0)))] H := hP
  have hD : va_D A [(q0, .inr (9, [.int (0 : Int32), .ref q1, .null, .null])), (q1, .inl (ci, 5, .inl (fun _ => 0))), (q2, .inl (ci, 5, .inl (fun _ => 0)))] := hD
  refine W.widen (k := 2) (n := 10) (Nat.le_of_ble_eq_true rfl) (Nat.le_of_ble_eq_true rfl) ?_
  refine va_putF (D := D) (ci := 9) (v := .ref q2) (ty := (.array .int)) (C := RX10) (T := TX10) (N := 4) hx hb ht in_X10 tyX10 tyX10_ok nmX10 hown hK.1 hP hD hS 0 rfl rfl 2 (by decide) (ht _ mF_X10_19) (fun _ h9 => h9) rfl hin rfl (by decide +kernel) rfl rfl (Nat.le_of_ble_eq_true rfl) dX10_init_21 (fun H locs hP hD hS => ?_)
  have hP : va_P D vwCl [(q0, .inr (9, [.int (0 : Int32), .ref q1, .ref q2, .null])), (q1, .inl (ci, 5, .inl (fun _ => 0))), (q2, .inl (ci, 5, .inl (fun _ => 0)))] H := hP
  have hD : va_D A [(q0, .inr (9, [.int (0 : Int32), .ref q1, .ref q2, .null])), (q1, .inl (ci, 5, .inl (fun _ => 0))), (q2, .inl (ci, 5, .inl (fun _ => 0)))] := hD
  refine lv_aload_n hx hb dX10_init_24 rfl (lv_at hl 1 rfl) ?_
  refine lv_iload_n hx hb dX10_init_25 rfl (lv_at hl 0 rfl) ?_
  refine g_newI hx hb (ht _ mA_int) hK hP hD hS hA (N := 5) (by decide) (by decide) (by decide) (Nat.le_trans (Nat.le_of_ble_eq_true rfl) hce) (Nat.le_trans (Nat.le_of_ble_eq_true rfl) hsl) dX10_init_26 (fun q3 H hP hD hS => ?_)
  have hP : va_P D vwCl [(q0, .inr (9, [.int (0 : Int32), .ref q1, .ref q2, .null])), (q1, .inl (ci, 5, .inl (fun _ => 0))), (q2, .inl (ci, 5, .inl (fun _ => 0))), (q3, .inl (ci, 5, .inl (fun _ => 0)))] H := hP
  have hD : va_D A [(q0, .inr (9, [.int (0 : Int32), .ref q1, .ref q2, .null])), (q1, .inl (ci, 5, .inl (fun _ => 0))), (q2, .inl (ci, 5, .inl (fun _ => 0))), (q3, .inl (ci, 5, .inl (fun _ => 0)))] := hD
  refine W.widen (k := 3) (n := 15) (Nat.le_of_ble_eq_true rfl) (Nat.le_of_ble_eq_true rfl) ?_
  refine va_putF (D := D) (ci := 9) (v := .ref q3) (ty := (.array .int)) (C := RX10) (T := TX10) (N := 4) hx hb ht in_X10 tyX10 tyX10_ok nmX10 hown hK.1 hP hD hS 0 rfl rfl 3 (by decide) (ht _ mF_X10_22) (fun _ h9 => h9) rfl hin rfl (by decide +kernel) rfl rfl (Nat.le_of_ble_eq_true rfl) dX10_init_28 (fun H locs hP hD hS => ?_)
  have hP : va_P D vwCl [(q0, .inr (9, [.int (0 : Int32), .ref q1, .ref q2, .ref q3])), (q1, .inl (ci, 5, .inl (fun _ => 0))), (q2, .inl (ci, 5, .inl (fun _ => 0))), (q3, .inl (ci, 5, .inl (fun _ => 0)))] H := hP
  have hD : va_D A [(q0, .inr (9, [.int (0 : Int32), .ref q1, .ref q2, .ref q3])), (q1, .inl (ci, 5, .inl (fun _ => 0))), (q2, .inl (ci, 5, .inl (fun _ => 0))), (q3, .inl (ci, 5, .inl (fun _ => 0)))] := hD
  exact hret _ H locs _ _ (fun _ _ => ⟨_, _, _, rfl⟩) hP hD hS dX10_init_31

set_option maxHeartbeats 4000000 in
set_option maxRecDepth 100000 in
theorem c_X8_init (l : Launch) (D : va_G) (ci cz : ClassId) (tr : List (ClassId × FieldType)) (q0 : Nat) (sz : Nat) : gMI l yX8_init cX8_init 1 2 43 13 75 D ci cz tr [(q0, .inr (7, [.null, .null, .null, .int (0 : Int32)]))] sz [.ref q0] (gQI D [(q0, .inr (7, [.null, .null, .null, .int (0 : Int32)]))] sz (fun w _ => ∃ q1 q2 q3 q4 q5 q6 q7 q8 q9 q10 q11 q12 q13 : Nat, w = [(q0, .inr (7, [.ref q1, .ref q6, .ref q10, .int (2 : Int32)])), (q1, .inr (8, [.int (0 : Int32), .int (0 : Int32), .ref q2, .ref q3, .ref q4, .ref q5])), (q2, .inl (ci, 7, .inl (fun _ => 0))), (q3, .inl (ci, 7, .inl (fun _ => 0))), (q4, .inl (ci, 7, .inl (fun _ => 0))), (q5, .inl (ci, 7, .inl (fun _ => 0))), (q6, .inr (9, [.int (0 : Int32), .ref q7, .ref q8, .ref q9])), (q7, .inl (ci, 6, .inl (fun _ => 0))), (q8, .inl (ci, 6, .inl (fun _ => 0))), (q9, .inl (ci, 6, .inl (fun _ => 0))), (q10, .inr (9, [.int (0 : Int32), .ref q11, .ref q12, .ref q13])), (q11, .inl (ci, 5, .inl (fun _ => 0))), (q12, .inl (ci, 5, .inl (fun _ => 0))), (q13, .inl (ci, 5, .inl (fun _ => 0)))])) := by
  refine gmet_I RX8 (by decide +kernel) rfl rfl (Nat.le_of_ble_eq_true rfl) ?_
  intro p e s m args below meth c A R Q C hin hfr hlc hce hsl hP hD hret ls hl
  obtain ⟨hx, hb, hml, hown, ht, hK, hZ, hA⟩ := C
  have hl : lv_has ls 1 [(0, .ref q0)] := hl
  refine g_in (fun H locs => W p l e R s m args below meth c H locs 0 0 Q (F0 m 0 ls [])) (fun H locs hS0 hP => ?_) hP (va_S.rf (A := A) (H0 := s.heap))
  have hS : va_S A s.heap H locs := hS0
  clear hS0
  refine lv_aload_n hx hb dX8_init_0 rfl (lv_at hl 0 rfl) ?_
  refine W.objInit hx hb hown (ht _ mM_X8_3) (ht _ mI_objinit) (ht _ mC_objinit) rfl (hl.1.trans hml.symm) rfl dX8_init_1 (Nat.le_trans (Nat.le_of_ble_eq_true rfl) hfr) (Nat.le_trans (Nat.le_of_ble_eq_true rfl) hlc) ?_
  refine W.eq (g2 := F0 m 4 ls []) rfl ?_
  refine lv_aload_n hx hb dX8_init_4 rfl (lv_at hl 0 rfl) ?_
  refine va_new (D := D) (ci := 8) (fs := [.int (0 : Int32), .int (0 : Int32), .null, .null, .null, .null]) (C := RX9) (T := TX9) (N := 6) hx hb ht in_X9 tyX9 tyX9_ok hown (ht _ mK_X8_9) (ht _ mB_X9) (ht _ mN_X9) hK.1 hP hD hS hA rfl (fun j hj => by rcases (show j = 0 ∨ j = 1 ∨ j = 2 ∨ j = 3 ∨ j = 4 ∨ j = 5 by omega) with rfl | rfl | rfl | rfl | rfl | rfl <;> rfl) (Nat.le_trans (Nat.le_of_ble_eq_true rfl) hce) (Nat.le_trans (Nat.le_of_ble_eq_true rfl) hsl) dX8_init_5 (fun q1 H hP hD hS => ?_)
  have hP : va_P D vwCl [(q0, .inr (7, [.null, .null, .null, .int (0 : Int32)])), (q1, .inr (8, [.int (0 : Int32), .int (0 : Int32), .null, .null, .null, .null]))] H := hP
  have hD : va_D A [(q0, .inr (7, [.null, .null, .null, .int (0 : Int32)])), (q1, .inr (8, [.int (0 : Int32), .int (0 : Int32), .null, .null, .null, .null]))] := hD
  refine W.widen (k := 1) (n := 6) (Nat.le_of_ble_eq_true rfl) (Nat.le_of_ble_eq_true rfl) ?_
  refine lv_dup hx hb dX8_init_8 rfl ?_
  refine gcallI (wr := [(q0, .inr (7, [.null, .null, .null, .int (0 : Int32)]))]) (va_runIN (host := "DogVotes") (As := []) (rest := [.ref q1, .ref q0]) ⟨hx, hb, hml, hown, ht⟩ (c_X9_init l D ci cz tr q1 H.size) ⟨va_cnB 0 ht (gi_code mC_X9_init) rfl rfl rfl (hK.2.1 _ _ _ _ mQ_X8_11) (ht _ mN_X9) (by decide +kernel) ⟨Nat.le_trans (Nat.le_of_ble_eq_true rfl) hfr, Nat.le_trans (Nat.le_of_ble_eq_true rfl) hlc⟩, rfl, ht _ mI_X9_init⟩ (gpre (av := .ref q1 :: []) (wc := [(q1, .inr (8, [.int (0 : Int32), .int (0 : Int32), .null, .null, .null, .null]))]) hK hZ hP hD hS hA [1] rfl rfl) rfl rfl hl.1 rfl (lv_room (Nat.le_of_ble_eq_true rfl)) dX8_init_9 ⟨(Nat.le_trans (Nat.le_of_ble_eq_true rfl) hce), (Nat.le_trans (Nat.le_of_ble_eq_true rfl) hsl)⟩) hP hD hS hA [1] [0] rfl rfl (by decide) (by decide) (fun w9 H locs hw9 hP hD hS => ?_)
  obtain ⟨t9, hvm9, q2, q3, q4, q5, rfl⟩ := hw9
  have hP : va_P D vwCl [(q0, .inr (7, [.null, .null, .null, .int (0 : Int32)])), (q1, .inr (8, [.int (0 : Int32), .int (0 : Int32), .ref q2, .ref q3, .ref q4, .ref q5])), (q2, .inl (ci, 7, .inl (fun _ => 0))), (q3, .inl (ci, 7, .inl (fun _ => 0))), (q4, .inl (ci, 7, .inl (fun _ => 0))), (q5, .inl (ci, 7, .inl (fun _ => 0)))] H := hP
  have hD : va_D A [(q0, .inr (7, [.null, .null, .null, .int (0 : Int32)])), (q1, .inr (8, [.int (0 : Int32), .int (0 : Int32), .ref q2, .ref q3, .ref q4, .ref q5])), (q2, .inl (ci, 7, .inl (fun _ => 0))), (q3, .inl (ci, 7, .inl (fun _ => 0))), (q4, .inl (ci, 7, .inl (fun _ => 0))), (q5, .inl (ci, 7, .inl (fun _ => 0)))] := hD
  refine W.widen (k := 5) (n := 34) (Nat.le_of_ble_eq_true rfl) (Nat.le_of_ble_eq_true rfl) ?_
  refine va_putF (D := D) (ci := 7) (v := .ref q1) (ty := (.object "DogVotes$Roll")) (C := RX8) (T := TX8) (N := 4) hx hb ht in_X8 tyX8 tyX8_ok nmX8 hown hK.1 hP hD hS 0 rfl rfl 0 (by decide) (ht _ mF_X8_12) (fun _ h9 => h9) rfl hin rfl (by decide +kernel) rfl rfl (Nat.le_of_ble_eq_true rfl) dX8_init_12 (fun H locs hP hD hS => ?_)
  have hP : va_P D vwCl [(q0, .inr (7, [.ref q1, .null, .null, .int (0 : Int32)])), (q1, .inr (8, [.int (0 : Int32), .int (0 : Int32), .ref q2, .ref q3, .ref q4, .ref q5])), (q2, .inl (ci, 7, .inl (fun _ => 0))), (q3, .inl (ci, 7, .inl (fun _ => 0))), (q4, .inl (ci, 7, .inl (fun _ => 0))), (q5, .inl (ci, 7, .inl (fun _ => 0)))] H := hP
  have hD : va_D A [(q0, .inr (7, [.ref q1, .null, .null, .int (0 : Int32)])), (q1, .inr (8, [.int (0 : Int32), .int (0 : Int32), .ref q2, .ref q3, .ref q4, .ref q5])), (q2, .inl (ci, 7, .inl (fun _ => 0))), (q3, .inl (ci, 7, .inl (fun _ => 0))), (q4, .inl (ci, 7, .inl (fun _ => 0))), (q5, .inl (ci, 7, .inl (fun _ => 0)))] := hD
  refine lv_aload_n hx hb dX8_init_15 rfl (lv_at hl 0 rfl) ?_
  refine va_new (D := D) (ci := 9) (fs := [.int (0 : Int32), .null, .null, .null]) (C := RX10) (T := TX10) (N := 4) hx hb ht in_X10 tyX10 tyX10_ok hown (ht _ mK_X8_18) (ht _ mB_X10) (ht _ mN_X10) hK.1 hP hD hS hA rfl (fun j hj => by rcases (show j = 0 ∨ j = 1 ∨ j = 2 ∨ j = 3 by omega) with rfl | rfl | rfl | rfl <;> rfl) (Nat.le_trans (Nat.le_of_ble_eq_true rfl) hce) (Nat.le_trans (Nat.le_of_ble_eq_true rfl) hsl) dX8_init_16 (fun q6 H hP hD hS => ?_)
  have hP : va_P D vwCl [(q0, .inr (7, [.ref q1, .null, .null, .int (0 : Int32)])), (q1, .inr (8, [.int (0 : Int32), .int (0 : Int32), .ref q2, .ref q3, .ref q4, .ref q5])), (q2, .inl (ci, 7, .inl (fun _ => 0))), (q3, .inl (ci, 7, .inl (fun _ => 0))), (q4, .inl (ci, 7, .inl (fun _ => 0))), (q5, .inl (ci, 7, .inl (fun _ => 0))), (q6, .inr (9, [.int (0 : Int32), .null, .null, .null]))] H := hP
  have hD : va_D A [(q0, .inr (7, [.ref q1, .null, .null, .int (0 : Int32)])), (q1, .inr (8, [.int (0 : Int32), .int (0 : Int32), .ref q2, .ref q3, .ref q4, .ref q5])), (q2, .inl (ci, 7, .inl (fun _ => 0))), (q3, .inl (ci, 7, .inl (fun _ => 0))), (q4, .inl (ci, 7, .inl (fun _ => 0))), (q5, .inl (ci, 7, .inl (fun _ => 0))), (q6, .inr (9, [.int (0 : Int32), .null, .null, .null]))] := hD
  refine W.widen (k := 6) (n := 38) (Nat.le_of_ble_eq_true rfl) (Nat.le_of_ble_eq_true rfl) ?_
  refine lv_dup hx hb dX8_init_19 rfl ?_
  refine lv_bipush (v := (6 : Int32)) hx hb dX8_init_20 (by decide) ?_
  refine gcallI (wr := [(q0, .inr (7, [.ref q1, .null, .null, .int (0 : Int32)])), (q1, .inr (8, [.int (0 : Int32), .int (0 : Int32), .ref q2, .ref q3, .ref q4, .ref q5])), (q2, .inl (ci, 7, .inl (fun _ => 0))), (q3, .inl (ci, 7, .inl (fun _ => 0))), (q4, .inl (ci, 7, .inl (fun _ => 0))), (q5, .inl (ci, 7, .inl (fun _ => 0)))]) (va_runI (As := [.int (6 : Int32)]) (rest := [.ref q6, .ref q0]) ⟨hx, hb, hml, hown, ht⟩ (c_X10_init6 l D ci cz tr q6 H.size) (cwI 1 ht (gi_code mC_X10_init) rfl rfl rfl (ht _ mN_X10) (ht _ mM_X8_20) (ht _ mI_X10_init) rfl (by decide +kernel) ⟨Nat.le_trans (Nat.le_of_ble_eq_true rfl) hfr, Nat.le_trans (Nat.le_of_ble_eq_true rfl) hlc⟩) (gpre (av := .ref q6 :: [.int (6 : Int32)]) (wc := [(q6, .inr (9, [.int (0 : Int32), .null, .null, .null]))]) hK hZ hP hD hS hA [6] rfl rfl) rfl rfl hl.1 rfl (lv_room (Nat.le_of_ble_eq_true rfl)) dX8_init_22 ⟨(Nat.le_trans (Nat.le_of_ble_eq_true rfl) hce), (Nat.le_trans (Nat.le_of_ble_eq_true rfl) hsl)⟩) hP hD hS hA [6] [0, 1, 2, 3, 4, 5] rfl rfl (by decide) (by decide) (fun w9 H locs hw9 hP hD hS => ?_)
  obtain ⟨t9, hvm9, q7, q8, q9, rfl⟩ := hw9
  have hP : va_P D vwCl [(q0, .inr (7, [.ref q1, .null, .null, .int (0 : Int32)])), (q1, .inr (8, [.int (0 : Int32), .int (0 : Int32), .ref q2, .ref q3, .ref q4, .ref q5])), (q2, .inl (ci, 7, .inl (fun _ => 0))), (q3, .inl (ci, 7, .inl (fun _ => 0))), (q4, .inl (ci, 7, .inl (fun _ => 0))), (q5, .inl (ci, 7, .inl (fun _ => 0))), (q6, .inr (9, [.int (0 : Int32), .ref q7, .ref q8, .ref q9])), (q7, .inl (ci, 6, .inl (fun _ => 0))), (q8, .inl (ci, 6, .inl (fun _ => 0))), (q9, .inl (ci, 6, .inl (fun _ => 0)))] H := hP
  have hD : va_D A [(q0, .inr (7, [.ref q1, .null, .null, .int (0 : Int32)])), (q1, .inr (8, [.int (0 : Int32), .int (0 : Int32), .ref q2, .ref q3, .ref q4, .ref q5])), (q2, .inl (ci, 7, .inl (fun _ => 0))), (q3, .inl (ci, 7, .inl (fun _ => 0))), (q4, .inl (ci, 7, .inl (fun _ => 0))), (q5, .inl (ci, 7, .inl (fun _ => 0))), (q6, .inr (9, [.int (0 : Int32), .ref q7, .ref q8, .ref q9])), (q7, .inl (ci, 6, .inl (fun _ => 0))), (q8, .inl (ci, 6, .inl (fun _ => 0))), (q9, .inl (ci, 6, .inl (fun _ => 0)))] := hD
  refine W.widen (k := 9) (n := 56) (Nat.le_of_ble_eq_true rfl) (Nat.le_of_ble_eq_true rfl) ?_
  refine va_putF (D := D) (ci := 7) (v := .ref q6) (ty := (.object "DogVotes$Rows")) (C := RX8) (T := TX8) (N := 4) hx hb ht in_X8 tyX8 tyX8_ok nmX8 hown hK.1 hP hD hS 0 rfl rfl 1 (by decide) (ht _ mF_X8_23) (fun _ h9 => h9) rfl hin rfl (by decide +kernel) rfl rfl (Nat.le_of_ble_eq_true rfl) dX8_init_25 (fun H locs hP hD hS => ?_)
  have hP : va_P D vwCl [(q0, .inr (7, [.ref q1, .ref q6, .null, .int (0 : Int32)])), (q1, .inr (8, [.int (0 : Int32), .int (0 : Int32), .ref q2, .ref q3, .ref q4, .ref q5])), (q2, .inl (ci, 7, .inl (fun _ => 0))), (q3, .inl (ci, 7, .inl (fun _ => 0))), (q4, .inl (ci, 7, .inl (fun _ => 0))), (q5, .inl (ci, 7, .inl (fun _ => 0))), (q6, .inr (9, [.int (0 : Int32), .ref q7, .ref q8, .ref q9])), (q7, .inl (ci, 6, .inl (fun _ => 0))), (q8, .inl (ci, 6, .inl (fun _ => 0))), (q9, .inl (ci, 6, .inl (fun _ => 0)))] H := hP
  have hD : va_D A [(q0, .inr (7, [.ref q1, .ref q6, .null, .int (0 : Int32)])), (q1, .inr (8, [.int (0 : Int32), .int (0 : Int32), .ref q2, .ref q3, .ref q4, .ref q5])), (q2, .inl (ci, 7, .inl (fun _ => 0))), (q3, .inl (ci, 7, .inl (fun _ => 0))), (q4, .inl (ci, 7, .inl (fun _ => 0))), (q5, .inl (ci, 7, .inl (fun _ => 0))), (q6, .inr (9, [.int (0 : Int32), .ref q7, .ref q8, .ref q9])), (q7, .inl (ci, 6, .inl (fun _ => 0))), (q8, .inl (ci, 6, .inl (fun _ => 0))), (q9, .inl (ci, 6, .inl (fun _ => 0)))] := hD
  refine lv_aload_n hx hb dX8_init_28 rfl (lv_at hl 0 rfl) ?_
  refine va_new (D := D) (ci := 9) (fs := [.int (0 : Int32), .null, .null, .null]) (C := RX10) (T := TX10) (N := 4) hx hb ht in_X10 tyX10 tyX10_ok hown (ht _ mK_X8_18) (ht _ mB_X10) (ht _ mN_X10) hK.1 hP hD hS hA rfl (fun j hj => by rcases (show j = 0 ∨ j = 1 ∨ j = 2 ∨ j = 3 by omega) with rfl | rfl | rfl | rfl <;> rfl) (Nat.le_trans (Nat.le_of_ble_eq_true rfl) hce) (Nat.le_trans (Nat.le_of_ble_eq_true rfl) hsl) dX8_init_29 (fun q10 H hP hD hS => ?_)
  have hP : va_P D vwCl [(q0, .inr (7, [.ref q1, .ref q6, .null, .int (0 : Int32)])), (q1, .inr (8, [.int (0 : Int32), .int (0 : Int32), .ref q2, .ref q3, .ref q4, .ref q5])), (q2, .inl (ci, 7, .inl (fun _ => 0))), (q3, .inl (ci, 7, .inl (fun _ => 0))), (q4, .inl (ci, 7, .inl (fun _ => 0))), (q5, .inl (ci, 7, .inl (fun _ => 0))), (q6, .inr (9, [.int (0 : Int32), .ref q7, .ref q8, .ref q9])), (q7, .inl (ci, 6, .inl (fun _ => 0))), (q8, .inl (ci, 6, .inl (fun _ => 0))), (q9, .inl (ci, 6, .inl (fun _ => 0))), (q10, .inr (9, [.int (0 : Int32), .null, .null, .null]))] H := hP
  have hD : va_D A [(q0, .inr (7, [.ref q1, .ref q6, .null, .int (0 : Int32)])), (q1, .inr (8, [.int (0 : Int32), .int (0 : Int32), .ref q2, .ref q3, .ref q4, .ref q5])), (q2, .inl (ci, 7, .inl (fun _ => 0))), (q3, .inl (ci, 7, .inl (fun _ => 0))), (q4, .inl (ci, 7, .inl (fun _ => 0))), (q5, .inl (ci, 7, .inl (fun _ => 0))), (q6, .inr (9, [.int (0 : Int32), .ref q7, .ref q8, .ref q9])), (q7, .inl (ci, 6, .inl (fun _ => 0))), (q8, .inl (ci, 6, .inl (fun _ => 0))), (q9, .inl (ci, 6, .inl (fun _ => 0))), (q10, .inr (9, [.int (0 : Int32), .null, .null, .null]))] := hD
  refine W.widen (k := 10) (n := 60) (Nat.le_of_ble_eq_true rfl) (Nat.le_of_ble_eq_true rfl) ?_
  refine lv_dup hx hb dX8_init_32 rfl ?_
  refine lv_iconst (v := (5 : Int32)) hx hb dX8_init_33 (by decide) ?_
  refine gcallI (wr := [(q0, .inr (7, [.ref q1, .ref q6, .null, .int (0 : Int32)])), (q1, .inr (8, [.int (0 : Int32), .int (0 : Int32), .ref q2, .ref q3, .ref q4, .ref q5])), (q2, .inl (ci, 7, .inl (fun _ => 0))), (q3, .inl (ci, 7, .inl (fun _ => 0))), (q4, .inl (ci, 7, .inl (fun _ => 0))), (q5, .inl (ci, 7, .inl (fun _ => 0))), (q6, .inr (9, [.int (0 : Int32), .ref q7, .ref q8, .ref q9])), (q7, .inl (ci, 6, .inl (fun _ => 0))), (q8, .inl (ci, 6, .inl (fun _ => 0))), (q9, .inl (ci, 6, .inl (fun _ => 0)))]) (va_runI (As := [.int (5 : Int32)]) (rest := [.ref q10, .ref q0]) ⟨hx, hb, hml, hown, ht⟩ (c_X10_init5 l D ci cz tr q10 H.size) (cwI 1 ht (gi_code mC_X10_init) rfl rfl rfl (ht _ mN_X10) (ht _ mM_X8_20) (ht _ mI_X10_init) rfl (by decide +kernel) ⟨Nat.le_trans (Nat.le_of_ble_eq_true rfl) hfr, Nat.le_trans (Nat.le_of_ble_eq_true rfl) hlc⟩) (gpre (av := .ref q10 :: [.int (5 : Int32)]) (wc := [(q10, .inr (9, [.int (0 : Int32), .null, .null, .null]))]) hK hZ hP hD hS hA [10] rfl rfl) rfl rfl hl.1 rfl (lv_room (Nat.le_of_ble_eq_true rfl)) dX8_init_34 ⟨(Nat.le_trans (Nat.le_of_ble_eq_true rfl) hce), (Nat.le_trans (Nat.le_of_ble_eq_true rfl) hsl)⟩) hP hD hS hA [10] [0, 1, 2, 3, 4, 5, 6, 7, 8, 9] rfl rfl (by decide) (by decide) (fun w9 H locs hw9 hP hD hS => ?_)
  obtain ⟨t9, hvm9, q11, q12, q13, rfl⟩ := hw9
  have hP : va_P D vwCl [(q0, .inr (7, [.ref q1, .ref q6, .null, .int (0 : Int32)])), (q1, .inr (8, [.int (0 : Int32), .int (0 : Int32), .ref q2, .ref q3, .ref q4, .ref q5])), (q2, .inl (ci, 7, .inl (fun _ => 0))), (q3, .inl (ci, 7, .inl (fun _ => 0))), (q4, .inl (ci, 7, .inl (fun _ => 0))), (q5, .inl (ci, 7, .inl (fun _ => 0))), (q6, .inr (9, [.int (0 : Int32), .ref q7, .ref q8, .ref q9])), (q7, .inl (ci, 6, .inl (fun _ => 0))), (q8, .inl (ci, 6, .inl (fun _ => 0))), (q9, .inl (ci, 6, .inl (fun _ => 0))), (q10, .inr (9, [.int (0 : Int32), .ref q11, .ref q12, .ref q13])), (q11, .inl (ci, 5, .inl (fun _ => 0))), (q12, .inl (ci, 5, .inl (fun _ => 0))), (q13, .inl (ci, 5, .inl (fun _ => 0)))] H := hP
  have hD : va_D A [(q0, .inr (7, [.ref q1, .ref q6, .null, .int (0 : Int32)])), (q1, .inr (8, [.int (0 : Int32), .int (0 : Int32), .ref q2, .ref q3, .ref q4, .ref q5])), (q2, .inl (ci, 7, .inl (fun _ => 0))), (q3, .inl (ci, 7, .inl (fun _ => 0))), (q4, .inl (ci, 7, .inl (fun _ => 0))), (q5, .inl (ci, 7, .inl (fun _ => 0))), (q6, .inr (9, [.int (0 : Int32), .ref q7, .ref q8, .ref q9])), (q7, .inl (ci, 6, .inl (fun _ => 0))), (q8, .inl (ci, 6, .inl (fun _ => 0))), (q9, .inl (ci, 6, .inl (fun _ => 0))), (q10, .inr (9, [.int (0 : Int32), .ref q11, .ref q12, .ref q13])), (q11, .inl (ci, 5, .inl (fun _ => 0))), (q12, .inl (ci, 5, .inl (fun _ => 0))), (q13, .inl (ci, 5, .inl (fun _ => 0)))] := hD
  refine W.widen (k := 13) (n := 75) (Nat.le_of_ble_eq_true rfl) (Nat.le_of_ble_eq_true rfl) ?_
  refine va_putF (D := D) (ci := 7) (v := .ref q10) (ty := (.object "DogVotes$Rows")) (C := RX8) (T := TX8) (N := 4) hx hb ht in_X8 tyX8 tyX8_ok nmX8 hown hK.1 hP hD hS 0 rfl rfl 2 (by decide) (ht _ mF_X8_27) (fun _ h9 => h9) rfl hin rfl (by decide +kernel) rfl rfl (Nat.le_of_ble_eq_true rfl) dX8_init_37 (fun H locs hP hD hS => ?_)
  have hP : va_P D vwCl [(q0, .inr (7, [.ref q1, .ref q6, .ref q10, .int (0 : Int32)])), (q1, .inr (8, [.int (0 : Int32), .int (0 : Int32), .ref q2, .ref q3, .ref q4, .ref q5])), (q2, .inl (ci, 7, .inl (fun _ => 0))), (q3, .inl (ci, 7, .inl (fun _ => 0))), (q4, .inl (ci, 7, .inl (fun _ => 0))), (q5, .inl (ci, 7, .inl (fun _ => 0))), (q6, .inr (9, [.int (0 : Int32), .ref q7, .ref q8, .ref q9])), (q7, .inl (ci, 6, .inl (fun _ => 0))), (q8, .inl (ci, 6, .inl (fun _ => 0))), (q9, .inl (ci, 6, .inl (fun _ => 0))), (q10, .inr (9, [.int (0 : Int32), .ref q11, .ref q12, .ref q13])), (q11, .inl (ci, 5, .inl (fun _ => 0))), (q12, .inl (ci, 5, .inl (fun _ => 0))), (q13, .inl (ci, 5, .inl (fun _ => 0)))] H := hP
  have hD : va_D A [(q0, .inr (7, [.ref q1, .ref q6, .ref q10, .int (0 : Int32)])), (q1, .inr (8, [.int (0 : Int32), .int (0 : Int32), .ref q2, .ref q3, .ref q4, .ref q5])), (q2, .inl (ci, 7, .inl (fun _ => 0))), (q3, .inl (ci, 7, .inl (fun _ => 0))), (q4, .inl (ci, 7, .inl (fun _ => 0))), (q5, .inl (ci, 7, .inl (fun _ => 0))), (q6, .inr (9, [.int (0 : Int32), .ref q7, .ref q8, .ref q9])), (q7, .inl (ci, 6, .inl (fun _ => 0))), (q8, .inl (ci, 6, .inl (fun _ => 0))), (q9, .inl (ci, 6, .inl (fun _ => 0))), (q10, .inr (9, [.int (0 : Int32), .ref q11, .ref q12, .ref q13])), (q11, .inl (ci, 5, .inl (fun _ => 0))), (q12, .inl (ci, 5, .inl (fun _ => 0))), (q13, .inl (ci, 5, .inl (fun _ => 0)))] := hD
  refine lv_aload_n hx hb dX8_init_40 rfl (lv_at hl 0 rfl) ?_
  refine lv_iconst (v := (2 : Int32)) hx hb dX8_init_41 (by decide) ?_
  refine va_put (D := D) (ci := 7) (v := .int (2 : Int32)) (ty := .int) (C := RX8) (T := TX8) (N := 4) hx hb ht in_X8 tyX8 tyX8_ok nmX8 hown hK.1 hP hD hS 0 rfl rfl 3 (by decide) (ht _ mF_X8_30) (fun _ h9 => h9) rfl (by decide +kernel) rfl rfl (Nat.le_of_ble_eq_true rfl) dX8_init_42 (fun H locs hP hD hS => ?_)
  have hP : va_P D vwCl [(q0, .inr (7, [.ref q1, .ref q6, .ref q10, .int (2 : Int32)])), (q1, .inr (8, [.int (0 : Int32), .int (0 : Int32), .ref q2, .ref q3, .ref q4, .ref q5])), (q2, .inl (ci, 7, .inl (fun _ => 0))), (q3, .inl (ci, 7, .inl (fun _ => 0))), (q4, .inl (ci, 7, .inl (fun _ => 0))), (q5, .inl (ci, 7, .inl (fun _ => 0))), (q6, .inr (9, [.int (0 : Int32), .ref q7, .ref q8, .ref q9])), (q7, .inl (ci, 6, .inl (fun _ => 0))), (q8, .inl (ci, 6, .inl (fun _ => 0))), (q9, .inl (ci, 6, .inl (fun _ => 0))), (q10, .inr (9, [.int (0 : Int32), .ref q11, .ref q12, .ref q13])), (q11, .inl (ci, 5, .inl (fun _ => 0))), (q12, .inl (ci, 5, .inl (fun _ => 0))), (q13, .inl (ci, 5, .inl (fun _ => 0)))] H := hP
  have hD : va_D A [(q0, .inr (7, [.ref q1, .ref q6, .ref q10, .int (2 : Int32)])), (q1, .inr (8, [.int (0 : Int32), .int (0 : Int32), .ref q2, .ref q3, .ref q4, .ref q5])), (q2, .inl (ci, 7, .inl (fun _ => 0))), (q3, .inl (ci, 7, .inl (fun _ => 0))), (q4, .inl (ci, 7, .inl (fun _ => 0))), (q5, .inl (ci, 7, .inl (fun _ => 0))), (q6, .inr (9, [.int (0 : Int32), .ref q7, .ref q8, .ref q9])), (q7, .inl (ci, 6, .inl (fun _ => 0))), (q8, .inl (ci, 6, .inl (fun _ => 0))), (q9, .inl (ci, 6, .inl (fun _ => 0))), (q10, .inr (9, [.int (0 : Int32), .ref q11, .ref q12, .ref q13])), (q11, .inl (ci, 5, .inl (fun _ => 0))), (q12, .inl (ci, 5, .inl (fun _ => 0))), (q13, .inl (ci, 5, .inl (fun _ => 0)))] := hD
  exact hret _ H locs _ _ (fun _ _ => ⟨_, _, _, _, _, _, _, _, _, _, _, _, _, rfl⟩) hP hD hS dX8_init_45

set_option maxHeartbeats 4000000 in
set_option maxRecDepth 100000 in
theorem c_X0_init (l : Launch) (D : va_G) (ci cz : ClassId) (tr : List (ClassId × FieldType)) (q0 : Nat) (sz : Nat) : gMI l yX0_init cX0_init 1 1 20 0 0 D ci cz tr [(q0, .inr (0, [.int (0 : Int32), .int (0 : Int32), .int (0 : Int32), .int (0 : Int32)]))] sz [.ref q0] (gQI D [(q0, .inr (0, [.int (0 : Int32), .int (0 : Int32), .int (0 : Int32), .int (0 : Int32)]))] sz (fun w _ => w = [(q0, .inr (0, [.int (0 : Int32), .int (0 : Int32), .int (0 : Int32), .int (0 : Int32)]))])) := by
  refine gmet_I RX0 (by decide +kernel) rfl rfl (Nat.le_of_ble_eq_true rfl) ?_
  intro p e s m args below meth c A R Q C hin hfr hlc hce hsl hP hD hret ls hl
  obtain ⟨hx, hb, hml, hown, ht, hK, hZ, hA⟩ := C
  have hl : lv_has ls 1 [(0, .ref q0)] := hl
  refine g_in (fun H locs => W p l e R s m args below meth c H locs 0 0 Q (F0 m 0 ls [])) (fun H locs hS0 hP => ?_) hP (va_S.rf (A := A) (H0 := s.heap))
  have hS : va_S A s.heap H locs := hS0
  clear hS0
  refine lv_aload_n hx hb dX0_init_0 rfl (lv_at hl 0 rfl) ?_
  refine W.objInit hx hb hown (ht _ mM_X0_3) (ht _ mI_objinit) (ht _ mC_objinit) rfl (hl.1.trans hml.symm) rfl dX0_init_1 (Nat.le_trans (Nat.le_of_ble_eq_true rfl) hfr) (Nat.le_trans (Nat.le_of_ble_eq_true rfl) hlc) ?_
  refine W.eq (g2 := F0 m 4 ls []) rfl ?_
  exact hret _ H locs _ _ (fun _ _ => rfl) hP hD hS dX0_init_4

set_option maxHeartbeats 4000000 in
set_option maxRecDepth 100000 in
theorem c_X1_init (l : Launch) (D : va_G) (ci cz : ClassId) (tr : List (ClassId × FieldType)) (q0 : Nat) (sz : Nat) : gMI l yX1_init cX1_init 1 2 40 2 23 D ci cz tr [(q0, .inr (1, [.null, .null]))] sz [.ref q0] (gQI D [(q0, .inr (1, [.null, .null]))] sz (fun w _ => ∃ q1 q2 : Nat, w = [(q0, .inr (1, [.ref q1, .ref q2])), (q1, .inr (0, [.int (0 : Int32), .int (0 : Int32), .int (0 : Int32), .int (0 : Int32)])), (q2, .inl (ci, 19, .inl (fun _ => 0)))])) := by
  refine gmet_I RX1 (by decide +kernel) rfl rfl (Nat.le_of_ble_eq_true rfl) ?_
  intro p e s m args below meth c A R Q C hin hfr hlc hce hsl hP hD hret ls hl
  obtain ⟨hx, hb, hml, hown, ht, hK, hZ, hA⟩ := C
  have hl : lv_has ls 1 [(0, .ref q0)] := hl
  refine g_in (fun H locs => W p l e R s m args below meth c H locs 0 0 Q (F0 m 0 ls [])) (fun H locs hS0 hP => ?_) hP (va_S.rf (A := A) (H0 := s.heap))
  have hS : va_S A s.heap H locs := hS0
  clear hS0
  refine lv_aload_n hx hb dX1_init_0 rfl (lv_at hl 0 rfl) ?_
  refine W.objInit hx hb hown (ht _ mM_X1_3) (ht _ mI_objinit) (ht _ mC_objinit) rfl (hl.1.trans hml.symm) rfl dX1_init_1 (Nat.le_trans (Nat.le_of_ble_eq_true rfl) hfr) (Nat.le_trans (Nat.le_of_ble_eq_true rfl) hlc) ?_
  refine W.eq (g2 := F0 m 4 ls []) rfl ?_
  refine lv_aload_n hx hb dX1_init_4 rfl (lv_at hl 0 rfl) ?_
  refine va_new (D := D) (ci := 0) (fs := [.int (0 : Int32), .int (0 : Int32), .int (0 : Int32), .int (0 : Int32)]) (C := RX0) (T := TX0) (N := 4) hx hb ht in_X0 tyX0 tyX0_ok hown (ht _ mK_X1_9) (ht _ mB_X0) (ht _ mN_X0) hK.1 hP hD hS hA rfl (fun j hj => by rcases (show j = 0 ∨ j = 1 ∨ j = 2 ∨ j = 3 by omega) with rfl | rfl | rfl | rfl <;> rfl) (Nat.le_trans (Nat.le_of_ble_eq_true rfl) hce) (Nat.le_trans (Nat.le_of_ble_eq_true rfl) hsl) dX1_init_5 (fun q1 H hP hD hS => ?_)
  have hP : va_P D vwCl [(q0, .inr (1, [.null, .null])), (q1, .inr (0, [.int (0 : Int32), .int (0 : Int32), .int (0 : Int32), .int (0 : Int32)]))] H := hP
  have hD : va_D A [(q0, .inr (1, [.null, .null])), (q1, .inr (0, [.int (0 : Int32), .int (0 : Int32), .int (0 : Int32), .int (0 : Int32)]))] := hD
  refine W.widen (k := 1) (n := 4) (Nat.le_of_ble_eq_true rfl) (Nat.le_of_ble_eq_true rfl) ?_
  refine lv_dup hx hb dX1_init_8 rfl ?_
  refine gcallI (wr := [(q0, .inr (1, [.null, .null]))]) (va_runIN (host := "DogVotes") (As := []) (rest := [.ref q1, .ref q0]) ⟨hx, hb, hml, hown, ht⟩ (c_X0_init l D ci cz tr q1 H.size) ⟨va_cnB 0 ht (gi_code mC_X0_init) rfl rfl rfl (hK.2.1 _ _ _ _ mQ_X1_11) (ht _ mN_X0) (by decide +kernel) ⟨Nat.le_trans (Nat.le_of_ble_eq_true rfl) hfr, Nat.le_trans (Nat.le_of_ble_eq_true rfl) hlc⟩, rfl, ht _ mI_X0_init⟩ (gpre (av := .ref q1 :: []) (wc := [(q1, .inr (0, [.int (0 : Int32), .int (0 : Int32), .int (0 : Int32), .int (0 : Int32)]))]) hK hZ hP hD hS hA [1] rfl rfl) rfl rfl hl.1 rfl (lv_room (Nat.le_of_ble_eq_true rfl)) dX1_init_9 ⟨(Nat.le_trans (Nat.le_of_ble_eq_true rfl) hce), (Nat.le_trans (Nat.le_of_ble_eq_true rfl) hsl)⟩) hP hD hS hA [1] [0] rfl rfl (by decide) (by decide) (fun w9 H locs hw9 hP hD hS => ?_)
  obtain ⟨t9, hvm9, rfl⟩ := hw9
  have hP : va_P D vwCl [(q0, .inr (1, [.null, .null])), (q1, .inr (0, [.int (0 : Int32), .int (0 : Int32), .int (0 : Int32), .int (0 : Int32)]))] H := hP
  have hD : va_D A [(q0, .inr (1, [.null, .null])), (q1, .inr (0, [.int (0 : Int32), .int (0 : Int32), .int (0 : Int32), .int (0 : Int32)]))] := hD
  refine W.widen (k := 1) (n := 4) (Nat.le_of_ble_eq_true rfl) (Nat.le_of_ble_eq_true rfl) ?_
  refine va_putF (D := D) (ci := 1) (v := .ref q1) (ty := (.object "DogVotes$Ballot")) (C := RX1) (T := TX1) (N := 2) hx hb ht in_X1 tyX1 tyX1_ok nmX1 hown hK.1 hP hD hS 0 rfl rfl 0 (by decide) (ht _ mF_X1_12) (fun _ h9 => h9) rfl hin rfl (by decide +kernel) rfl rfl (Nat.le_of_ble_eq_true rfl) dX1_init_12 (fun H locs hP hD hS => ?_)
  have hP : va_P D vwCl [(q0, .inr (1, [.ref q1, .null])), (q1, .inr (0, [.int (0 : Int32), .int (0 : Int32), .int (0 : Int32), .int (0 : Int32)]))] H := hP
  have hD : va_D A [(q0, .inr (1, [.ref q1, .null])), (q1, .inr (0, [.int (0 : Int32), .int (0 : Int32), .int (0 : Int32), .int (0 : Int32)]))] := hD
  refine lv_aload_n hx hb dX1_init_15 rfl (lv_at hl 0 rfl) ?_
  refine lv_bipush (v := (19 : Int32)) hx hb dX1_init_16 (by decide) ?_
  refine g_newI hx hb (ht _ mA_int) hK hP hD hS hA (N := 19) (by decide) (by decide) (by decide) (Nat.le_trans (Nat.le_of_ble_eq_true rfl) hce) (Nat.le_trans (Nat.le_of_ble_eq_true rfl) hsl) dX1_init_18 (fun q2 H hP hD hS => ?_)
  have hP : va_P D vwCl [(q0, .inr (1, [.ref q1, .null])), (q1, .inr (0, [.int (0 : Int32), .int (0 : Int32), .int (0 : Int32), .int (0 : Int32)])), (q2, .inl (ci, 19, .inl (fun _ => 0)))] H := hP
  have hD : va_D A [(q0, .inr (1, [.ref q1, .null])), (q1, .inr (0, [.int (0 : Int32), .int (0 : Int32), .int (0 : Int32), .int (0 : Int32)])), (q2, .inl (ci, 19, .inl (fun _ => 0)))] := hD
  refine W.widen (k := 2) (n := 23) (Nat.le_of_ble_eq_true rfl) (Nat.le_of_ble_eq_true rfl) ?_
  refine va_putF (D := D) (ci := 1) (v := .ref q2) (ty := (.array .int)) (C := RX1) (T := TX1) (N := 2) hx hb ht in_X1 tyX1 tyX1_ok nmX1 hown hK.1 hP hD hS 0 rfl rfl 1 (by decide) (ht _ mF_X1_18) (fun _ h9 => h9) rfl hin rfl (by decide +kernel) rfl rfl (Nat.le_of_ble_eq_true rfl) dX1_init_20 (fun H locs hP hD hS => ?_)
  have hP : va_P D vwCl [(q0, .inr (1, [.ref q1, .ref q2])), (q1, .inr (0, [.int (0 : Int32), .int (0 : Int32), .int (0 : Int32), .int (0 : Int32)])), (q2, .inl (ci, 19, .inl (fun _ => 0)))] H := hP
  have hD : va_D A [(q0, .inr (1, [.ref q1, .ref q2])), (q1, .inr (0, [.int (0 : Int32), .int (0 : Int32), .int (0 : Int32), .int (0 : Int32)])), (q2, .inl (ci, 19, .inl (fun _ => 0)))] := hD
  exact hret _ H locs _ _ (fun _ _ => ⟨_, _, rfl⟩) hP hD hS dX1_init_23

set_option maxHeartbeats 4000000 in
set_option maxRecDepth 100000 in
theorem c_X6_init (l : Launch) (D : va_G) (ci cz : ClassId) (tr : List (ClassId × FieldType)) (q0 : Nat) (sz : Nat) : gMI l yX6_init cX6_init 1 1 20 1 7 D ci cz tr [(q0, .inr (5, [.int (0 : Int32), .null]))] sz [.ref q0] (gQI D [(q0, .inr (5, [.int (0 : Int32), .null]))] sz (fun w _ => ∃ q1 : Nat, w = [(q0, .inr (5, [.int (0 : Int32), .ref q1])), (q1, .inl (ci, 7, .inl (fun _ => 0)))])) := by
  refine gmet_I RX6 (by decide +kernel) rfl rfl (Nat.le_of_ble_eq_true rfl) ?_
  intro p e s m args below meth c A R Q C hin hfr hlc hce hsl hP hD hret ls hl
  obtain ⟨hx, hb, hml, hown, ht, hK, hZ, hA⟩ := C
  have hl : lv_has ls 1 [(0, .ref q0)] := hl
  refine g_in (fun H locs => W p l e R s m args below meth c H locs 0 0 Q (F0 m 0 ls [])) (fun H locs hS0 hP => ?_) hP (va_S.rf (A := A) (H0 := s.heap))
  have hS : va_S A s.heap H locs := hS0
  clear hS0
  refine lv_aload_n hx hb dX6_init_0 rfl (lv_at hl 0 rfl) ?_
  refine W.objInit hx hb hown (ht _ mM_X6_3) (ht _ mI_objinit) (ht _ mC_objinit) rfl (hl.1.trans hml.symm) rfl dX6_init_1 (Nat.le_trans (Nat.le_of_ble_eq_true rfl) hfr) (Nat.le_trans (Nat.le_of_ble_eq_true rfl) hlc) ?_
  refine W.eq (g2 := F0 m 4 ls []) rfl ?_
  refine lv_aload_n hx hb dX6_init_4 rfl (lv_at hl 0 rfl) ?_
  refine lv_bipush (v := (7 : Int32)) hx hb dX6_init_5 (by decide) ?_
  refine g_newI hx hb (ht _ mA_int) hK hP hD hS hA (N := 7) (by decide) (by decide) (by decide) (Nat.le_trans (Nat.le_of_ble_eq_true rfl) hce) (Nat.le_trans (Nat.le_of_ble_eq_true rfl) hsl) dX6_init_7 (fun q1 H hP hD hS => ?_)
  have hP : va_P D vwCl [(q0, .inr (5, [.int (0 : Int32), .null])), (q1, .inl (ci, 7, .inl (fun _ => 0)))] H := hP
  have hD : va_D A [(q0, .inr (5, [.int (0 : Int32), .null])), (q1, .inl (ci, 7, .inl (fun _ => 0)))] := hD
  refine W.widen (k := 1) (n := 7) (Nat.le_of_ble_eq_true rfl) (Nat.le_of_ble_eq_true rfl) ?_
  refine va_putF (D := D) (ci := 5) (v := .ref q1) (ty := (.array .int)) (C := RX6) (T := TX6) (N := 2) hx hb ht in_X6 tyX6 tyX6_ok nmX6 hown hK.1 hP hD hS 0 rfl rfl 1 (by decide) (ht _ mF_X6_9) (fun _ h9 => h9) rfl hin rfl (by decide +kernel) rfl rfl (Nat.le_of_ble_eq_true rfl) dX6_init_9 (fun H locs hP hD hS => ?_)
  have hP : va_P D vwCl [(q0, .inr (5, [.int (0 : Int32), .ref q1])), (q1, .inl (ci, 7, .inl (fun _ => 0)))] H := hP
  have hD : va_D A [(q0, .inr (5, [.int (0 : Int32), .ref q1])), (q1, .inl (ci, 7, .inl (fun _ => 0)))] := hD
  exact hret _ H locs _ _ (fun _ _ => ⟨_, rfl⟩) hP hD hS dX6_init_12

set_option maxHeartbeats 4000000 in
set_option maxRecDepth 100000 in
theorem c_X4_init (l : Launch) (D : va_G) (ci cz : ClassId) (tr : List (ClassId × FieldType)) (q0 : Nat) (sz : Nat) : gMI l yX4_init cX4_init 1 2 40 4 20 D ci cz tr [(q0, .inr (3, [.int (0 : Int32), .int (0 : Int32), .int (0 : Int32), .null, .null, .null]))] sz [.ref q0] (gQI D [(q0, .inr (3, [.int (0 : Int32), .int (0 : Int32), .int (0 : Int32), .null, .null, .null]))] sz (fun w _ => ∃ q1 q2 q3 q4 : Nat, w = [(q0, .inr (3, [.int (0 : Int32), .int (0 : Int32), .int (0 : Int32), .ref q1, .ref q2, .ref q4])), (q1, .inl (ci, 7, .inl (fun _ => 0))), (q2, .inr (5, [.int (0 : Int32), .ref q3])), (q3, .inl (ci, 7, .inl (fun _ => 0))), (q4, .inr (0, [.int (0 : Int32), .int (0 : Int32), .int (0 : Int32), .int (0 : Int32)]))])) := by
  refine gmet_I RX4 (by decide +kernel) rfl rfl (Nat.le_of_ble_eq_true rfl) ?_
  intro p e s m args below meth c A R Q C hin hfr hlc hce hsl hP hD hret ls hl
  obtain ⟨hx, hb, hml, hown, ht, hK, hZ, hA⟩ := C
  have hl : lv_has ls 1 [(0, .ref q0)] := hl
  refine g_in (fun H locs => W p l e R s m args below meth c H locs 0 0 Q (F0 m 0 ls [])) (fun H locs hS0 hP => ?_) hP (va_S.rf (A := A) (H0 := s.heap))
  have hS : va_S A s.heap H locs := hS0
  clear hS0
  refine lv_aload_n hx hb dX4_init_0 rfl (lv_at hl 0 rfl) ?_
  refine W.objInit hx hb hown (ht _ mM_X4_3) (ht _ mI_objinit) (ht _ mC_objinit) rfl (hl.1.trans hml.symm) rfl dX4_init_1 (Nat.le_trans (Nat.le_of_ble_eq_true rfl) hfr) (Nat.le_trans (Nat.le_of_ble_eq_true rfl) hlc) ?_
  refine W.eq (g2 := F0 m 4 ls []) rfl ?_
  refine lv_aload_n hx hb dX4_init_4 rfl (lv_at hl 0 rfl) ?_
  refine lv_bipush (v := (7 : Int32)) hx hb dX4_init_5 (by decide) ?_
  refine g_newI hx hb (ht _ mA_int) hK hP hD hS hA (N := 7) (by decide) (by decide) (by decide) (Nat.le_trans (Nat.le_of_ble_eq_true rfl) hce) (Nat.le_trans (Nat.le_of_ble_eq_true rfl) hsl) dX4_init_7 (fun q1 H hP hD hS => ?_)
  have hP : va_P D vwCl [(q0, .inr (3, [.int (0 : Int32), .int (0 : Int32), .int (0 : Int32), .null, .null, .null])), (q1, .inl (ci, 7, .inl (fun _ => 0)))] H := hP
  have hD : va_D A [(q0, .inr (3, [.int (0 : Int32), .int (0 : Int32), .int (0 : Int32), .null, .null, .null])), (q1, .inl (ci, 7, .inl (fun _ => 0)))] := hD
  refine W.widen (k := 1) (n := 7) (Nat.le_of_ble_eq_true rfl) (Nat.le_of_ble_eq_true rfl) ?_
  refine va_putF (D := D) (ci := 3) (v := .ref q1) (ty := (.array .int)) (C := RX4) (T := TX4) (N := 6) hx hb ht in_X4 tyX4 tyX4_ok nmX4 hown hK.1 hP hD hS 0 rfl rfl 3 (by decide) (ht _ mF_X4_9) (fun _ h9 => h9) rfl hin rfl (by decide +kernel) rfl rfl (Nat.le_of_ble_eq_true rfl) dX4_init_9 (fun H locs hP hD hS => ?_)
  have hP : va_P D vwCl [(q0, .inr (3, [.int (0 : Int32), .int (0 : Int32), .int (0 : Int32), .ref q1, .null, .null])), (q1, .inl (ci, 7, .inl (fun _ => 0)))] H := hP
  have hD : va_D A [(q0, .inr (3, [.int (0 : Int32), .int (0 : Int32), .int (0 : Int32), .ref q1, .null, .null])), (q1, .inl (ci, 7, .inl (fun _ => 0)))] := hD
  refine lv_aload_n hx hb dX4_init_12 rfl (lv_at hl 0 rfl) ?_
  refine va_new (D := D) (ci := 5) (fs := [.int (0 : Int32), .null]) (C := RX6) (T := TX6) (N := 2) hx hb ht in_X6 tyX6 tyX6_ok hown (ht _ mK_X4_15) (ht _ mB_X6) (ht _ mN_X6) hK.1 hP hD hS hA rfl (fun j hj => by rcases (show j = 0 ∨ j = 1 by omega) with rfl | rfl <;> rfl) (Nat.le_trans (Nat.le_of_ble_eq_true rfl) hce) (Nat.le_trans (Nat.le_of_ble_eq_true rfl) hsl) dX4_init_13 (fun q2 H hP hD hS => ?_)
  have hP : va_P D vwCl [(q0, .inr (3, [.int (0 : Int32), .int (0 : Int32), .int (0 : Int32), .ref q1, .null, .null])), (q1, .inl (ci, 7, .inl (fun _ => 0))), (q2, .inr (5, [.int (0 : Int32), .null]))] H := hP
  have hD : va_D A [(q0, .inr (3, [.int (0 : Int32), .int (0 : Int32), .int (0 : Int32), .ref q1, .null, .null])), (q1, .inl (ci, 7, .inl (fun _ => 0))), (q2, .inr (5, [.int (0 : Int32), .null]))] := hD
  refine W.widen (k := 2) (n := 9) (Nat.le_of_ble_eq_true rfl) (Nat.le_of_ble_eq_true rfl) ?_
  refine lv_dup hx hb dX4_init_16 rfl ?_
  refine gcallI (wr := [(q0, .inr (3, [.int (0 : Int32), .int (0 : Int32), .int (0 : Int32), .ref q1, .null, .null])), (q1, .inl (ci, 7, .inl (fun _ => 0)))]) (va_runIN (host := "DogVotes") (As := []) (rest := [.ref q2, .ref q0]) ⟨hx, hb, hml, hown, ht⟩ (c_X6_init l D ci cz tr q2 H.size) ⟨va_cnB 0 ht (gi_code mC_X6_init) rfl rfl rfl (hK.2.1 _ _ _ _ mQ_X4_17) (ht _ mN_X6) (by decide +kernel) ⟨Nat.le_trans (Nat.le_of_ble_eq_true rfl) hfr, Nat.le_trans (Nat.le_of_ble_eq_true rfl) hlc⟩, rfl, ht _ mI_X6_init⟩ (gpre (av := .ref q2 :: []) (wc := [(q2, .inr (5, [.int (0 : Int32), .null]))]) hK hZ hP hD hS hA [2] rfl rfl) rfl rfl hl.1 rfl (lv_room (Nat.le_of_ble_eq_true rfl)) dX4_init_17 ⟨(Nat.le_trans (Nat.le_of_ble_eq_true rfl) hce), (Nat.le_trans (Nat.le_of_ble_eq_true rfl) hsl)⟩) hP hD hS hA [2] [0, 1] rfl rfl (by decide) (by decide) (fun w9 H locs hw9 hP hD hS => ?_)
  obtain ⟨t9, hvm9, q3, rfl⟩ := hw9
  have hP : va_P D vwCl [(q0, .inr (3, [.int (0 : Int32), .int (0 : Int32), .int (0 : Int32), .ref q1, .null, .null])), (q1, .inl (ci, 7, .inl (fun _ => 0))), (q2, .inr (5, [.int (0 : Int32), .ref q3])), (q3, .inl (ci, 7, .inl (fun _ => 0)))] H := hP
  have hD : va_D A [(q0, .inr (3, [.int (0 : Int32), .int (0 : Int32), .int (0 : Int32), .ref q1, .null, .null])), (q1, .inl (ci, 7, .inl (fun _ => 0))), (q2, .inr (5, [.int (0 : Int32), .ref q3])), (q3, .inl (ci, 7, .inl (fun _ => 0)))] := hD
  refine W.widen (k := 3) (n := 16) (Nat.le_of_ble_eq_true rfl) (Nat.le_of_ble_eq_true rfl) ?_
  refine va_putF (D := D) (ci := 3) (v := .ref q2) (ty := (.object "DogVotes$Orders")) (C := RX4) (T := TX4) (N := 6) hx hb ht in_X4 tyX4 tyX4_ok nmX4 hown hK.1 hP hD hS 0 rfl rfl 4 (by decide) (ht _ mF_X4_18) (fun _ h9 => h9) rfl hin rfl (by decide +kernel) rfl rfl (Nat.le_of_ble_eq_true rfl) dX4_init_20 (fun H locs hP hD hS => ?_)
  have hP : va_P D vwCl [(q0, .inr (3, [.int (0 : Int32), .int (0 : Int32), .int (0 : Int32), .ref q1, .ref q2, .null])), (q1, .inl (ci, 7, .inl (fun _ => 0))), (q2, .inr (5, [.int (0 : Int32), .ref q3])), (q3, .inl (ci, 7, .inl (fun _ => 0)))] H := hP
  have hD : va_D A [(q0, .inr (3, [.int (0 : Int32), .int (0 : Int32), .int (0 : Int32), .ref q1, .ref q2, .null])), (q1, .inl (ci, 7, .inl (fun _ => 0))), (q2, .inr (5, [.int (0 : Int32), .ref q3])), (q3, .inl (ci, 7, .inl (fun _ => 0)))] := hD
  refine lv_aload_n hx hb dX4_init_23 rfl (lv_at hl 0 rfl) ?_
  refine va_new (D := D) (ci := 0) (fs := [.int (0 : Int32), .int (0 : Int32), .int (0 : Int32), .int (0 : Int32)]) (C := RX0) (T := TX0) (N := 4) hx hb ht in_X0 tyX0 tyX0_ok hown (ht _ mK_X4_22) (ht _ mB_X0) (ht _ mN_X0) hK.1 hP hD hS hA rfl (fun j hj => by rcases (show j = 0 ∨ j = 1 ∨ j = 2 ∨ j = 3 by omega) with rfl | rfl | rfl | rfl <;> rfl) (Nat.le_trans (Nat.le_of_ble_eq_true rfl) hce) (Nat.le_trans (Nat.le_of_ble_eq_true rfl) hsl) dX4_init_24 (fun q4 H hP hD hS => ?_)
  have hP : va_P D vwCl [(q0, .inr (3, [.int (0 : Int32), .int (0 : Int32), .int (0 : Int32), .ref q1, .ref q2, .null])), (q1, .inl (ci, 7, .inl (fun _ => 0))), (q2, .inr (5, [.int (0 : Int32), .ref q3])), (q3, .inl (ci, 7, .inl (fun _ => 0))), (q4, .inr (0, [.int (0 : Int32), .int (0 : Int32), .int (0 : Int32), .int (0 : Int32)]))] H := hP
  have hD : va_D A [(q0, .inr (3, [.int (0 : Int32), .int (0 : Int32), .int (0 : Int32), .ref q1, .ref q2, .null])), (q1, .inl (ci, 7, .inl (fun _ => 0))), (q2, .inr (5, [.int (0 : Int32), .ref q3])), (q3, .inl (ci, 7, .inl (fun _ => 0))), (q4, .inr (0, [.int (0 : Int32), .int (0 : Int32), .int (0 : Int32), .int (0 : Int32)]))] := hD
  refine W.widen (k := 4) (n := 20) (Nat.le_of_ble_eq_true rfl) (Nat.le_of_ble_eq_true rfl) ?_
  refine lv_dup hx hb dX4_init_27 rfl ?_
  refine gcallI (wr := [(q0, .inr (3, [.int (0 : Int32), .int (0 : Int32), .int (0 : Int32), .ref q1, .ref q2, .null])), (q1, .inl (ci, 7, .inl (fun _ => 0))), (q2, .inr (5, [.int (0 : Int32), .ref q3])), (q3, .inl (ci, 7, .inl (fun _ => 0)))]) (va_runIN (host := "DogVotes") (As := []) (rest := [.ref q4, .ref q0]) ⟨hx, hb, hml, hown, ht⟩ (c_X0_init l D ci cz tr q4 H.size) ⟨va_cnB 0 ht (gi_code mC_X0_init) rfl rfl rfl (hK.2.1 _ _ _ _ mQ_X4_24) (ht _ mN_X0) (by decide +kernel) ⟨Nat.le_trans (Nat.le_of_ble_eq_true rfl) hfr, Nat.le_trans (Nat.le_of_ble_eq_true rfl) hlc⟩, rfl, ht _ mI_X0_init⟩ (gpre (av := .ref q4 :: []) (wc := [(q4, .inr (0, [.int (0 : Int32), .int (0 : Int32), .int (0 : Int32), .int (0 : Int32)]))]) hK hZ hP hD hS hA [4] rfl rfl) rfl rfl hl.1 rfl (lv_room (Nat.le_of_ble_eq_true rfl)) dX4_init_28 ⟨(Nat.le_trans (Nat.le_of_ble_eq_true rfl) hce), (Nat.le_trans (Nat.le_of_ble_eq_true rfl) hsl)⟩) hP hD hS hA [4] [0, 1, 2, 3] rfl rfl (by decide) (by decide) (fun w9 H locs hw9 hP hD hS => ?_)
  obtain ⟨t9, hvm9, rfl⟩ := hw9
  have hP : va_P D vwCl [(q0, .inr (3, [.int (0 : Int32), .int (0 : Int32), .int (0 : Int32), .ref q1, .ref q2, .null])), (q1, .inl (ci, 7, .inl (fun _ => 0))), (q2, .inr (5, [.int (0 : Int32), .ref q3])), (q3, .inl (ci, 7, .inl (fun _ => 0))), (q4, .inr (0, [.int (0 : Int32), .int (0 : Int32), .int (0 : Int32), .int (0 : Int32)]))] H := hP
  have hD : va_D A [(q0, .inr (3, [.int (0 : Int32), .int (0 : Int32), .int (0 : Int32), .ref q1, .ref q2, .null])), (q1, .inl (ci, 7, .inl (fun _ => 0))), (q2, .inr (5, [.int (0 : Int32), .ref q3])), (q3, .inl (ci, 7, .inl (fun _ => 0))), (q4, .inr (0, [.int (0 : Int32), .int (0 : Int32), .int (0 : Int32), .int (0 : Int32)]))] := hD
  refine W.widen (k := 4) (n := 20) (Nat.le_of_ble_eq_true rfl) (Nat.le_of_ble_eq_true rfl) ?_
  refine va_putF (D := D) (ci := 3) (v := .ref q4) (ty := (.object "DogVotes$Ballot")) (C := RX4) (T := TX4) (N := 6) hx hb ht in_X4 tyX4 tyX4_ok nmX4 hown hK.1 hP hD hS 0 rfl rfl 5 (by decide) (ht _ mF_X4_25) (fun _ h9 => h9) rfl hin rfl (by decide +kernel) rfl rfl (Nat.le_of_ble_eq_true rfl) dX4_init_31 (fun H locs hP hD hS => ?_)
  have hP : va_P D vwCl [(q0, .inr (3, [.int (0 : Int32), .int (0 : Int32), .int (0 : Int32), .ref q1, .ref q2, .ref q4])), (q1, .inl (ci, 7, .inl (fun _ => 0))), (q2, .inr (5, [.int (0 : Int32), .ref q3])), (q3, .inl (ci, 7, .inl (fun _ => 0))), (q4, .inr (0, [.int (0 : Int32), .int (0 : Int32), .int (0 : Int32), .int (0 : Int32)]))] H := hP
  have hD : va_D A [(q0, .inr (3, [.int (0 : Int32), .int (0 : Int32), .int (0 : Int32), .ref q1, .ref q2, .ref q4])), (q1, .inl (ci, 7, .inl (fun _ => 0))), (q2, .inr (5, [.int (0 : Int32), .ref q3])), (q3, .inl (ci, 7, .inl (fun _ => 0))), (q4, .inr (0, [.int (0 : Int32), .int (0 : Int32), .int (0 : Int32), .int (0 : Int32)]))] := hD
  exact hret _ H locs _ _ (fun _ _ => ⟨_, _, _, _, rfl⟩) hP hD hS dX4_init_34

set_option maxHeartbeats 4000000 in
set_option maxRecDepth 100000 in
theorem c_X5_init (l : Launch) (D : va_G) (ci cz : ClassId) (tr : List (ClassId × FieldType)) (q0 : Nat) (sz : Nat) : gMI l yX5_init cX5_init 1 2 40 10 66 D ci cz tr [(q0, .inr (4, [.int (0 : Int32), .int (0 : Int32), .int (0 : Int32), .null, .null, .null, .null, .null, .null]))] sz [.ref q0] (gQI D [(q0, .inr (4, [.int (0 : Int32), .int (0 : Int32), .int (0 : Int32), .null, .null, .null, .null, .null, .null]))] sz (fun w _ => ∃ q1 q2 q3 q4 q5 q6 q7 q8 q9 q10 : Nat, w = [(q0, .inr (4, [.int (0 : Int32), .int (0 : Int32), .int (0 : Int32), .ref q1, .ref q2, .ref q3, .ref q4, .ref q5, .ref q10])), (q1, .inl (ci, 7, .inl (fun _ => 0))), (q2, .inl (ci, 7, .inl (fun _ => 0))), (q3, .inl (ci, 7, .inl (fun _ => 0))), (q4, .inl (ci, 7, .inl (fun _ => 0))), (q5, .inr (8, [.int (0 : Int32), .int (0 : Int32), .ref q6, .ref q7, .ref q8, .ref q9])), (q6, .inl (ci, 7, .inl (fun _ => 0))), (q7, .inl (ci, 7, .inl (fun _ => 0))), (q8, .inl (ci, 7, .inl (fun _ => 0))), (q9, .inl (ci, 7, .inl (fun _ => 0))), (q10, .inr (0, [.int (0 : Int32), .int (0 : Int32), .int (0 : Int32), .int (0 : Int32)]))])) := by
  refine gmet_I RX5 (by decide +kernel) rfl rfl (Nat.le_of_ble_eq_true rfl) ?_
  intro p e s m args below meth c A R Q C hin hfr hlc hce hsl hP hD hret ls hl
  obtain ⟨hx, hb, hml, hown, ht, hK, hZ, hA⟩ := C
  have hl : lv_has ls 1 [(0, .ref q0)] := hl
  refine g_in (fun H locs => W p l e R s m args below meth c H locs 0 0 Q (F0 m 0 ls [])) (fun H locs hS0 hP => ?_) hP (va_S.rf (A := A) (H0 := s.heap))
  have hS : va_S A s.heap H locs := hS0
  clear hS0
  refine lv_aload_n hx hb dX5_init_0 rfl (lv_at hl 0 rfl) ?_
  refine W.objInit hx hb hown (ht _ mM_X5_3) (ht _ mI_objinit) (ht _ mC_objinit) rfl (hl.1.trans hml.symm) rfl dX5_init_1 (Nat.le_trans (Nat.le_of_ble_eq_true rfl) hfr) (Nat.le_trans (Nat.le_of_ble_eq_true rfl) hlc) ?_
  refine W.eq (g2 := F0 m 4 ls []) rfl ?_
  refine lv_aload_n hx hb dX5_init_4 rfl (lv_at hl 0 rfl) ?_
  refine lv_bipush (v := (7 : Int32)) hx hb dX5_init_5 (by decide) ?_
  refine g_newI hx hb (ht _ mA_int) hK hP hD hS hA (N := 7) (by decide) (by decide) (by decide) (Nat.le_trans (Nat.le_of_ble_eq_true rfl) hce) (Nat.le_trans (Nat.le_of_ble_eq_true rfl) hsl) dX5_init_7 (fun q1 H hP hD hS => ?_)
  have hP : va_P D vwCl [(q0, .inr (4, [.int (0 : Int32), .int (0 : Int32), .int (0 : Int32), .null, .null, .null, .null, .null, .null])), (q1, .inl (ci, 7, .inl (fun _ => 0)))] H := hP
  have hD : va_D A [(q0, .inr (4, [.int (0 : Int32), .int (0 : Int32), .int (0 : Int32), .null, .null, .null, .null, .null, .null])), (q1, .inl (ci, 7, .inl (fun _ => 0)))] := hD
  refine W.widen (k := 1) (n := 7) (Nat.le_of_ble_eq_true rfl) (Nat.le_of_ble_eq_true rfl) ?_
  refine va_putF (D := D) (ci := 4) (v := .ref q1) (ty := (.array .int)) (C := RX5) (T := TX5) (N := 9) hx hb ht in_X5 tyX5 tyX5_ok nmX5 hown hK.1 hP hD hS 0 rfl rfl 3 (by decide) (ht _ mF_X5_9) (fun _ h9 => h9) rfl hin rfl (by decide +kernel) rfl rfl (Nat.le_of_ble_eq_true rfl) dX5_init_9 (fun H locs hP hD hS => ?_)
  have hP : va_P D vwCl [(q0, .inr (4, [.int (0 : Int32), .int (0 : Int32), .int (0 : Int32), .ref q1, .null, .null, .null, .null, .null])), (q1, .inl (ci, 7, .inl (fun _ => 0)))] H := hP
  have hD : va_D A [(q0, .inr (4, [.int (0 : Int32), .int (0 : Int32), .int (0 : Int32), .ref q1, .null, .null, .null, .null, .null])), (q1, .inl (ci, 7, .inl (fun _ => 0)))] := hD
  refine lv_aload_n hx hb dX5_init_12 rfl (lv_at hl 0 rfl) ?_
  refine lv_bipush (v := (7 : Int32)) hx hb dX5_init_13 (by decide) ?_
  refine g_newI hx hb (ht _ mA_int) hK hP hD hS hA (N := 7) (by decide) (by decide) (by decide) (Nat.le_trans (Nat.le_of_ble_eq_true rfl) hce) (Nat.le_trans (Nat.le_of_ble_eq_true rfl) hsl) dX5_init_15 (fun q2 H hP hD hS => ?_)
  have hP : va_P D vwCl [(q0, .inr (4, [.int (0 : Int32), .int (0 : Int32), .int (0 : Int32), .ref q1, .null, .null, .null, .null, .null])), (q1, .inl (ci, 7, .inl (fun _ => 0))), (q2, .inl (ci, 7, .inl (fun _ => 0)))] H := hP
  have hD : va_D A [(q0, .inr (4, [.int (0 : Int32), .int (0 : Int32), .int (0 : Int32), .ref q1, .null, .null, .null, .null, .null])), (q1, .inl (ci, 7, .inl (fun _ => 0))), (q2, .inl (ci, 7, .inl (fun _ => 0)))] := hD
  refine W.widen (k := 2) (n := 14) (Nat.le_of_ble_eq_true rfl) (Nat.le_of_ble_eq_true rfl) ?_
  refine va_putF (D := D) (ci := 4) (v := .ref q2) (ty := (.array .int)) (C := RX5) (T := TX5) (N := 9) hx hb ht in_X5 tyX5 tyX5_ok nmX5 hown hK.1 hP hD hS 0 rfl rfl 4 (by decide) (ht _ mF_X5_15) (fun _ h9 => h9) rfl hin rfl (by decide +kernel) rfl rfl (Nat.le_of_ble_eq_true rfl) dX5_init_17 (fun H locs hP hD hS => ?_)
  have hP : va_P D vwCl [(q0, .inr (4, [.int (0 : Int32), .int (0 : Int32), .int (0 : Int32), .ref q1, .ref q2, .null, .null, .null, .null])), (q1, .inl (ci, 7, .inl (fun _ => 0))), (q2, .inl (ci, 7, .inl (fun _ => 0)))] H := hP
  have hD : va_D A [(q0, .inr (4, [.int (0 : Int32), .int (0 : Int32), .int (0 : Int32), .ref q1, .ref q2, .null, .null, .null, .null])), (q1, .inl (ci, 7, .inl (fun _ => 0))), (q2, .inl (ci, 7, .inl (fun _ => 0)))] := hD
  refine lv_aload_n hx hb dX5_init_20 rfl (lv_at hl 0 rfl) ?_
  refine lv_bipush (v := (7 : Int32)) hx hb dX5_init_21 (by decide) ?_
  refine g_newI hx hb (ht _ mA_int) hK hP hD hS hA (N := 7) (by decide) (by decide) (by decide) (Nat.le_trans (Nat.le_of_ble_eq_true rfl) hce) (Nat.le_trans (Nat.le_of_ble_eq_true rfl) hsl) dX5_init_23 (fun q3 H hP hD hS => ?_)
  have hP : va_P D vwCl [(q0, .inr (4, [.int (0 : Int32), .int (0 : Int32), .int (0 : Int32), .ref q1, .ref q2, .null, .null, .null, .null])), (q1, .inl (ci, 7, .inl (fun _ => 0))), (q2, .inl (ci, 7, .inl (fun _ => 0))), (q3, .inl (ci, 7, .inl (fun _ => 0)))] H := hP
  have hD : va_D A [(q0, .inr (4, [.int (0 : Int32), .int (0 : Int32), .int (0 : Int32), .ref q1, .ref q2, .null, .null, .null, .null])), (q1, .inl (ci, 7, .inl (fun _ => 0))), (q2, .inl (ci, 7, .inl (fun _ => 0))), (q3, .inl (ci, 7, .inl (fun _ => 0)))] := hD
  refine W.widen (k := 3) (n := 21) (Nat.le_of_ble_eq_true rfl) (Nat.le_of_ble_eq_true rfl) ?_
  refine va_putF (D := D) (ci := 4) (v := .ref q3) (ty := (.array .int)) (C := RX5) (T := TX5) (N := 9) hx hb ht in_X5 tyX5 tyX5_ok nmX5 hown hK.1 hP hD hS 0 rfl rfl 5 (by decide) (ht _ mF_X5_18) (fun _ h9 => h9) rfl hin rfl (by decide +kernel) rfl rfl (Nat.le_of_ble_eq_true rfl) dX5_init_25 (fun H locs hP hD hS => ?_)
  have hP : va_P D vwCl [(q0, .inr (4, [.int (0 : Int32), .int (0 : Int32), .int (0 : Int32), .ref q1, .ref q2, .ref q3, .null, .null, .null])), (q1, .inl (ci, 7, .inl (fun _ => 0))), (q2, .inl (ci, 7, .inl (fun _ => 0))), (q3, .inl (ci, 7, .inl (fun _ => 0)))] H := hP
  have hD : va_D A [(q0, .inr (4, [.int (0 : Int32), .int (0 : Int32), .int (0 : Int32), .ref q1, .ref q2, .ref q3, .null, .null, .null])), (q1, .inl (ci, 7, .inl (fun _ => 0))), (q2, .inl (ci, 7, .inl (fun _ => 0))), (q3, .inl (ci, 7, .inl (fun _ => 0)))] := hD
  refine lv_aload_n hx hb dX5_init_28 rfl (lv_at hl 0 rfl) ?_
  refine lv_bipush (v := (7 : Int32)) hx hb dX5_init_29 (by decide) ?_
  refine g_newI hx hb (ht _ mA_int) hK hP hD hS hA (N := 7) (by decide) (by decide) (by decide) (Nat.le_trans (Nat.le_of_ble_eq_true rfl) hce) (Nat.le_trans (Nat.le_of_ble_eq_true rfl) hsl) dX5_init_31 (fun q4 H hP hD hS => ?_)
  have hP : va_P D vwCl [(q0, .inr (4, [.int (0 : Int32), .int (0 : Int32), .int (0 : Int32), .ref q1, .ref q2, .ref q3, .null, .null, .null])), (q1, .inl (ci, 7, .inl (fun _ => 0))), (q2, .inl (ci, 7, .inl (fun _ => 0))), (q3, .inl (ci, 7, .inl (fun _ => 0))), (q4, .inl (ci, 7, .inl (fun _ => 0)))] H := hP
  have hD : va_D A [(q0, .inr (4, [.int (0 : Int32), .int (0 : Int32), .int (0 : Int32), .ref q1, .ref q2, .ref q3, .null, .null, .null])), (q1, .inl (ci, 7, .inl (fun _ => 0))), (q2, .inl (ci, 7, .inl (fun _ => 0))), (q3, .inl (ci, 7, .inl (fun _ => 0))), (q4, .inl (ci, 7, .inl (fun _ => 0)))] := hD
  refine W.widen (k := 4) (n := 28) (Nat.le_of_ble_eq_true rfl) (Nat.le_of_ble_eq_true rfl) ?_
  refine va_putF (D := D) (ci := 4) (v := .ref q4) (ty := (.array .int)) (C := RX5) (T := TX5) (N := 9) hx hb ht in_X5 tyX5 tyX5_ok nmX5 hown hK.1 hP hD hS 0 rfl rfl 6 (by decide) (ht _ mF_X5_21) (fun _ h9 => h9) rfl hin rfl (by decide +kernel) rfl rfl (Nat.le_of_ble_eq_true rfl) dX5_init_33 (fun H locs hP hD hS => ?_)
  have hP : va_P D vwCl [(q0, .inr (4, [.int (0 : Int32), .int (0 : Int32), .int (0 : Int32), .ref q1, .ref q2, .ref q3, .ref q4, .null, .null])), (q1, .inl (ci, 7, .inl (fun _ => 0))), (q2, .inl (ci, 7, .inl (fun _ => 0))), (q3, .inl (ci, 7, .inl (fun _ => 0))), (q4, .inl (ci, 7, .inl (fun _ => 0)))] H := hP
  have hD : va_D A [(q0, .inr (4, [.int (0 : Int32), .int (0 : Int32), .int (0 : Int32), .ref q1, .ref q2, .ref q3, .ref q4, .null, .null])), (q1, .inl (ci, 7, .inl (fun _ => 0))), (q2, .inl (ci, 7, .inl (fun _ => 0))), (q3, .inl (ci, 7, .inl (fun _ => 0))), (q4, .inl (ci, 7, .inl (fun _ => 0)))] := hD
  refine lv_aload_n hx hb dX5_init_36 rfl (lv_at hl 0 rfl) ?_
  refine va_new (D := D) (ci := 8) (fs := [.int (0 : Int32), .int (0 : Int32), .null, .null, .null, .null]) (C := RX9) (T := TX9) (N := 6) hx hb ht in_X9 tyX9 tyX9_ok hown (ht _ mK_X5_24) (ht _ mB_X9) (ht _ mN_X9) hK.1 hP hD hS hA rfl (fun j hj => by rcases (show j = 0 ∨ j = 1 ∨ j = 2 ∨ j = 3 ∨ j = 4 ∨ j = 5 by omega) with rfl | rfl | rfl | rfl | rfl | rfl <;> rfl) (Nat.le_trans (Nat.le_of_ble_eq_true rfl) hce) (Nat.le_trans (Nat.le_of_ble_eq_true rfl) hsl) dX5_init_37 (fun q5 H hP hD hS => ?_)
  have hP : va_P D vwCl [(q0, .inr (4, [.int (0 : Int32), .int (0 : Int32), .int (0 : Int32), .ref q1, .ref q2, .ref q3, .ref q4, .null, .null])), (q1, .inl (ci, 7, .inl (fun _ => 0))), (q2, .inl (ci, 7, .inl (fun _ => 0))), (q3, .inl (ci, 7, .inl (fun _ => 0))), (q4, .inl (ci, 7, .inl (fun _ => 0))), (q5, .inr (8, [.int (0 : Int32), .int (0 : Int32), .null, .null, .null, .null]))] H := hP
  have hD : va_D A [(q0, .inr (4, [.int (0 : Int32), .int (0 : Int32), .int (0 : Int32), .ref q1, .ref q2, .ref q3, .ref q4, .null, .null])), (q1, .inl (ci, 7, .inl (fun _ => 0))), (q2, .inl (ci, 7, .inl (fun _ => 0))), (q3, .inl (ci, 7, .inl (fun _ => 0))), (q4, .inl (ci, 7, .inl (fun _ => 0))), (q5, .inr (8, [.int (0 : Int32), .int (0 : Int32), .null, .null, .null, .null]))] := hD
  refine W.widen (k := 5) (n := 34) (Nat.le_of_ble_eq_true rfl) (Nat.le_of_ble_eq_true rfl) ?_
  refine lv_dup hx hb dX5_init_40 rfl ?_
  refine gcallI (wr := [(q0, .inr (4, [.int (0 : Int32), .int (0 : Int32), .int (0 : Int32), .ref q1, .ref q2, .ref q3, .ref q4, .null, .null])), (q1, .inl (ci, 7, .inl (fun _ => 0))), (q2, .inl (ci, 7, .inl (fun _ => 0))), (q3, .inl (ci, 7, .inl (fun _ => 0))), (q4, .inl (ci, 7, .inl (fun _ => 0)))]) (va_runIN (host := "DogVotes") (As := []) (rest := [.ref q5, .ref q0]) ⟨hx, hb, hml, hown, ht⟩ (c_X9_init l D ci cz tr q5 H.size) ⟨va_cnB 0 ht (gi_code mC_X9_init) rfl rfl rfl (hK.2.1 _ _ _ _ mQ_X5_26) (ht _ mN_X9) (by decide +kernel) ⟨Nat.le_trans (Nat.le_of_ble_eq_true rfl) hfr, Nat.le_trans (Nat.le_of_ble_eq_true rfl) hlc⟩, rfl, ht _ mI_X9_init⟩ (gpre (av := .ref q5 :: []) (wc := [(q5, .inr (8, [.int (0 : Int32), .int (0 : Int32), .null, .null, .null, .null]))]) hK hZ hP hD hS hA [5] rfl rfl) rfl rfl hl.1 rfl (lv_room (Nat.le_of_ble_eq_true rfl)) dX5_init_41 ⟨(Nat.le_trans (Nat.le_of_ble_eq_true rfl) hce), (Nat.le_trans (Nat.le_of_ble_eq_true rfl) hsl)⟩) hP hD hS hA [5] [0, 1, 2, 3, 4] rfl rfl (by decide) (by decide) (fun w9 H locs hw9 hP hD hS => ?_)
  obtain ⟨t9, hvm9, q6, q7, q8, q9, rfl⟩ := hw9
  have hP : va_P D vwCl [(q0, .inr (4, [.int (0 : Int32), .int (0 : Int32), .int (0 : Int32), .ref q1, .ref q2, .ref q3, .ref q4, .null, .null])), (q1, .inl (ci, 7, .inl (fun _ => 0))), (q2, .inl (ci, 7, .inl (fun _ => 0))), (q3, .inl (ci, 7, .inl (fun _ => 0))), (q4, .inl (ci, 7, .inl (fun _ => 0))), (q5, .inr (8, [.int (0 : Int32), .int (0 : Int32), .ref q6, .ref q7, .ref q8, .ref q9])), (q6, .inl (ci, 7, .inl (fun _ => 0))), (q7, .inl (ci, 7, .inl (fun _ => 0))), (q8, .inl (ci, 7, .inl (fun _ => 0))), (q9, .inl (ci, 7, .inl (fun _ => 0)))] H := hP
  have hD : va_D A [(q0, .inr (4, [.int (0 : Int32), .int (0 : Int32), .int (0 : Int32), .ref q1, .ref q2, .ref q3, .ref q4, .null, .null])), (q1, .inl (ci, 7, .inl (fun _ => 0))), (q2, .inl (ci, 7, .inl (fun _ => 0))), (q3, .inl (ci, 7, .inl (fun _ => 0))), (q4, .inl (ci, 7, .inl (fun _ => 0))), (q5, .inr (8, [.int (0 : Int32), .int (0 : Int32), .ref q6, .ref q7, .ref q8, .ref q9])), (q6, .inl (ci, 7, .inl (fun _ => 0))), (q7, .inl (ci, 7, .inl (fun _ => 0))), (q8, .inl (ci, 7, .inl (fun _ => 0))), (q9, .inl (ci, 7, .inl (fun _ => 0)))] := hD
  refine W.widen (k := 9) (n := 62) (Nat.le_of_ble_eq_true rfl) (Nat.le_of_ble_eq_true rfl) ?_
  refine va_putF (D := D) (ci := 4) (v := .ref q5) (ty := (.object "DogVotes$Roll")) (C := RX5) (T := TX5) (N := 9) hx hb ht in_X5 tyX5 tyX5_ok nmX5 hown hK.1 hP hD hS 0 rfl rfl 7 (by decide) (ht _ mF_X5_27) (fun _ h9 => h9) rfl hin rfl (by decide +kernel) rfl rfl (Nat.le_of_ble_eq_true rfl) dX5_init_44 (fun H locs hP hD hS => ?_)
  have hP : va_P D vwCl [(q0, .inr (4, [.int (0 : Int32), .int (0 : Int32), .int (0 : Int32), .ref q1, .ref q2, .ref q3, .ref q4, .ref q5, .null])), (q1, .inl (ci, 7, .inl (fun _ => 0))), (q2, .inl (ci, 7, .inl (fun _ => 0))), (q3, .inl (ci, 7, .inl (fun _ => 0))), (q4, .inl (ci, 7, .inl (fun _ => 0))), (q5, .inr (8, [.int (0 : Int32), .int (0 : Int32), .ref q6, .ref q7, .ref q8, .ref q9])), (q6, .inl (ci, 7, .inl (fun _ => 0))), (q7, .inl (ci, 7, .inl (fun _ => 0))), (q8, .inl (ci, 7, .inl (fun _ => 0))), (q9, .inl (ci, 7, .inl (fun _ => 0)))] H := hP
  have hD : va_D A [(q0, .inr (4, [.int (0 : Int32), .int (0 : Int32), .int (0 : Int32), .ref q1, .ref q2, .ref q3, .ref q4, .ref q5, .null])), (q1, .inl (ci, 7, .inl (fun _ => 0))), (q2, .inl (ci, 7, .inl (fun _ => 0))), (q3, .inl (ci, 7, .inl (fun _ => 0))), (q4, .inl (ci, 7, .inl (fun _ => 0))), (q5, .inr (8, [.int (0 : Int32), .int (0 : Int32), .ref q6, .ref q7, .ref q8, .ref q9])), (q6, .inl (ci, 7, .inl (fun _ => 0))), (q7, .inl (ci, 7, .inl (fun _ => 0))), (q8, .inl (ci, 7, .inl (fun _ => 0))), (q9, .inl (ci, 7, .inl (fun _ => 0)))] := hD
  refine lv_aload_n hx hb dX5_init_47 rfl (lv_at hl 0 rfl) ?_
  refine va_new (D := D) (ci := 0) (fs := [.int (0 : Int32), .int (0 : Int32), .int (0 : Int32), .int (0 : Int32)]) (C := RX0) (T := TX0) (N := 4) hx hb ht in_X0 tyX0 tyX0_ok hown (ht _ mK_X5_31) (ht _ mB_X0) (ht _ mN_X0) hK.1 hP hD hS hA rfl (fun j hj => by rcases (show j = 0 ∨ j = 1 ∨ j = 2 ∨ j = 3 by omega) with rfl | rfl | rfl | rfl <;> rfl) (Nat.le_trans (Nat.le_of_ble_eq_true rfl) hce) (Nat.le_trans (Nat.le_of_ble_eq_true rfl) hsl) dX5_init_48 (fun q10 H hP hD hS => ?_)
  have hP : va_P D vwCl [(q0, .inr (4, [.int (0 : Int32), .int (0 : Int32), .int (0 : Int32), .ref q1, .ref q2, .ref q3, .ref q4, .ref q5, .null])), (q1, .inl (ci, 7, .inl (fun _ => 0))), (q2, .inl (ci, 7, .inl (fun _ => 0))), (q3, .inl (ci, 7, .inl (fun _ => 0))), (q4, .inl (ci, 7, .inl (fun _ => 0))), (q5, .inr (8, [.int (0 : Int32), .int (0 : Int32), .ref q6, .ref q7, .ref q8, .ref q9])), (q6, .inl (ci, 7, .inl (fun _ => 0))), (q7, .inl (ci, 7, .inl (fun _ => 0))), (q8, .inl (ci, 7, .inl (fun _ => 0))), (q9, .inl (ci, 7, .inl (fun _ => 0))), (q10, .inr (0, [.int (0 : Int32), .int (0 : Int32), .int (0 : Int32), .int (0 : Int32)]))] H := hP
  have hD : va_D A [(q0, .inr (4, [.int (0 : Int32), .int (0 : Int32), .int (0 : Int32), .ref q1, .ref q2, .ref q3, .ref q4, .ref q5, .null])), (q1, .inl (ci, 7, .inl (fun _ => 0))), (q2, .inl (ci, 7, .inl (fun _ => 0))), (q3, .inl (ci, 7, .inl (fun _ => 0))), (q4, .inl (ci, 7, .inl (fun _ => 0))), (q5, .inr (8, [.int (0 : Int32), .int (0 : Int32), .ref q6, .ref q7, .ref q8, .ref q9])), (q6, .inl (ci, 7, .inl (fun _ => 0))), (q7, .inl (ci, 7, .inl (fun _ => 0))), (q8, .inl (ci, 7, .inl (fun _ => 0))), (q9, .inl (ci, 7, .inl (fun _ => 0))), (q10, .inr (0, [.int (0 : Int32), .int (0 : Int32), .int (0 : Int32), .int (0 : Int32)]))] := hD
  refine W.widen (k := 10) (n := 66) (Nat.le_of_ble_eq_true rfl) (Nat.le_of_ble_eq_true rfl) ?_
  refine lv_dup hx hb dX5_init_51 rfl ?_
  refine gcallI (wr := [(q0, .inr (4, [.int (0 : Int32), .int (0 : Int32), .int (0 : Int32), .ref q1, .ref q2, .ref q3, .ref q4, .ref q5, .null])), (q1, .inl (ci, 7, .inl (fun _ => 0))), (q2, .inl (ci, 7, .inl (fun _ => 0))), (q3, .inl (ci, 7, .inl (fun _ => 0))), (q4, .inl (ci, 7, .inl (fun _ => 0))), (q5, .inr (8, [.int (0 : Int32), .int (0 : Int32), .ref q6, .ref q7, .ref q8, .ref q9])), (q6, .inl (ci, 7, .inl (fun _ => 0))), (q7, .inl (ci, 7, .inl (fun _ => 0))), (q8, .inl (ci, 7, .inl (fun _ => 0))), (q9, .inl (ci, 7, .inl (fun _ => 0)))]) (va_runIN (host := "DogVotes") (As := []) (rest := [.ref q10, .ref q0]) ⟨hx, hb, hml, hown, ht⟩ (c_X0_init l D ci cz tr q10 H.size) ⟨va_cnB 0 ht (gi_code mC_X0_init) rfl rfl rfl (hK.2.1 _ _ _ _ mQ_X5_33) (ht _ mN_X0) (by decide +kernel) ⟨Nat.le_trans (Nat.le_of_ble_eq_true rfl) hfr, Nat.le_trans (Nat.le_of_ble_eq_true rfl) hlc⟩, rfl, ht _ mI_X0_init⟩ (gpre (av := .ref q10 :: []) (wc := [(q10, .inr (0, [.int (0 : Int32), .int (0 : Int32), .int (0 : Int32), .int (0 : Int32)]))]) hK hZ hP hD hS hA [10] rfl rfl) rfl rfl hl.1 rfl (lv_room (Nat.le_of_ble_eq_true rfl)) dX5_init_52 ⟨(Nat.le_trans (Nat.le_of_ble_eq_true rfl) hce), (Nat.le_trans (Nat.le_of_ble_eq_true rfl) hsl)⟩) hP hD hS hA [10] [0, 1, 2, 3, 4, 5, 6, 7, 8, 9] rfl rfl (by decide) (by decide) (fun w9 H locs hw9 hP hD hS => ?_)
  obtain ⟨t9, hvm9, rfl⟩ := hw9
  have hP : va_P D vwCl [(q0, .inr (4, [.int (0 : Int32), .int (0 : Int32), .int (0 : Int32), .ref q1, .ref q2, .ref q3, .ref q4, .ref q5, .null])), (q1, .inl (ci, 7, .inl (fun _ => 0))), (q2, .inl (ci, 7, .inl (fun _ => 0))), (q3, .inl (ci, 7, .inl (fun _ => 0))), (q4, .inl (ci, 7, .inl (fun _ => 0))), (q5, .inr (8, [.int (0 : Int32), .int (0 : Int32), .ref q6, .ref q7, .ref q8, .ref q9])), (q6, .inl (ci, 7, .inl (fun _ => 0))), (q7, .inl (ci, 7, .inl (fun _ => 0))), (q8, .inl (ci, 7, .inl (fun _ => 0))), (q9, .inl (ci, 7, .inl (fun _ => 0))), (q10, .inr (0, [.int (0 : Int32), .int (0 : Int32), .int (0 : Int32), .int (0 : Int32)]))] H := hP
  have hD : va_D A [(q0, .inr (4, [.int (0 : Int32), .int (0 : Int32), .int (0 : Int32), .ref q1, .ref q2, .ref q3, .ref q4, .ref q5, .null])), (q1, .inl (ci, 7, .inl (fun _ => 0))), (q2, .inl (ci, 7, .inl (fun _ => 0))), (q3, .inl (ci, 7, .inl (fun _ => 0))), (q4, .inl (ci, 7, .inl (fun _ => 0))), (q5, .inr (8, [.int (0 : Int32), .int (0 : Int32), .ref q6, .ref q7, .ref q8, .ref q9])), (q6, .inl (ci, 7, .inl (fun _ => 0))), (q7, .inl (ci, 7, .inl (fun _ => 0))), (q8, .inl (ci, 7, .inl (fun _ => 0))), (q9, .inl (ci, 7, .inl (fun _ => 0))), (q10, .inr (0, [.int (0 : Int32), .int (0 : Int32), .int (0 : Int32), .int (0 : Int32)]))] := hD
  refine W.widen (k := 10) (n := 66) (Nat.le_of_ble_eq_true rfl) (Nat.le_of_ble_eq_true rfl) ?_
  refine va_putF (D := D) (ci := 4) (v := .ref q10) (ty := (.object "DogVotes$Ballot")) (C := RX5) (T := TX5) (N := 9) hx hb ht in_X5 tyX5 tyX5_ok nmX5 hown hK.1 hP hD hS 0 rfl rfl 8 (by decide) (ht _ mF_X5_34) (fun _ h9 => h9) rfl hin rfl (by decide +kernel) rfl rfl (Nat.le_of_ble_eq_true rfl) dX5_init_55 (fun H locs hP hD hS => ?_)
  have hP : va_P D vwCl [(q0, .inr (4, [.int (0 : Int32), .int (0 : Int32), .int (0 : Int32), .ref q1, .ref q2, .ref q3, .ref q4, .ref q5, .ref q10])), (q1, .inl (ci, 7, .inl (fun _ => 0))), (q2, .inl (ci, 7, .inl (fun _ => 0))), (q3, .inl (ci, 7, .inl (fun _ => 0))), (q4, .inl (ci, 7, .inl (fun _ => 0))), (q5, .inr (8, [.int (0 : Int32), .int (0 : Int32), .ref q6, .ref q7, .ref q8, .ref q9])), (q6, .inl (ci, 7, .inl (fun _ => 0))), (q7, .inl (ci, 7, .inl (fun _ => 0))), (q8, .inl (ci, 7, .inl (fun _ => 0))), (q9, .inl (ci, 7, .inl (fun _ => 0))), (q10, .inr (0, [.int (0 : Int32), .int (0 : Int32), .int (0 : Int32), .int (0 : Int32)]))] H := hP
  have hD : va_D A [(q0, .inr (4, [.int (0 : Int32), .int (0 : Int32), .int (0 : Int32), .ref q1, .ref q2, .ref q3, .ref q4, .ref q5, .ref q10])), (q1, .inl (ci, 7, .inl (fun _ => 0))), (q2, .inl (ci, 7, .inl (fun _ => 0))), (q3, .inl (ci, 7, .inl (fun _ => 0))), (q4, .inl (ci, 7, .inl (fun _ => 0))), (q5, .inr (8, [.int (0 : Int32), .int (0 : Int32), .ref q6, .ref q7, .ref q8, .ref q9])), (q6, .inl (ci, 7, .inl (fun _ => 0))), (q7, .inl (ci, 7, .inl (fun _ => 0))), (q8, .inl (ci, 7, .inl (fun _ => 0))), (q9, .inl (ci, 7, .inl (fun _ => 0))), (q10, .inr (0, [.int (0 : Int32), .int (0 : Int32), .int (0 : Int32), .int (0 : Int32)]))] := hD
  exact hret _ H locs _ _ (fun _ _ => ⟨_, _, _, _, _, _, _, _, _, _, rfl⟩) hP hD hS dX5_init_58

set_option maxHeartbeats 4000000 in
set_option maxRecDepth 100000 in
theorem c_X3_init (l : Launch) (D : va_G) (ci cz : ClassId) (tr : List (ClassId × FieldType)) (q0 : Nat) (sz : Nat) : gMI l yX3_init cX3_init 1 2 40 5 27 D ci cz tr [(q0, .inr (2, [.int (0 : Int32), .int (0 : Int32), .null, .null, .null, .null, .int (0 : Int32)]))] sz [.ref q0] (gQI D [(q0, .inr (2, [.int (0 : Int32), .int (0 : Int32), .null, .null, .null, .null, .int (0 : Int32)]))] sz (fun w _ => ∃ q1 q2 q3 q4 q5 : Nat, w = [(q0, .inr (2, [.int (0 : Int32), .int (0 : Int32), .ref q1, .ref q2, .ref q4, .ref q5, .int (0 : Int32)])), (q1, .inl (ci, 7, .inl (fun _ => 0))), (q2, .inr (5, [.int (0 : Int32), .ref q3])), (q3, .inl (ci, 7, .inl (fun _ => 0))), (q4, .inr (0, [.int (0 : Int32), .int (0 : Int32), .int (0 : Int32), .int (0 : Int32)])), (q5, .inl (ci, 7, .inl (fun _ => 0)))])) := by
  refine gmet_I RX3 (by decide +kernel) rfl rfl (Nat.le_of_ble_eq_true rfl) ?_
  intro p e s m args below meth c A R Q C hin hfr hlc hce hsl hP hD hret ls hl
  obtain ⟨hx, hb, hml, hown, ht, hK, hZ, hA⟩ := C
  have hl : lv_has ls 1 [(0, .ref q0)] := hl
  refine g_in (fun H locs => W p l e R s m args below meth c H locs 0 0 Q (F0 m 0 ls [])) (fun H locs hS0 hP => ?_) hP (va_S.rf (A := A) (H0 := s.heap))
  have hS : va_S A s.heap H locs := hS0
  clear hS0
  refine lv_aload_n hx hb dX3_init_0 rfl (lv_at hl 0 rfl) ?_
  refine W.objInit hx hb hown (ht _ mM_X3_3) (ht _ mI_objinit) (ht _ mC_objinit) rfl (hl.1.trans hml.symm) rfl dX3_init_1 (Nat.le_trans (Nat.le_of_ble_eq_true rfl) hfr) (Nat.le_trans (Nat.le_of_ble_eq_true rfl) hlc) ?_
  refine W.eq (g2 := F0 m 4 ls []) rfl ?_
  refine lv_aload_n hx hb dX3_init_4 rfl (lv_at hl 0 rfl) ?_
  refine lv_bipush (v := (7 : Int32)) hx hb dX3_init_5 (by decide) ?_
  refine g_newI hx hb (ht _ mA_int) hK hP hD hS hA (N := 7) (by decide) (by decide) (by decide) (Nat.le_trans (Nat.le_of_ble_eq_true rfl) hce) (Nat.le_trans (Nat.le_of_ble_eq_true rfl) hsl) dX3_init_7 (fun q1 H hP hD hS => ?_)
  have hP : va_P D vwCl [(q0, .inr (2, [.int (0 : Int32), .int (0 : Int32), .null, .null, .null, .null, .int (0 : Int32)])), (q1, .inl (ci, 7, .inl (fun _ => 0)))] H := hP
  have hD : va_D A [(q0, .inr (2, [.int (0 : Int32), .int (0 : Int32), .null, .null, .null, .null, .int (0 : Int32)])), (q1, .inl (ci, 7, .inl (fun _ => 0)))] := hD
  refine W.widen (k := 1) (n := 7) (Nat.le_of_ble_eq_true rfl) (Nat.le_of_ble_eq_true rfl) ?_
  refine va_putF (D := D) (ci := 2) (v := .ref q1) (ty := (.array .int)) (C := RX3) (T := TX3) (N := 7) hx hb ht in_X3 tyX3 tyX3_ok nmX3 hown hK.1 hP hD hS 0 rfl rfl 2 (by decide) (ht _ mF_X3_9) (fun _ h9 => h9) rfl hin rfl (by decide +kernel) rfl rfl (Nat.le_of_ble_eq_true rfl) dX3_init_9 (fun H locs hP hD hS => ?_)
  have hP : va_P D vwCl [(q0, .inr (2, [.int (0 : Int32), .int (0 : Int32), .ref q1, .null, .null, .null, .int (0 : Int32)])), (q1, .inl (ci, 7, .inl (fun _ => 0)))] H := hP
  have hD : va_D A [(q0, .inr (2, [.int (0 : Int32), .int (0 : Int32), .ref q1, .null, .null, .null, .int (0 : Int32)])), (q1, .inl (ci, 7, .inl (fun _ => 0)))] := hD
  refine lv_aload_n hx hb dX3_init_12 rfl (lv_at hl 0 rfl) ?_
  refine va_new (D := D) (ci := 5) (fs := [.int (0 : Int32), .null]) (C := RX6) (T := TX6) (N := 2) hx hb ht in_X6 tyX6 tyX6_ok hown (ht _ mK_X3_15) (ht _ mB_X6) (ht _ mN_X6) hK.1 hP hD hS hA rfl (fun j hj => by rcases (show j = 0 ∨ j = 1 by omega) with rfl | rfl <;> rfl) (Nat.le_trans (Nat.le_of_ble_eq_true rfl) hce) (Nat.le_trans (Nat.le_of_ble_eq_true rfl) hsl) dX3_init_13 (fun q2 H hP hD hS => ?_)
  have hP : va_P D vwCl [(q0, .inr (2, [.int (0 : Int32), .int (0 : Int32), .ref q1, .null, .null, .null, .int (0 : Int32)])), (q1, .inl (ci, 7, .inl (fun _ => 0))), (q2, .inr (5, [.int (0 : Int32), .null]))] H := hP
  have hD : va_D A [(q0, .inr (2, [.int (0 : Int32), .int (0 : Int32), .ref q1, .null, .null, .null, .int (0 : Int32)])), (q1, .inl (ci, 7, .inl (fun _ => 0))), (q2, .inr (5, [.int (0 : Int32), .null]))] := hD
  refine W.widen (k := 2) (n := 9) (Nat.le_of_ble_eq_true rfl) (Nat.le_of_ble_eq_true rfl) ?_
  refine lv_dup hx hb dX3_init_16 rfl ?_
  refine gcallI (wr := [(q0, .inr (2, [.int (0 : Int32), .int (0 : Int32), .ref q1, .null, .null, .null, .int (0 : Int32)])), (q1, .inl (ci, 7, .inl (fun _ => 0)))]) (va_runIN (host := "DogVotes") (As := []) (rest := [.ref q2, .ref q0]) ⟨hx, hb, hml, hown, ht⟩ (c_X6_init l D ci cz tr q2 H.size) ⟨va_cnB 0 ht (gi_code mC_X6_init) rfl rfl rfl (hK.2.1 _ _ _ _ mQ_X3_17) (ht _ mN_X6) (by decide +kernel) ⟨Nat.le_trans (Nat.le_of_ble_eq_true rfl) hfr, Nat.le_trans (Nat.le_of_ble_eq_true rfl) hlc⟩, rfl, ht _ mI_X6_init⟩ (gpre (av := .ref q2 :: []) (wc := [(q2, .inr (5, [.int (0 : Int32), .null]))]) hK hZ hP hD hS hA [2] rfl rfl) rfl rfl hl.1 rfl (lv_room (Nat.le_of_ble_eq_true rfl)) dX3_init_17 ⟨(Nat.le_trans (Nat.le_of_ble_eq_true rfl) hce), (Nat.le_trans (Nat.le_of_ble_eq_true rfl) hsl)⟩) hP hD hS hA [2] [0, 1] rfl rfl (by decide) (by decide) (fun w9 H locs hw9 hP hD hS => ?_)
  obtain ⟨t9, hvm9, q3, rfl⟩ := hw9
  have hP : va_P D vwCl [(q0, .inr (2, [.int (0 : Int32), .int (0 : Int32), .ref q1, .null, .null, .null, .int (0 : Int32)])), (q1, .inl (ci, 7, .inl (fun _ => 0))), (q2, .inr (5, [.int (0 : Int32), .ref q3])), (q3, .inl (ci, 7, .inl (fun _ => 0)))] H := hP
  have hD : va_D A [(q0, .inr (2, [.int (0 : Int32), .int (0 : Int32), .ref q1, .null, .null, .null, .int (0 : Int32)])), (q1, .inl (ci, 7, .inl (fun _ => 0))), (q2, .inr (5, [.int (0 : Int32), .ref q3])), (q3, .inl (ci, 7, .inl (fun _ => 0)))] := hD
  refine W.widen (k := 3) (n := 16) (Nat.le_of_ble_eq_true rfl) (Nat.le_of_ble_eq_true rfl) ?_
  refine va_putF (D := D) (ci := 2) (v := .ref q2) (ty := (.object "DogVotes$Orders")) (C := RX3) (T := TX3) (N := 7) hx hb ht in_X3 tyX3 tyX3_ok nmX3 hown hK.1 hP hD hS 0 rfl rfl 3 (by decide) (ht _ mF_X3_18) (fun _ h9 => h9) rfl hin rfl (by decide +kernel) rfl rfl (Nat.le_of_ble_eq_true rfl) dX3_init_20 (fun H locs hP hD hS => ?_)
  have hP : va_P D vwCl [(q0, .inr (2, [.int (0 : Int32), .int (0 : Int32), .ref q1, .ref q2, .null, .null, .int (0 : Int32)])), (q1, .inl (ci, 7, .inl (fun _ => 0))), (q2, .inr (5, [.int (0 : Int32), .ref q3])), (q3, .inl (ci, 7, .inl (fun _ => 0)))] H := hP
  have hD : va_D A [(q0, .inr (2, [.int (0 : Int32), .int (0 : Int32), .ref q1, .ref q2, .null, .null, .int (0 : Int32)])), (q1, .inl (ci, 7, .inl (fun _ => 0))), (q2, .inr (5, [.int (0 : Int32), .ref q3])), (q3, .inl (ci, 7, .inl (fun _ => 0)))] := hD
  refine lv_aload_n hx hb dX3_init_23 rfl (lv_at hl 0 rfl) ?_
  refine va_new (D := D) (ci := 0) (fs := [.int (0 : Int32), .int (0 : Int32), .int (0 : Int32), .int (0 : Int32)]) (C := RX0) (T := TX0) (N := 4) hx hb ht in_X0 tyX0 tyX0_ok hown (ht _ mK_X3_22) (ht _ mB_X0) (ht _ mN_X0) hK.1 hP hD hS hA rfl (fun j hj => by rcases (show j = 0 ∨ j = 1 ∨ j = 2 ∨ j = 3 by omega) with rfl | rfl | rfl | rfl <;> rfl) (Nat.le_trans (Nat.le_of_ble_eq_true rfl) hce) (Nat.le_trans (Nat.le_of_ble_eq_true rfl) hsl) dX3_init_24 (fun q4 H hP hD hS => ?_)
  have hP : va_P D vwCl [(q0, .inr (2, [.int (0 : Int32), .int (0 : Int32), .ref q1, .ref q2, .null, .null, .int (0 : Int32)])), (q1, .inl (ci, 7, .inl (fun _ => 0))), (q2, .inr (5, [.int (0 : Int32), .ref q3])), (q3, .inl (ci, 7, .inl (fun _ => 0))), (q4, .inr (0, [.int (0 : Int32), .int (0 : Int32), .int (0 : Int32), .int (0 : Int32)]))] H := hP
  have hD : va_D A [(q0, .inr (2, [.int (0 : Int32), .int (0 : Int32), .ref q1, .ref q2, .null, .null, .int (0 : Int32)])), (q1, .inl (ci, 7, .inl (fun _ => 0))), (q2, .inr (5, [.int (0 : Int32), .ref q3])), (q3, .inl (ci, 7, .inl (fun _ => 0))), (q4, .inr (0, [.int (0 : Int32), .int (0 : Int32), .int (0 : Int32), .int (0 : Int32)]))] := hD
  refine W.widen (k := 4) (n := 20) (Nat.le_of_ble_eq_true rfl) (Nat.le_of_ble_eq_true rfl) ?_
  refine lv_dup hx hb dX3_init_27 rfl ?_
  refine gcallI (wr := [(q0, .inr (2, [.int (0 : Int32), .int (0 : Int32), .ref q1, .ref q2, .null, .null, .int (0 : Int32)])), (q1, .inl (ci, 7, .inl (fun _ => 0))), (q2, .inr (5, [.int (0 : Int32), .ref q3])), (q3, .inl (ci, 7, .inl (fun _ => 0)))]) (va_runIN (host := "DogVotes") (As := []) (rest := [.ref q4, .ref q0]) ⟨hx, hb, hml, hown, ht⟩ (c_X0_init l D ci cz tr q4 H.size) ⟨va_cnB 0 ht (gi_code mC_X0_init) rfl rfl rfl (hK.2.1 _ _ _ _ mQ_X3_24) (ht _ mN_X0) (by decide +kernel) ⟨Nat.le_trans (Nat.le_of_ble_eq_true rfl) hfr, Nat.le_trans (Nat.le_of_ble_eq_true rfl) hlc⟩, rfl, ht _ mI_X0_init⟩ (gpre (av := .ref q4 :: []) (wc := [(q4, .inr (0, [.int (0 : Int32), .int (0 : Int32), .int (0 : Int32), .int (0 : Int32)]))]) hK hZ hP hD hS hA [4] rfl rfl) rfl rfl hl.1 rfl (lv_room (Nat.le_of_ble_eq_true rfl)) dX3_init_28 ⟨(Nat.le_trans (Nat.le_of_ble_eq_true rfl) hce), (Nat.le_trans (Nat.le_of_ble_eq_true rfl) hsl)⟩) hP hD hS hA [4] [0, 1, 2, 3] rfl rfl (by decide) (by decide) (fun w9 H locs hw9 hP hD hS => ?_)
  obtain ⟨t9, hvm9, rfl⟩ := hw9
  have hP : va_P D vwCl [(q0, .inr (2, [.int (0 : Int32), .int (0 : Int32), .ref q1, .ref q2, .null, .null, .int (0 : Int32)])), (q1, .inl (ci, 7, .inl (fun _ => 0))), (q2, .inr (5, [.int (0 : Int32), .ref q3])), (q3, .inl (ci, 7, .inl (fun _ => 0))), (q4, .inr (0, [.int (0 : Int32), .int (0 : Int32), .int (0 : Int32), .int (0 : Int32)]))] H := hP
  have hD : va_D A [(q0, .inr (2, [.int (0 : Int32), .int (0 : Int32), .ref q1, .ref q2, .null, .null, .int (0 : Int32)])), (q1, .inl (ci, 7, .inl (fun _ => 0))), (q2, .inr (5, [.int (0 : Int32), .ref q3])), (q3, .inl (ci, 7, .inl (fun _ => 0))), (q4, .inr (0, [.int (0 : Int32), .int (0 : Int32), .int (0 : Int32), .int (0 : Int32)]))] := hD
  refine W.widen (k := 4) (n := 20) (Nat.le_of_ble_eq_true rfl) (Nat.le_of_ble_eq_true rfl) ?_
  refine va_putF (D := D) (ci := 2) (v := .ref q4) (ty := (.object "DogVotes$Ballot")) (C := RX3) (T := TX3) (N := 7) hx hb ht in_X3 tyX3 tyX3_ok nmX3 hown hK.1 hP hD hS 0 rfl rfl 4 (by decide) (ht _ mF_X3_25) (fun _ h9 => h9) rfl hin rfl (by decide +kernel) rfl rfl (Nat.le_of_ble_eq_true rfl) dX3_init_31 (fun H locs hP hD hS => ?_)
  have hP : va_P D vwCl [(q0, .inr (2, [.int (0 : Int32), .int (0 : Int32), .ref q1, .ref q2, .ref q4, .null, .int (0 : Int32)])), (q1, .inl (ci, 7, .inl (fun _ => 0))), (q2, .inr (5, [.int (0 : Int32), .ref q3])), (q3, .inl (ci, 7, .inl (fun _ => 0))), (q4, .inr (0, [.int (0 : Int32), .int (0 : Int32), .int (0 : Int32), .int (0 : Int32)]))] H := hP
  have hD : va_D A [(q0, .inr (2, [.int (0 : Int32), .int (0 : Int32), .ref q1, .ref q2, .ref q4, .null, .int (0 : Int32)])), (q1, .inl (ci, 7, .inl (fun _ => 0))), (q2, .inr (5, [.int (0 : Int32), .ref q3])), (q3, .inl (ci, 7, .inl (fun _ => 0))), (q4, .inr (0, [.int (0 : Int32), .int (0 : Int32), .int (0 : Int32), .int (0 : Int32)]))] := hD
  refine lv_aload_n hx hb dX3_init_34 rfl (lv_at hl 0 rfl) ?_
  refine lv_bipush (v := (7 : Int32)) hx hb dX3_init_35 (by decide) ?_
  refine g_newI hx hb (ht _ mA_int) hK hP hD hS hA (N := 7) (by decide) (by decide) (by decide) (Nat.le_trans (Nat.le_of_ble_eq_true rfl) hce) (Nat.le_trans (Nat.le_of_ble_eq_true rfl) hsl) dX3_init_37 (fun q5 H hP hD hS => ?_)
  have hP : va_P D vwCl [(q0, .inr (2, [.int (0 : Int32), .int (0 : Int32), .ref q1, .ref q2, .ref q4, .null, .int (0 : Int32)])), (q1, .inl (ci, 7, .inl (fun _ => 0))), (q2, .inr (5, [.int (0 : Int32), .ref q3])), (q3, .inl (ci, 7, .inl (fun _ => 0))), (q4, .inr (0, [.int (0 : Int32), .int (0 : Int32), .int (0 : Int32), .int (0 : Int32)])), (q5, .inl (ci, 7, .inl (fun _ => 0)))] H := hP
  have hD : va_D A [(q0, .inr (2, [.int (0 : Int32), .int (0 : Int32), .ref q1, .ref q2, .ref q4, .null, .int (0 : Int32)])), (q1, .inl (ci, 7, .inl (fun _ => 0))), (q2, .inr (5, [.int (0 : Int32), .ref q3])), (q3, .inl (ci, 7, .inl (fun _ => 0))), (q4, .inr (0, [.int (0 : Int32), .int (0 : Int32), .int (0 : Int32), .int (0 : Int32)])), (q5, .inl (ci, 7, .inl (fun _ => 0)))] := hD
  refine W.widen (k := 5) (n := 27) (Nat.le_of_ble_eq_true rfl) (Nat.le_of_ble_eq_true rfl) ?_
  refine va_putF (D := D) (ci := 2) (v := .ref q5) (ty := (.array .int)) (C := RX3) (T := TX3) (N := 7) hx hb ht in_X3 tyX3 tyX3_ok nmX3 hown hK.1 hP hD hS 0 rfl rfl 5 (by decide) (ht _ mF_X3_29) (fun _ h9 => h9) rfl hin rfl (by decide +kernel) rfl rfl (Nat.le_of_ble_eq_true rfl) dX3_init_39 (fun H locs hP hD hS => ?_)
  have hP : va_P D vwCl [(q0, .inr (2, [.int (0 : Int32), .int (0 : Int32), .ref q1, .ref q2, .ref q4, .ref q5, .int (0 : Int32)])), (q1, .inl (ci, 7, .inl (fun _ => 0))), (q2, .inr (5, [.int (0 : Int32), .ref q3])), (q3, .inl (ci, 7, .inl (fun _ => 0))), (q4, .inr (0, [.int (0 : Int32), .int (0 : Int32), .int (0 : Int32), .int (0 : Int32)])), (q5, .inl (ci, 7, .inl (fun _ => 0)))] H := hP
  have hD : va_D A [(q0, .inr (2, [.int (0 : Int32), .int (0 : Int32), .ref q1, .ref q2, .ref q4, .ref q5, .int (0 : Int32)])), (q1, .inl (ci, 7, .inl (fun _ => 0))), (q2, .inr (5, [.int (0 : Int32), .ref q3])), (q3, .inl (ci, 7, .inl (fun _ => 0))), (q4, .inr (0, [.int (0 : Int32), .int (0 : Int32), .int (0 : Int32), .int (0 : Int32)])), (q5, .inl (ci, 7, .inl (fun _ => 0)))] := hD
  exact hret _ H locs _ _ (fun _ _ => ⟨_, _, _, _, _, rfl⟩) hP hD hS dX3_init_42
