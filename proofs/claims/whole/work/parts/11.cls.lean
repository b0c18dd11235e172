def wp_X11_best (zparish_hunger : Int32) (zparish_roll_dogs : Int32) (zparish_roll_halves : Nat → Int32) (zparish_roll_likings : Nat → Int32) (zparish_roll_fears : Nat → Int32) (zparish_questions_size : Int32) (zparish_questions_lefts : Nat → Int32) (zparish_questions_rights : Nat → Int32) (zparish_questions_numbers : Nat → Int32) (zevenings_known : Int32) (zevenings_most : Int32) (zevenings_full : Int32) (zevenings_order : Nat → Int32) (zevenings_orders_size : Int32) (zevenings_orders_order : Nat → Int32) (zevenings_ballot_left : Int32) (zevenings_ballot_right : Int32) (zevenings_ballot_leftDogs : Int32) (zevenings_ballot_rightDogs : Int32) (zevenings_meals : Nat → Int32) (a1 : Int32) (post : Int32 → Int32 → Int32 → Int32 → (Nat → Int32) → Int32 → (Nat → Int32) → Int32 → Int32 → Int32 → Int32 → (Nat → Int32) → Prop) : Prop :=
  wp_X3_find zevenings_known zevenings_most zevenings_full zevenings_order zevenings_orders_size zevenings_orders_order zevenings_ballot_left zevenings_ballot_right zevenings_ballot_leftDogs zevenings_ballot_rightDogs zevenings_meals zparish_hunger zparish_roll_dogs zparish_roll_halves zparish_roll_likings zparish_roll_fears zparish_questions_size zparish_questions_lefts zparish_questions_rights zparish_questions_numbers (fun (zevenings_known_2 : Int32) (zevenings_most_3 : Int32) (zevenings_full_4 : Int32) (zevenings_order_5 : Nat → Int32) (zevenings_orders_size_6 : Int32) (zevenings_orders_order_7 : Nat → Int32) (zevenings_ballot_left_8 : Int32) (zevenings_ballot_right_9 : Int32) (zevenings_ballot_leftDogs_10 : Int32) (zevenings_ballot_rightDogs_11 : Int32) (zevenings_meals_12 : Nat → Int32) => ((¬ a1 = (-1 : Int32) → ((a1 < 0 → post (-6 : Int32) zevenings_known_2 zevenings_most_3 zevenings_full_4 zevenings_order_5 zevenings_orders_size_6 zevenings_orders_order_7 zevenings_ballot_left_8 zevenings_ballot_right_9 zevenings_ballot_leftDogs_10 zevenings_ballot_rightDogs_11 zevenings_meals_12) ∧ (¬ a1 < 0 → ((zparish_questions_size ≤ a1 → post (-6 : Int32) zevenings_known_2 zevenings_most_3 zevenings_full_4 zevenings_order_5 zevenings_orders_size_6 zevenings_orders_order_7 zevenings_ballot_left_8 zevenings_ballot_right_9 zevenings_ballot_leftDogs_10 zevenings_ballot_rightDogs_11 zevenings_meals_12) ∧ (¬ zparish_questions_size ≤ a1 → (vp_in a1 7 ∧ post (zevenings_order_5 (a1).toNatClampNeg) zevenings_known_2 zevenings_most_3 zevenings_full_4 zevenings_order_5 zevenings_orders_size_6 zevenings_orders_order_7 zevenings_ballot_left_8 zevenings_ballot_right_9 zevenings_ballot_leftDogs_10 zevenings_ballot_rightDogs_11 zevenings_meals_12)))))) ∧ (a1 = (-1 : Int32) → post zevenings_most_3 zevenings_known_2 zevenings_most_3 zevenings_full_4 zevenings_order_5 zevenings_orders_size_6 zevenings_orders_order_7 zevenings_ballot_left_8 zevenings_ballot_right_9 zevenings_ballot_leftDogs_10 zevenings_ballot_rightDogs_11 zevenings_meals_12)))
set_option maxHeartbeats 4000000 in
set_option maxRecDepth 100000 in
theorem c_X11_best (l : Launch) (D : va_G) (ci cz : ClassId) (tr : List (ClassId × FieldType)) (q0 q1 q2 q3 q4 q5 q6 q7 q8 q9 q10 q11 q12 q13 q14 q15 : Nat) (sz : Nat) (u0 u1 u2 u3 u4 u5 u6 u7 u8 u9 : Value) (zparish_hunger : Int32) (zparish_roll_dogs : Int32) (zparish_roll_halves : Nat → Int32) (zparish_roll_likings : Nat → Int32) (zparish_roll_fears : Nat → Int32) (zparish_questions_size : Int32) (zparish_questions_lefts : Nat → Int32) (zparish_questions_rights : Nat → Int32) (zparish_questions_numbers : Nat → Int32) (zevenings_known : Int32) (zevenings_most : Int32) (zevenings_full : Int32) (zevenings_order : Nat → Int32) (zevenings_orders_size : Int32) (zevenings_orders_order : Nat → Int32) (zevenings_ballot_left : Int32) (zevenings_ballot_right : Int32) (zevenings_ballot_leftDogs : Int32) (zevenings_ballot_rightDogs : Int32) (zevenings_meals : Nat → Int32) (a1 : Int32) (post : Int32 → Int32 → Int32 → Int32 → (Nat → Int32) → Int32 → (Nat → Int32) → Int32 → Int32 → Int32 → Int32 → (Nat → Int32) → Prop) (hw : wp_X11_best zparish_hunger zparish_roll_dogs zparish_roll_halves zparish_roll_likings zparish_roll_fears zparish_questions_size zparish_questions_lefts zparish_questions_rights zparish_questions_numbers zevenings_known zevenings_most zevenings_full zevenings_order zevenings_orders_size zevenings_orders_order zevenings_ballot_left zevenings_ballot_right zevenings_ballot_leftDogs zevenings_ballot_rightDogs zevenings_meals a1 post) : gM l yX11_best cX11_best 2 (some .int) 5 124 D ci cz tr [(q0, .inr (10, [u0, .ref q1, u1, u2, u3, u4, u5, u6, .ref q10])), (q1, .inr (7, [.ref q2, u7, .ref q6, .int zparish_hunger])), (q2, .inr (8, [.int zparish_roll_dogs, u8, .ref q3, .ref q4, .ref q5, u9])), (q3, .inl (ci, 7, .inl zparish_roll_halves)), (q4, .inl (ci, 7, .inl zparish_roll_likings)), (q5, .inl (ci, 7, .inl zparish_roll_fears)), (q6, .inr (9, [.int zparish_questions_size, .ref q7, .ref q8, .ref q9])), (q7, .inl (ci, 5, .inl zparish_questions_lefts)), (q8, .inl (ci, 5, .inl zparish_questions_rights)), (q9, .inl (ci, 5, .inl zparish_questions_numbers)), (q10, .inr (2, [.int zevenings_known, .int zevenings_most, .ref q11, .ref q12, .ref q14, .ref q15, .int zevenings_full])), (q11, .inl (ci, 7, .inl zevenings_order)), (q12, .inr (5, [.int zevenings_orders_size, .ref q13])), (q13, .inl (ci, 7, .inl zevenings_orders_order)), (q14, .inr (0, [.int zevenings_ballot_left, .int zevenings_ballot_right, .int zevenings_ballot_leftDogs, .int zevenings_ballot_rightDogs])), (q15, .inl (ci, 7, .inl zevenings_meals))] sz [.ref q0, .int a1] (gQi D [(q0, .inr (10, [u0, .ref q1, u1, u2, u3, u4, u5, u6, .ref q10])), (q1, .inr (7, [.ref q2, u7, .ref q6, .int zparish_hunger])), (q2, .inr (8, [.int zparish_roll_dogs, u8, .ref q3, .ref q4, .ref q5, u9])), (q3, .inl (ci, 7, .inl zparish_roll_halves)), (q4, .inl (ci, 7, .inl zparish_roll_likings)), (q5, .inl (ci, 7, .inl zparish_roll_fears)), (q6, .inr (9, [.int zparish_questions_size, .ref q7, .ref q8, .ref q9])), (q7, .inl (ci, 5, .inl zparish_questions_lefts)), (q8, .inl (ci, 5, .inl zparish_questions_rights)), (q9, .inl (ci, 5, .inl zparish_questions_numbers)), (q10, .inr (2, [.int zevenings_known, .int zevenings_most, .ref q11, .ref q12, .ref q14, .ref q15, .int zevenings_full])), (q11, .inl (ci, 7, .inl zevenings_order)), (q12, .inr (5, [.int zevenings_orders_size, .ref q13])), (q13, .inl (ci, 7, .inl zevenings_orders_order)), (q14, .inr (0, [.int zevenings_ballot_left, .int zevenings_ballot_right, .int zevenings_ballot_leftDogs, .int zevenings_ballot_rightDogs])), (q15, .inl (ci, 7, .inl zevenings_meals))] sz (fun (r : Int32) w => ∃ (o_zevenings_known : Int32) (o_zevenings_most : Int32) (o_zevenings_full : Int32) (o_zevenings_order : Nat → Int32) (o_zevenings_orders_size : Int32) (o_zevenings_orders_order : Nat → Int32) (o_zevenings_ballot_left : Int32) (o_zevenings_ballot_right : Int32) (o_zevenings_ballot_leftDogs : Int32) (o_zevenings_ballot_rightDogs : Int32) (o_zevenings_meals : Nat → Int32), w = [(q0, .inr (10, [u0, .ref q1, u1, u2, u3, u4, u5, u6, .ref q10])), (q1, .inr (7, [.ref q2, u7, .ref q6, .int zparish_hunger])), (q2, .inr (8, [.int zparish_roll_dogs, u8, .ref q3, .ref q4, .ref q5, u9])), (q3, .inl (ci, 7, .inl zparish_roll_halves)), (q4, .inl (ci, 7, .inl zparish_roll_likings)), (q5, .inl (ci, 7, .inl zparish_roll_fears)), (q6, .inr (9, [.int zparish_questions_size, .ref q7, .ref q8, .ref q9])), (q7, .inl (ci, 5, .inl zparish_questions_lefts)), (q8, .inl (ci, 5, .inl zparish_questions_rights)), (q9, .inl (ci, 5, .inl zparish_questions_numbers)), (q10, .inr (2, [.int o_zevenings_known, .int o_zevenings_most, .ref q11, .ref q12, .ref q14, .ref q15, .int o_zevenings_full])), (q11, .inl (ci, 7, .inl o_zevenings_order)), (q12, .inr (5, [.int o_zevenings_orders_size, .ref q13])), (q13, .inl (ci, 7, .inl o_zevenings_orders_order)), (q14, .inr (0, [.int o_zevenings_ballot_left, .int o_zevenings_ballot_right, .int o_zevenings_ballot_leftDogs, .int o_zevenings_ballot_rightDogs])), (q15, .inl (ci, 7, .inl o_zevenings_meals))] ∧ post r o_zevenings_known o_zevenings_most o_zevenings_full o_zevenings_order o_zevenings_orders_size o_zevenings_orders_order o_zevenings_ballot_left o_zevenings_ballot_right o_zevenings_ballot_leftDogs o_zevenings_ballot_rightDogs o_zevenings_meals)) := by
  refine gmet_i RX11 (by decide +kernel) rfl (Nat.le_of_ble_eq_true rfl) ?_
  intro p e s m args below meth c A R Q C hfr hlc hP hD hret ls hl
  obtain ⟨hx, hb, hml, hown, ht, hK, hZ, hA⟩ := C
  have hl : lv_has ls 2 [(0, .ref q0), (1, .int a1)] := hl
  unfold wp_X11_best at hw
  refine g_in (fun H locs => W p l e R s m args below meth c H locs 0 0 Q (F0 m 0 ls [])) (fun H locs hS0 hP => ?_) hP (va_S.rf (A := A) (H0 := s.heap))
  have hS : va_S A s.heap H locs := hS0
  clear hS0
  refine lv_aload_n hx hb dX11_best_0 rfl (lv_at hl 0 rfl) ?_
  refine va_get (D := D) (ci := 10) (v := .ref q10) (C := RX11) (T := TX11) (N := 9) hx hb ht in_X11 hown hK.1 hP 0 rfl rfl 8 (by decide) (ht _ mF_X11_58) (fun _ h9 => h9) rfl dX11_best_1 ?_
  refine lv_aload_n hx hb dX11_best_4 rfl (lv_at hl 0 rfl) ?_
  refine va_get (D := D) (ci := 10) (v := .ref q1) (C := RX11) (T := TX11) (N := 9) hx hb ht in_X11 hown hK.1 hP 0 rfl rfl 1 (by decide) (ht _ mF_X11_19) (fun _ h9 => h9) rfl dX11_best_5 ?_
  refine gcallv (va_runV (As := [.ref q1]) (rest := []) ⟨hx, hb, hml, hown, ht⟩ (c_X3_find l D ci cz tr q10 q11 q12 q13 q14 q15 q1 q2 q3 q4 q5 q6 q7 q8 q9 H.size u7 u8 u9 zevenings_known zevenings_most zevenings_full zevenings_order zevenings_orders_size zevenings_orders_order zevenings_ballot_left zevenings_ballot_right zevenings_ballot_leftDogs zevenings_ballot_rightDogs zevenings_meals zparish_hunger zparish_roll_dogs zparish_roll_halves zparish_roll_likings zparish_roll_fears zparish_questions_size zparish_questions_lefts zparish_questions_rights zparish_questions_numbers _ hw) (cwV 1 ht (gi_V mM_X11_223 mI_X3_find mS_X3_find mN_X3 mC_X3_find) rfl rfl rfl (by decide +kernel) ⟨Nat.le_trans (Nat.le_of_ble_eq_true rfl) hfr, Nat.le_trans (Nat.le_of_ble_eq_true rfl) hlc⟩) (gpreV (wc := [(q10, .inr (2, [.int zevenings_known, .int zevenings_most, .ref q11, .ref q12, .ref q14, .ref q15, .int zevenings_full])), (q11, .inl (ci, 7, .inl zevenings_order)), (q12, .inr (5, [.int zevenings_orders_size, .ref q13])), (q13, .inl (ci, 7, .inl zevenings_orders_order)), (q14, .inr (0, [.int zevenings_ballot_left, .int zevenings_ballot_right, .int zevenings_ballot_leftDogs, .int zevenings_ballot_rightDogs])), (q15, .inl (ci, 7, .inl zevenings_meals)), (q1, .inr (7, [.ref q2, u7, .ref q6, .int zparish_hunger])), (q2, .inr (8, [.int zparish_roll_dogs, u8, .ref q3, .ref q4, .ref q5, u9])), (q3, .inl (ci, 7, .inl zparish_roll_halves)), (q4, .inl (ci, 7, .inl zparish_roll_likings)), (q5, .inl (ci, 7, .inl zparish_roll_fears)), (q6, .inr (9, [.int zparish_questions_size, .ref q7, .ref q8, .ref q9])), (q7, .inl (ci, 5, .inl zparish_questions_lefts)), (q8, .inl (ci, 5, .inl zparish_questions_rights)), (q9, .inl (ci, 5, .inl zparish_questions_numbers))]) (k := 2) (q0 := 10) hK hZ hP hD hS hA [10, 11, 12, 13, 14, 15, 1, 2, 3, 4, 5, 6, 7, 8, 9] rfl rfl rfl rfl rfl) rfl rfl hl.1 rfl (lv_room (Nat.le_of_ble_eq_true rfl)) dX11_best_8 ⟨Nat.zero_le _, Nat.zero_le _⟩) hD hS hA [10, 11, 12, 13, 14, 15, 1, 2, 3, 4, 5, 6, 7, 8, 9] rfl (fun w9 H locs hw hP9 hk9 hS => ?_)
  obtain ⟨zevenings_known_2, zevenings_most_3, zevenings_full_4, zevenings_order_5, zevenings_orders_size_6, zevenings_orders_order_7, zevenings_ballot_left_8, zevenings_ballot_right_9, zevenings_ballot_leftDogs_10, zevenings_ballot_rightDogs_11, zevenings_meals_12, rfl, hw⟩ := hw
  have hP : va_P D vwCl [(q0, .inr (10, [u0, .ref q1, u1, u2, u3, u4, u5, u6, .ref q10])), (q1, .inr (7, [.ref q2, u7, .ref q6, .int zparish_hunger])), (q2, .inr (8, [.int zparish_roll_dogs, u8, .ref q3, .ref q4, .ref q5, u9])), (q3, .inl (ci, 7, .inl zparish_roll_halves)), (q4, .inl (ci, 7, .inl zparish_roll_likings)), (q5, .inl (ci, 7, .inl zparish_roll_fears)), (q6, .inr (9, [.int zparish_questions_size, .ref q7, .ref q8, .ref q9])), (q7, .inl (ci, 5, .inl zparish_questions_lefts)), (q8, .inl (ci, 5, .inl zparish_questions_rights)), (q9, .inl (ci, 5, .inl zparish_questions_numbers)), (q10, .inr (2, [.int zevenings_known_2, .int zevenings_most_3, .ref q11, .ref q12, .ref q14, .ref q15, .int zevenings_full_4])), (q11, .inl (ci, 7, .inl zevenings_order_5)), (q12, .inr (5, [.int zevenings_orders_size_6, .ref q13])), (q13, .inl (ci, 7, .inl zevenings_orders_order_7)), (q14, .inr (0, [.int zevenings_ballot_left_8, .int zevenings_ballot_right_9, .int zevenings_ballot_leftDogs_10, .int zevenings_ballot_rightDogs_11])), (q15, .inl (ci, 7, .inl zevenings_meals_12))] H := gjoin3 hP hD [10, 11, 12, 13, 14, 15, 1, 2, 3, 4, 5, 6, 7, 8, 9] hP9 hk9 rfl rfl [none, some 6, some 7, some 8, some 9, some 10, some 11, some 12, some 13, some 14, some 0, some 1, some 2, some 3, some 4, some 5] rfl rfl
  have hD : va_D A [(q0, .inr (10, [u0, .ref q1, u1, u2, u3, u4, u5, u6, .ref q10])), (q1, .inr (7, [.ref q2, u7, .ref q6, .int zparish_hunger])), (q2, .inr (8, [.int zparish_roll_dogs, u8, .ref q3, .ref q4, .ref q5, u9])), (q3, .inl (ci, 7, .inl zparish_roll_halves)), (q4, .inl (ci, 7, .inl zparish_roll_likings)), (q5, .inl (ci, 7, .inl zparish_roll_fears)), (q6, .inr (9, [.int zparish_questions_size, .ref q7, .ref q8, .ref q9])), (q7, .inl (ci, 5, .inl zparish_questions_lefts)), (q8, .inl (ci, 5, .inl zparish_questions_rights)), (q9, .inl (ci, 5, .inl zparish_questions_numbers)), (q10, .inr (2, [.int zevenings_known_2, .int zevenings_most_3, .ref q11, .ref q12, .ref q14, .ref q15, .int zevenings_full_4])), (q11, .inl (ci, 7, .inl zevenings_order_5)), (q12, .inr (5, [.int zevenings_orders_size_6, .ref q13])), (q13, .inl (ci, 7, .inl zevenings_orders_order_7)), (q14, .inr (0, [.int zevenings_ballot_left_8, .int zevenings_ballot_right_9, .int zevenings_ballot_leftDogs_10, .int zevenings_ballot_rightDogs_11])), (q15, .inl (ci, 7, .inl zevenings_meals_12))] := gD_re hD rfl
  clear hP9 hk9
  refine lv_iload_n hx hb dX11_best_11 rfl (lv_at hl 1 rfl) ?_
  refine lv_iconst (v := (-1 : Int32)) hx hb dX11_best_12 (by decide) ?_
  refine lv_icmp_ne (tgt := 24) hx hb dX11_best_13 (by decide) (fun hc => ?_) (fun hc => ?_)
  · have hw := hw.1 hc
    refine lv_iload_n hx hb dX11_best_24 rfl (lv_at hl 1 rfl) ?_
    refine lv_if_lt (tgt := 54) hx hb dX11_best_25 (by decide) (fun hc => ?_) (fun hc => ?_)
    · have hw := hw.1 hc
      refine lv_bipush (v := (-6 : Int32)) hx hb dX11_best_54 (by decide) ?_
      exact hret _ _ H locs _ _ ⟨_, _, _, _, _, _, _, _, _, _, _, rfl, hw⟩ hP hS dX11_best_56
    · have hw := hw.2 hc
      refine lv_iload_n hx hb dX11_best_28 rfl (lv_at hl 1 rfl) ?_
      refine lv_aload_n hx hb dX11_best_29 rfl (lv_at hl 0 rfl) ?_
      refine va_get (D := D) (ci := 10) (v := .ref q1) (C := RX11) (T := TX11) (N := 9) hx hb ht in_X11 hown hK.1 hP 0 rfl rfl 1 (by decide) (ht _ mF_X11_19) (fun _ h9 => h9) rfl dX11_best_30 ?_
      refine va_get (D := D) (ci := 7) (v := .ref q6) (C := RX8) (T := TX8) (N := 4) hx hb ht in_X8 hown hK.1 hP 1 rfl rfl 2 (by decide) (ht _ mF_X11_217) (fun _ h9 => h9) rfl dX11_best_33 ?_
      refine va_get (D := D) (ci := 9) (v := .int zparish_questions_size) (C := RX10) (T := TX10) (N := 4) hx hb ht in_X10 hown hK.1 hP 6 rfl rfl 0 (by decide) (ht _ mF_X11_91) (fun _ h9 => h9) rfl dX11_best_36 ?_
      refine lv_icmp_ge (tgt := 54) hx hb dX11_best_39 (by decide) (fun hc => ?_) (fun hc => ?_)
      · have hw := hw.1 hc
        refine lv_bipush (v := (-6 : Int32)) hx hb dX11_best_54 (by decide) ?_
        exact hret _ _ H locs _ _ ⟨_, _, _, _, _, _, _, _, _, _, _, rfl, hw⟩ hP hS dX11_best_56
      · have hw := hw.2 hc
        refine lv_aload_n hx hb dX11_best_42 rfl (lv_at hl 0 rfl) ?_
        refine va_get (D := D) (ci := 10) (v := .ref q10) (C := RX11) (T := TX11) (N := 9) hx hb ht in_X11 hown hK.1 hP 0 rfl rfl 8 (by decide) (ht _ mF_X11_58) (fun _ h9 => h9) rfl dX11_best_43 ?_
        refine va_get (D := D) (ci := 2) (v := .ref q11) (C := RX3) (T := TX3) (N := 7) hx hb ht in_X3 hown hK.1 hP 10 rfl rfl 2 (by decide) (ht _ mF_X11_227) (fun _ h9 => h9) rfl dX11_best_46 ?_
        refine lv_iload_n hx hb dX11_best_49 rfl (lv_at hl 1 rfl) ?_
        obtain ⟨hin, hw⟩ := hw
        refine va_iald (D := D) hx hb hK.1 hP 11 0 rfl rfl hin dX11_best_50 ?_
        refine lv_goto (tgt := 56) hx hb dX11_best_51 (by decide) ?_
        exact hret _ _ H locs _ _ ⟨_, _, _, _, _, _, _, _, _, _, _, rfl, hw⟩ hP hS dX11_best_56
  · have hw := hw.2 hc
    refine lv_aload_n hx hb dX11_best_16 rfl (lv_at hl 0 rfl) ?_
    refine va_get (D := D) (ci := 10) (v := .ref q10) (C := RX11) (T := TX11) (N := 9) hx hb ht in_X11 hown hK.1 hP 0 rfl rfl 8 (by decide) (ht _ mF_X11_58) (fun _ h9 => h9) rfl dX11_best_17 ?_
    refine va_get (D := D) (ci := 2) (v := .int zevenings_most_3) (C := RX3) (T := TX3) (N := 7) hx hb ht in_X3 hown hK.1 hP 10 rfl rfl 1 (by decide) (ht _ mF_X11_226) (fun _ h9 => h9) rfl dX11_best_20 ?_
    exact hret _ _ H locs _ _ ⟨_, _, _, _, _, _, _, _, _, _, _, rfl, hw⟩ hP hS dX11_best_23

def wp_X11_counted (zparish_counts_size : Int32) (zparish_counts_lefts : Nat → Int32) (zparish_counts_rights : Nat → Int32) (zparish_counts_numbers : Nat → Int32) (zgate_known : Int32) (zguesses_known : Int32) (zevenings_known : Int32) (a1 : Int32) (a2 : Int32) (a3 : Int32) (post : Int32 → Int32 → (Nat → Int32) → (Nat → Int32) → (Nat → Int32) → Int32 → Int32 → Int32 → Prop) : Prop :=
  wp_X11_areLivers a1 a2 (fun (r_1 : Int32) => ((r_1 = 0 → post (-2 : Int32) zparish_counts_size zparish_counts_lefts zparish_counts_rights zparish_counts_numbers zgate_known zguesses_known zevenings_known) ∧ (¬ r_1 = 0 → wp_X11_isWithin a3 (63 : Int32) (fun (r_2 : Int32) => ((¬ r_2 = 0 → wp_X10_add 6 zparish_counts_size zparish_counts_lefts zparish_counts_rights zparish_counts_numbers a1 a2 a3 (fun (r_3 : Int32) (zparish_counts_size_4 : Int32) (zparish_counts_lefts_5 : Nat → Int32) (zparish_counts_rights_6 : Nat → Int32) (zparish_counts_numbers_7 : Nat → Int32) => ((¬ r_3 = 0 → wp_X11_changed zgate_known zguesses_known zevenings_known (fun (zgate_known_9 : Int32) (zguesses_known_10 : Int32) (zevenings_known_11 : Int32) => post zparish_counts_size_4 zparish_counts_size_4 zparish_counts_lefts_5 zparish_counts_rights_6 zparish_counts_numbers_7 zgate_known_9 zguesses_known_10 zevenings_known_11)) ∧ (r_3 = 0 → post (-4 : Int32) zparish_counts_size_4 zparish_counts_lefts_5 zparish_counts_rights_6 zparish_counts_numbers_7 zgate_known zguesses_known zevenings_known)))) ∧ (r_2 = 0 → post (-2 : Int32) zparish_counts_size zparish_counts_lefts zparish_counts_rights zparish_counts_numbers zgate_known zguesses_known zevenings_known))))))
set_option maxHeartbeats 4000000 in
set_option maxRecDepth 100000 in
theorem c_X11_counted (l : Launch) (D : va_G) (ci cz : ClassId) (tr : List (ClassId × FieldType)) (q0 q1 q2 q3 q4 q5 q6 q7 q8 : Nat) (sz : Nat) (u0 u1 u2 u3 u4 u5 u6 u7 u8 u9 u10 u11 u12 u13 u14 u15 u16 u17 u18 u19 u20 u21 u22 u23 u24 u25 u26 : Value) (zparish_counts_size : Int32) (zparish_counts_lefts : Nat → Int32) (zparish_counts_rights : Nat → Int32) (zparish_counts_numbers : Nat → Int32) (zgate_known : Int32) (zguesses_known : Int32) (zevenings_known : Int32) (a1 : Int32) (a2 : Int32) (a3 : Int32) (post : Int32 → Int32 → (Nat → Int32) → (Nat → Int32) → (Nat → Int32) → Int32 → Int32 → Int32 → Prop) (hw : wp_X11_counted zparish_counts_size zparish_counts_lefts zparish_counts_rights zparish_counts_numbers zgate_known zguesses_known zevenings_known a1 a2 a3 post) : gM l yX11_counted cX11_counted 4 (some .int) 2 42 D ci cz tr [(q0, .inr (10, [u0, .ref q1, u1, u2, u3, u4, .ref q6, .ref q7, .ref q8])), (q1, .inr (7, [u5, .ref q2, u6, u7])), (q2, .inr (9, [.int zparish_counts_size, .ref q3, .ref q4, .ref q5])), (q3, .inl (ci, 6, .inl zparish_counts_lefts)), (q4, .inl (ci, 6, .inl zparish_counts_rights)), (q5, .inl (ci, 6, .inl zparish_counts_numbers)), (q6, .inr (3, [.int zgate_known, u8, u9, u10, u11, u12])), (q7, .inr (4, [.int zguesses_known, u13, u14, u15, u16, u17, u18, u19, u20])), (q8, .inr (2, [.int zevenings_known, u21, u22, u23, u24, u25, u26]))] sz [.ref q0, .int a1, .int a2, .int a3] (gQi D [(q0, .inr (10, [u0, .ref q1, u1, u2, u3, u4, .ref q6, .ref q7, .ref q8])), (q1, .inr (7, [u5, .ref q2, u6, u7])), (q2, .inr (9, [.int zparish_counts_size, .ref q3, .ref q4, .ref q5])), (q3, .inl (ci, 6, .inl zparish_counts_lefts)), (q4, .inl (ci, 6, .inl zparish_counts_rights)), (q5, .inl (ci, 6, .inl zparish_counts_numbers)), (q6, .inr (3, [.int zgate_known, u8, u9, u10, u11, u12])), (q7, .inr (4, [.int zguesses_known, u13, u14, u15, u16, u17, u18, u19, u20])), (q8, .inr (2, [.int zevenings_known, u21, u22, u23, u24, u25, u26]))] sz (fun (r : Int32) w => ∃ (o_zparish_counts_size : Int32) (o_zparish_counts_lefts : Nat → Int32) (o_zparish_counts_rights : Nat → Int32) (o_zparish_counts_numbers : Nat → Int32) (o_zgate_known : Int32) (o_zguesses_known : Int32) (o_zevenings_known : Int32), w = [(q0, .inr (10, [u0, .ref q1, u1, u2, u3, u4, .ref q6, .ref q7, .ref q8])), (q1, .inr (7, [u5, .ref q2, u6, u7])), (q2, .inr (9, [.int o_zparish_counts_size, .ref q3, .ref q4, .ref q5])), (q3, .inl (ci, 6, .inl o_zparish_counts_lefts)), (q4, .inl (ci, 6, .inl o_zparish_counts_rights)), (q5, .inl (ci, 6, .inl o_zparish_counts_numbers)), (q6, .inr (3, [.int o_zgate_known, u8, u9, u10, u11, u12])), (q7, .inr (4, [.int o_zguesses_known, u13, u14, u15, u16, u17, u18, u19, u20])), (q8, .inr (2, [.int o_zevenings_known, u21, u22, u23, u24, u25, u26]))] ∧ post r o_zparish_counts_size o_zparish_counts_lefts o_zparish_counts_rights o_zparish_counts_numbers o_zgate_known o_zguesses_known o_zevenings_known)) := by
  refine gmet_i RX11 (by decide +kernel) rfl (Nat.le_of_ble_eq_true rfl) ?_
  intro p e s m args below meth c A R Q C hfr hlc hP hD hret ls hl
  obtain ⟨hx, hb, hml, hown, ht, hK, hZ, hA⟩ := C
  have hl : lv_has ls 4 [(0, .ref q0), (1, .int a1), (2, .int a2), (3, .int a3)] := hl
  unfold wp_X11_counted at hw
  refine g_in (fun H locs => W p l e R s m args below meth c H locs 0 0 Q (F0 m 0 ls [])) (fun H locs hS0 hP => ?_) hP (va_S.rf (A := A) (H0 := s.heap))
  have hS : va_S A s.heap H locs := hS0
  clear hS0
  refine lv_iload_n hx hb dX11_counted_0 rfl (lv_at hl 1 rfl) ?_
  refine lv_iload_n hx hb dX11_counted_1 rfl (lv_at hl 2 rfl) ?_
  refine gcalli (va_runS (As := [.int a1, .int a2]) (rest := []) ⟨hx, hb, hml, hown, ht⟩ (c_X11_areLivers l D ci cz tr  H.size a1 a2 _ hw) (va_cwS 2 ht (gi_S mM_X11_129 mT_X11_areLivers mN_X11 mC_X11_areLivers) rfl rfl rfl (by decide +kernel) ⟨Nat.le_trans (Nat.le_of_ble_eq_true rfl) hfr, Nat.le_trans (Nat.le_of_ble_eq_true rfl) hlc⟩) (gpre (wc := []) hK hZ hP hD hS hA [] rfl rfl) rfl rfl hl.1 rfl (lv_room (Nat.le_of_ble_eq_true rfl)) dX11_counted_2 ⟨Nat.zero_le _, Nat.zero_le _⟩) hD hS hA [] rfl (fun r_1 w9 H locs hw hP9 hk9 hS => ?_)
  obtain ⟨rfl, hw⟩ := hw
  have hP : va_P D vwCl [(q0, .inr (10, [u0, .ref q1, u1, u2, u3, u4, .ref q6, .ref q7, .ref q8])), (q1, .inr (7, [u5, .ref q2, u6, u7])), (q2, .inr (9, [.int zparish_counts_size, .ref q3, .ref q4, .ref q5])), (q3, .inl (ci, 6, .inl zparish_counts_lefts)), (q4, .inl (ci, 6, .inl zparish_counts_rights)), (q5, .inl (ci, 6, .inl zparish_counts_numbers)), (q6, .inr (3, [.int zgate_known, u8, u9, u10, u11, u12])), (q7, .inr (4, [.int zguesses_known, u13, u14, u15, u16, u17, u18, u19, u20])), (q8, .inr (2, [.int zevenings_known, u21, u22, u23, u24, u25, u26]))] H := gjoin3 hP hD [] hP9 hk9 rfl rfl [none, none, none, none, none, none, none, none, none] rfl rfl
  clear hP9 hk9
  refine lv_if_eq (tgt := 17) hx hb dX11_counted_5 (by decide) (fun hc => ?_) (fun hc => ?_)
  · have hw := hw.1 hc
    refine lv_bipush (v := (-2 : Int32)) hx hb dX11_counted_17 (by decide) ?_
    exact hret _ _ H locs _ _ ⟨_, _, _, _, _, _, _, rfl, hw⟩ hP hS dX11_counted_19
  · have hw := hw.2 hc
    refine lv_iload_n hx hb dX11_counted_8 rfl (lv_at hl 3 rfl) ?_
    refine lv_bipush (v := (63 : Int32)) hx hb dX11_counted_9 (by decide) ?_
    refine gcalli (va_runS (As := [.int a3, .int (63 : Int32)]) (rest := []) ⟨hx, hb, hml, hown, ht⟩ (c_X11_isWithin l D ci cz tr  H.size a3 (63 : Int32) _ hw) (va_cwS 2 ht (gi_S mM_X11_140 mT_X11_isWithin mN_X11 mC_X11_isWithin) rfl rfl rfl (by decide +kernel) ⟨Nat.le_trans (Nat.le_of_ble_eq_true rfl) hfr, Nat.le_trans (Nat.le_of_ble_eq_true rfl) hlc⟩) (gpre (wc := []) hK hZ hP hD hS hA [] rfl rfl) rfl rfl hl.1 rfl (lv_room (Nat.le_of_ble_eq_true rfl)) dX11_counted_11 ⟨Nat.zero_le _, Nat.zero_le _⟩) hD hS hA [] rfl (fun r_2 w9 H locs hw hP9 hk9 hS => ?_)
    obtain ⟨rfl, hw⟩ := hw
    have hP : va_P D vwCl [(q0, .inr (10, [u0, .ref q1, u1, u2, u3, u4, .ref q6, .ref q7, .ref q8])), (q1, .inr (7, [u5, .ref q2, u6, u7])), (q2, .inr (9, [.int zparish_counts_size, .ref q3, .ref q4, .ref q5])), (q3, .inl (ci, 6, .inl zparish_counts_lefts)), (q4, .inl (ci, 6, .inl zparish_counts_rights)), (q5, .inl (ci, 6, .inl zparish_counts_numbers)), (q6, .inr (3, [.int zgate_known, u8, u9, u10, u11, u12])), (q7, .inr (4, [.int zguesses_known, u13, u14, u15, u16, u17, u18, u19, u20])), (q8, .inr (2, [.int zevenings_known, u21, u22, u23, u24, u25, u26]))] H := gjoin3 hP hD [] hP9 hk9 rfl rfl [none, none, none, none, none, none, none, none, none] rfl rfl
    clear hP9 hk9
    refine lv_if_ne (tgt := 20) hx hb dX11_counted_14 (by decide) (fun hc => ?_) (fun hc => ?_)
    · have hw := hw.1 hc
      refine lv_aload_n hx hb dX11_counted_20 rfl (lv_at hl 0 rfl) ?_
      refine va_get (D := D) (ci := 10) (v := .ref q1) (C := RX11) (T := TX11) (N := 9) hx hb ht in_X11 hown hK.1 hP 0 rfl rfl 1 (by decide) (ht _ mF_X11_19) (fun _ h9 => h9) rfl dX11_counted_21 ?_
      refine va_get (D := D) (ci := 7) (v := .ref q2) (C := RX8) (T := TX8) (N := 4) hx hb ht in_X8 hown hK.1 hP 1 rfl rfl 1 (by decide) (ht _ mF_X11_87) (fun _ h9 => h9) rfl dX11_counted_24 ?_
      refine lv_iload_n hx hb dX11_counted_27 rfl (lv_at hl 1 rfl) ?_
      refine lv_iload_n hx hb dX11_counted_28 rfl (lv_at hl 2 rfl) ?_
      refine lv_iload_n hx hb dX11_counted_29 rfl (lv_at hl 3 rfl) ?_
      refine gcalli (va_runV (As := [.int a1, .int a2, .int a3]) (rest := []) ⟨hx, hb, hml, hown, ht⟩ (c_X10_add l D ci cz tr q2 q3 q4 q5 H.size 6 zparish_counts_size zparish_counts_lefts zparish_counts_rights zparish_counts_numbers a1 a2 a3 _ hw) (cwV 3 ht (gi_V mM_X11_198 mI_X10_add mS_X10_add mN_X10 mC_X10_add) rfl rfl rfl (by decide +kernel) ⟨Nat.le_trans (Nat.le_of_ble_eq_true rfl) hfr, Nat.le_trans (Nat.le_of_ble_eq_true rfl) hlc⟩) (gpreV (wc := [(q2, .inr (9, [.int zparish_counts_size, .ref q3, .ref q4, .ref q5])), (q3, .inl (ci, 6, .inl zparish_counts_lefts)), (q4, .inl (ci, 6, .inl zparish_counts_rights)), (q5, .inl (ci, 6, .inl zparish_counts_numbers))]) (k := 9) (q0 := 2) hK hZ hP hD hS hA [2, 3, 4, 5] rfl rfl rfl rfl rfl) rfl rfl hl.1 rfl (lv_room (Nat.le_of_ble_eq_true rfl)) dX11_counted_30 ⟨Nat.zero_le _, Nat.zero_le _⟩) hD hS hA [2, 3, 4, 5] rfl (fun r_3 w9 H locs hw hP9 hk9 hS => ?_)
      obtain ⟨zparish_counts_size_4, zparish_counts_lefts_5, zparish_counts_rights_6, zparish_counts_numbers_7, rfl, hw⟩ := hw
      have hP : va_P D vwCl [(q0, .inr (10, [u0, .ref q1, u1, u2, u3, u4, .ref q6, .ref q7, .ref q8])), (q1, .inr (7, [u5, .ref q2, u6, u7])), (q2, .inr (9, [.int zparish_counts_size_4, .ref q3, .ref q4, .ref q5])), (q3, .inl (ci, 6, .inl zparish_counts_lefts_5)), (q4, .inl (ci, 6, .inl zparish_counts_rights_6)), (q5, .inl (ci, 6, .inl zparish_counts_numbers_7)), (q6, .inr (3, [.int zgate_known, u8, u9, u10, u11, u12])), (q7, .inr (4, [.int zguesses_known, u13, u14, u15, u16, u17, u18, u19, u20])), (q8, .inr (2, [.int zevenings_known, u21, u22, u23, u24, u25, u26]))] H := gjoin3 hP hD [2, 3, 4, 5] hP9 hk9 rfl rfl [none, none, some 0, some 1, some 2, some 3, none, none, none] rfl rfl
      have hD : va_D A [(q0, .inr (10, [u0, .ref q1, u1, u2, u3, u4, .ref q6, .ref q7, .ref q8])), (q1, .inr (7, [u5, .ref q2, u6, u7])), (q2, .inr (9, [.int zparish_counts_size_4, .ref q3, .ref q4, .ref q5])), (q3, .inl (ci, 6, .inl zparish_counts_lefts_5)), (q4, .inl (ci, 6, .inl zparish_counts_rights_6)), (q5, .inl (ci, 6, .inl zparish_counts_numbers_7)), (q6, .inr (3, [.int zgate_known, u8, u9, u10, u11, u12])), (q7, .inr (4, [.int zguesses_known, u13, u14, u15, u16, u17, u18, u19, u20])), (q8, .inr (2, [.int zevenings_known, u21, u22, u23, u24, u25, u26]))] := gD_re hD rfl
      clear hP9 hk9
      refine lv_if_ne (tgt := 39) hx hb dX11_counted_33 (by decide) (fun hc => ?_) (fun hc => ?_)
      · have hw := hw.1 hc
        refine lv_aload_n hx hb dX11_counted_39 rfl (lv_at hl 0 rfl) ?_
        refine gcallv (va_runV (As := []) (rest := []) ⟨hx, hb, hml, hown, ht⟩ (c_X11_changed l D ci cz tr q0 q6 q7 q8 H.size u0 (.ref q1) u1 u2 u3 u4 u8 u9 u10 u11 u12 u13 u14 u15 u16 u17 u18 u19 u20 u21 u22 u23 u24 u25 u26 zgate_known zguesses_known zevenings_known _ hw) (cwV 0 ht (gi_V mM_X11_94 mI_X11_changed mS_X11_changed mN_X11 mC_X11_changed) rfl rfl rfl (by decide +kernel) ⟨Nat.le_trans (Nat.le_of_ble_eq_true rfl) hfr, Nat.le_trans (Nat.le_of_ble_eq_true rfl) hlc⟩) (gpreV (wc := [(q0, .inr (10, [u0, .ref q1, u1, u2, u3, u4, .ref q6, .ref q7, .ref q8])), (q6, .inr (3, [.int zgate_known, u8, u9, u10, u11, u12])), (q7, .inr (4, [.int zguesses_known, u13, u14, u15, u16, u17, u18, u19, u20])), (q8, .inr (2, [.int zevenings_known, u21, u22, u23, u24, u25, u26]))]) (k := 10) (q0 := 0) hK hZ hP hD hS hA [0, 6, 7, 8] rfl rfl rfl rfl rfl) rfl rfl hl.1 rfl (lv_room (Nat.le_of_ble_eq_true rfl)) dX11_counted_40 ⟨Nat.zero_le _, Nat.zero_le _⟩) hD hS hA [0, 6, 7, 8] rfl (fun w9 H locs hw hP9 hk9 hS => ?_)
        obtain ⟨zgate_known_9, zguesses_known_10, zevenings_known_11, rfl, hw⟩ := hw
        have hP : va_P D vwCl [(q0, .inr (10, [u0, .ref q1, u1, u2, u3, u4, .ref q6, .ref q7, .ref q8])), (q1, .inr (7, [u5, .ref q2, u6, u7])), (q2, .inr (9, [.int zparish_counts_size_4, .ref q3, .ref q4, .ref q5])), (q3, .inl (ci, 6, .inl zparish_counts_lefts_5)), (q4, .inl (ci, 6, .inl zparish_counts_rights_6)), (q5, .inl (ci, 6, .inl zparish_counts_numbers_7)), (q6, .inr (3, [.int zgate_known_9, u8, u9, u10, u11, u12])), (q7, .inr (4, [.int zguesses_known_10, u13, u14, u15, u16, u17, u18, u19, u20])), (q8, .inr (2, [.int zevenings_known_11, u21, u22, u23, u24, u25, u26]))] H := gjoin3 hP hD [0, 6, 7, 8] hP9 hk9 rfl rfl [some 0, none, none, none, none, none, some 1, some 2, some 3] rfl rfl
        have hD : va_D A [(q0, .inr (10, [u0, .ref q1, u1, u2, u3, u4, .ref q6, .ref q7, .ref q8])), (q1, .inr (7, [u5, .ref q2, u6, u7])), (q2, .inr (9, [.int zparish_counts_size_4, .ref q3, .ref q4, .ref q5])), (q3, .inl (ci, 6, .inl zparish_counts_lefts_5)), (q4, .inl (ci, 6, .inl zparish_counts_rights_6)), (q5, .inl (ci, 6, .inl zparish_counts_numbers_7)), (q6, .inr (3, [.int zgate_known_9, u8, u9, u10, u11, u12])), (q7, .inr (4, [.int zguesses_known_10, u13, u14, u15, u16, u17, u18, u19, u20])), (q8, .inr (2, [.int zevenings_known_11, u21, u22, u23, u24, u25, u26]))] := gD_re hD rfl
        clear hP9 hk9
        refine lv_aload_n hx hb dX11_counted_43 rfl (lv_at hl 0 rfl) ?_
        refine va_get (D := D) (ci := 10) (v := .ref q1) (C := RX11) (T := TX11) (N := 9) hx hb ht in_X11 hown hK.1 hP 0 rfl rfl 1 (by decide) (ht _ mF_X11_19) (fun _ h9 => h9) rfl dX11_counted_44 ?_
        refine va_get (D := D) (ci := 7) (v := .ref q2) (C := RX8) (T := TX8) (N := 4) hx hb ht in_X8 hown hK.1 hP 1 rfl rfl 1 (by decide) (ht _ mF_X11_87) (fun _ h9 => h9) rfl dX11_counted_47 ?_
        refine va_get (D := D) (ci := 9) (v := .int zparish_counts_size_4) (C := RX10) (T := TX10) (N := 4) hx hb ht in_X10 hown hK.1 hP 2 rfl rfl 0 (by decide) (ht _ mF_X11_91) (fun _ h9 => h9) rfl dX11_counted_50 ?_
        exact hret _ _ H locs _ _ ⟨_, _, _, _, _, _, _, rfl, hw⟩ hP hS dX11_counted_53
      · have hw := hw.2 hc
        refine lv_bipush (v := (-4 : Int32)) hx hb dX11_counted_36 (by decide) ?_
        exact hret _ _ H locs _ _ ⟨_, _, _, _, _, _, _, rfl, hw⟩ hP hS dX11_counted_38
    · have hw := hw.2 hc
      refine lv_bipush (v := (-2 : Int32)) hx hb dX11_counted_17 (by decide) ?_
      exact hret _ _ H locs _ _ ⟨_, _, _, _, _, _, _, rfl, hw⟩ hP hS dX11_counted_19

def wp_X9_livingHeirOf (zdogs : Int32) (zhalves : Nat → Int32) (zheirs : Nat → Int32) (a1 : Int32) (post : Int32 → Prop) : Prop :=
  (vp_in a1 7 ∧ lo (fun _ _ => False) (fun (G9 : Int32 → Int32 → Prop) (x2_1 : Int32) (x3_2 : Int32) => ((zdogs ≤ x3_2 → post (-1 : Int32) ) ∧ (¬ zdogs ≤ x3_2 → wp_X9_has zdogs x2_1 (fun (r_3 : Int32) => ((r_3 = 0 → post (-1 : Int32) ) ∧ (¬ r_3 = 0 → wp_X9_isDead zhalves x2_1 (fun (r_4 : Int32) => ((¬ r_4 = 0 → (vp_in x2_1 7 ∧ G9 (zheirs (x2_1).toNatClampNeg) (x3_2 + (1 : Int32)))) ∧ (r_4 = 0 → post x2_1 ))))))))) (fun G9 => G9 (zheirs (a1).toNatClampNeg) (0 : Int32)))
set_option maxHeartbeats 4000000 in
set_option maxRecDepth 100000 in
theorem c_X9_livingHeirOf (l : Launch) (D : va_G) (ci cz : ClassId) (tr : List (ClassId × FieldType)) (q0 q1 q2 : Nat) (sz : Nat) (u0 u1 u2 : Value) (zdogs : Int32) (zhalves : Nat → Int32) (zheirs : Nat → Int32) (a1 : Int32) (post : Int32 → Prop) (hw : wp_X9_livingHeirOf zdogs zhalves zheirs a1 post) : gM l yX9_livingHeirOf cX9_livingHeirOf 4 (some .int) 1 21 D ci cz tr [(q0, .inr (8, [.int zdogs, u0, .ref q1, u1, u2, .ref q2])), (q1, .inl (ci, 7, .inl zhalves)), (q2, .inl (ci, 7, .inl zheirs))] sz [.ref q0, .int a1] (gQi D [(q0, .inr (8, [.int zdogs, u0, .ref q1, u1, u2, .ref q2])), (q1, .inl (ci, 7, .inl zhalves)), (q2, .inl (ci, 7, .inl zheirs))] sz (fun (r : Int32) w => w = [(q0, .inr (8, [.int zdogs, u0, .ref q1, u1, u2, .ref q2])), (q1, .inl (ci, 7, .inl zhalves)), (q2, .inl (ci, 7, .inl zheirs))] ∧ post r )) := by
  refine gmet_i RX9 (by decide +kernel) rfl (Nat.le_of_ble_eq_true rfl) ?_
  intro p e s m args below meth c A R Q C hfr hlc hP hD hret ls hl
  obtain ⟨hx, hb, hml, hown, ht, hK, hZ, hA⟩ := C
  have hl : lv_has ls 4 [(0, .ref q0), (1, .int a1)] := hl
  unfold wp_X9_livingHeirOf at hw
  refine g_in (fun H locs => W p l e R s m args below meth c H locs 0 0 Q (F0 m 0 ls [])) (fun H locs hS0 hP => ?_) hP (va_S.rf (A := A) (H0 := s.heap))
  have hS : va_S A s.heap H locs := hS0
  clear hS0
  refine lv_aload_n hx hb dX9_livingHeirOf_0 rfl (lv_at hl 0 rfl) ?_
  refine va_get (D := D) (ci := 8) (v := .ref q2) (C := RX9) (T := TX9) (N := 6) hx hb ht in_X9 hown hK.1 hP 0 rfl rfl 5 (by decide) (ht _ mF_X9_21) (fun _ h9 => h9) rfl dX9_livingHeirOf_1 ?_
  refine lv_iload_n hx hb dX9_livingHeirOf_4 rfl (lv_at hl 1 rfl) ?_
  obtain ⟨hin, hw⟩ := hw
  refine va_iald (D := D) hx hb hK.1 hP 2 0 rfl rfl hin dX9_livingHeirOf_5 ?_
  refine lv_istore_n (lv' := [(2, .int (zheirs (a1).toNatClampNeg)), (0, .ref q0), (1, .int a1)]) hx hb dX9_livingHeirOf_6 rfl hl (by decide) rfl (fun ls hl => ?_)
  refine lv_iconst (v := (0 : Int32)) hx hb dX9_livingHeirOf_7 (by decide) ?_
  refine lv_istore_n (lv' := [(3, .int (0 : Int32)), (2, .int (zheirs (a1).toNatClampNeg)), (0, .ref q0), (1, .int a1)]) hx hb dX9_livingHeirOf_8 rfl hl (by decide) rfl (fun ls hl => ?_)
  refine lo_walk hw (fun G9 => ∀ (x2_1 : Int32) (x3_2 : Int32) (H : Heap) (locs : List Loc) (ls : Array Slot), G9 x2_1 x3_2 → va_P D vwCl [(q0, .inr (8, [.int zdogs, u0, .ref q1, u1, u2, .ref q2])), (q1, .inl (ci, 7, .inl zhalves)), (q2, .inl (ci, 7, .inl zheirs))] H → va_S A s.heap H locs → lv_has ls 4 [(0, .ref q0), (2, .int x2_1), (3, .int x3_2)] → W p l e R s m args below meth c H locs 0 0 Q (F0 m 9 ls [])) (fun _ _ _ _ _ hw _ _ _ => False.elim hw) (fun G9 hG9 x2_1 x3_2 H locs ls hw hP hS hl => ?_) (fun G9 hG9 hw => hG9 _ _ H locs ls hw hP hS (lv_sub hl [2, 1, 0] rfl))
  have hD : va_D A [(q0, .inr (8, [.int zdogs, u0, .ref q1, u1, u2, .ref q2])), (q1, .inl (ci, 7, .inl zhalves)), (q2, .inl (ci, 7, .inl zheirs))] := gD_re hD rfl
  refine lv_iload_n hx hb dX9_livingHeirOf_9 rfl (lv_at hl 2 rfl) ?_
  refine lv_aload_n hx hb dX9_livingHeirOf_10 rfl (lv_at hl 0 rfl) ?_
  refine va_get (D := D) (ci := 8) (v := .int zdogs) (C := RX9) (T := TX9) (N := 6) hx hb ht in_X9 hown hK.1 hP 0 rfl rfl 0 (by decide) (ht _ mF_X9_24) (fun _ h9 => h9) rfl dX9_livingHeirOf_11 ?_
  refine lv_icmp_ge (tgt := 48) hx hb dX9_livingHeirOf_14 (by decide) (fun hc => ?_) (fun hc => ?_)
  · have hw := hw.1 hc
    refine lv_iconst (v := (-1 : Int32)) hx hb dX9_livingHeirOf_48 (by decide) ?_
    exact hret _ _ H locs _ _ ⟨rfl, hw⟩ hP hS dX9_livingHeirOf_49
  · have hw := hw.2 hc
    refine lv_aload_n hx hb dX9_livingHeirOf_17 rfl (lv_at hl 0 rfl) ?_
    refine lv_iload_n hx hb dX9_livingHeirOf_18 rfl (lv_at hl 1 rfl) ?_
    refine gcalli (va_runV (As := [.int x2_1]) (rest := []) ⟨hx, hb, hml, hown, ht⟩ (c_X9_has l D ci cz tr q0 H.size u0 (.ref q1) u1 u2 (.ref q2) zdogs x2_1 _ hw) (cwV 1 ht (gi_V mM_X9_51 mI_X9_has mS_X9_has mN_X9 mC_X9_has) rfl rfl rfl (by decide +kernel) ⟨Nat.le_trans (Nat.le_of_ble_eq_true rfl) hfr, Nat.le_trans (Nat.le_of_ble_eq_true rfl) hlc⟩) (gpreV (wc := [(q0, .inr (8, [.int zdogs, u0, .ref q1, u1, u2, .ref q2]))]) (k := 8) (q0 := 0) hK hZ hP hD hS hA [0] rfl rfl rfl rfl rfl) rfl rfl hl.1 rfl (lv_room (Nat.le_of_ble_eq_true rfl)) dX9_livingHeirOf_19 ⟨Nat.zero_le _, Nat.zero_le _⟩) hD hS hA [0] rfl (fun r_3 w9 H locs hw hP9 hk9 hS => ?_)
    obtain ⟨rfl, hw⟩ := hw
    have hP : va_P D vwCl [(q0, .inr (8, [.int zdogs, u0, .ref q1, u1, u2, .ref q2])), (q1, .inl (ci, 7, .inl zhalves)), (q2, .inl (ci, 7, .inl zheirs))] H := gjoin3 hP hD [0] hP9 hk9 rfl rfl [some 0, none, none] rfl rfl
    clear hP9 hk9
    refine lv_if_eq (tgt := 48) hx hb dX9_livingHeirOf_22 (by decide) (fun hc => ?_) (fun hc => ?_)
    · have hw := hw.1 hc
      refine lv_iconst (v := (-1 : Int32)) hx hb dX9_livingHeirOf_48 (by decide) ?_
      exact hret _ _ H locs _ _ ⟨rfl, hw⟩ hP hS dX9_livingHeirOf_49
    · have hw := hw.2 hc
      refine lv_aload_n hx hb dX9_livingHeirOf_25 rfl (lv_at hl 0 rfl) ?_
      refine lv_iload_n hx hb dX9_livingHeirOf_26 rfl (lv_at hl 1 rfl) ?_
      refine gcalli (va_runV (As := [.int x2_1]) (rest := []) ⟨hx, hb, hml, hown, ht⟩ (c_X9_isDead l D ci cz tr q0 q1 H.size (.int zdogs) u0 u1 u2 (.ref q2) zhalves x2_1 _ hw) (cwV 1 ht (gi_V mM_X9_37 mI_X9_isDead mS_X9_isDead mN_X9 mC_X9_isDead) rfl rfl rfl (by decide +kernel) ⟨Nat.le_trans (Nat.le_of_ble_eq_true rfl) hfr, Nat.le_trans (Nat.le_of_ble_eq_true rfl) hlc⟩) (gpreV (wc := [(q0, .inr (8, [.int zdogs, u0, .ref q1, u1, u2, .ref q2])), (q1, .inl (ci, 7, .inl zhalves))]) (k := 8) (q0 := 0) hK hZ hP hD hS hA [0, 1] rfl rfl rfl rfl rfl) rfl rfl hl.1 rfl (lv_room (Nat.le_of_ble_eq_true rfl)) dX9_livingHeirOf_27 ⟨Nat.zero_le _, Nat.zero_le _⟩) hD hS hA [0, 1] rfl (fun r_4 w9 H locs hw hP9 hk9 hS => ?_)
      obtain ⟨rfl, hw⟩ := hw
      have hP : va_P D vwCl [(q0, .inr (8, [.int zdogs, u0, .ref q1, u1, u2, .ref q2])), (q1, .inl (ci, 7, .inl zhalves)), (q2, .inl (ci, 7, .inl zheirs))] H := gjoin3 hP hD [0, 1] hP9 hk9 rfl rfl [some 0, some 1, none] rfl rfl
      clear hP9 hk9
      refine lv_if_ne (tgt := 35) hx hb dX9_livingHeirOf_30 (by decide) (fun hc => ?_) (fun hc => ?_)
      · have hw := hw.1 hc
        refine lv_aload_n hx hb dX9_livingHeirOf_35 rfl (lv_at hl 0 rfl) ?_
        refine va_get (D := D) (ci := 8) (v := .ref q2) (C := RX9) (T := TX9) (N := 6) hx hb ht in_X9 hown hK.1 hP 0 rfl rfl 5 (by decide) (ht _ mF_X9_21) (fun _ h9 => h9) rfl dX9_livingHeirOf_36 ?_
        refine lv_iload_n hx hb dX9_livingHeirOf_39 rfl (lv_at hl 1 rfl) ?_
        obtain ⟨hin, hw⟩ := hw
        refine va_iald (D := D) hx hb hK.1 hP 2 0 rfl rfl hin dX9_livingHeirOf_40 ?_
        refine lv_istore_n (lv' := [(2, .int (zheirs (x2_1).toNatClampNeg)), (0, .ref q0), (3, .int x3_2)]) hx hb dX9_livingHeirOf_41 rfl hl (by decide) rfl (fun ls hl => ?_)
        refine lv_iinc (v := (x3_2 + (1 : Int32))) (lv' := [(3, .int (x3_2 + (1 : Int32))), (2, .int (zheirs (x2_1).toNatClampNeg)), (0, .ref q0)]) hx hb dX9_livingHeirOf_42 hl (k := 2) rfl rfl (by decide) rfl (fun ls hl => ?_)
        refine lv_goto (tgt := 9) hx hb dX9_livingHeirOf_45 (by decide) ?_
        exact hG9 _ _ H locs ls hw hP hS (lv_sub hl [2, 1, 0] rfl)
      · have hw := hw.2 hc
        refine lv_iload_n hx hb dX9_livingHeirOf_33 rfl (lv_at hl 1 rfl) ?_
        exact hret _ _ H locs _ _ ⟨rfl, hw⟩ hP hS dX9_livingHeirOf_34

def wp_X9_bury (zdogs : Int32) (zhalves : Nat → Int32) (zheirs : Nat → Int32) (a1 : Int32) (post : Int32 → (Nat → Int32) → Prop) : Prop :=
  (vp_in a1 7 ∧ (vp_in a1 7 ∧ wp_X9_livingHeirOf zdogs (upd zhalves (a1).toNatClampNeg (0 : Int32)) zheirs a1 (fun (r_1 : Int32) => ((¬ r_1 = (-1 : Int32) → (vp_in r_1 7 ∧ (vp_in r_1 7 ∧ (vp_in r_1 7 ∧ post ((((upd zhalves (a1).toNatClampNeg (0 : Int32)) (r_1).toNatClampNeg) + (zhalves (a1).toNatClampNeg)) - ((upd (upd zhalves (a1).toNatClampNeg (0 : Int32)) (r_1).toNatClampNeg (if (9 : Int32) < (((upd zhalves (a1).toNatClampNeg (0 : Int32)) (r_1).toNatClampNeg) + (zhalves (a1).toNatClampNeg)) then (9 : Int32) else (((upd zhalves (a1).toNatClampNeg (0 : Int32)) (r_1).toNatClampNeg) + (zhalves (a1).toNatClampNeg)))) (r_1).toNatClampNeg)) (upd (upd zhalves (a1).toNatClampNeg (0 : Int32)) (r_1).toNatClampNeg (if (9 : Int32) < (((upd zhalves (a1).toNatClampNeg (0 : Int32)) (r_1).toNatClampNeg) + (zhalves (a1).toNatClampNeg)) then (9 : Int32) else (((upd zhalves (a1).toNatClampNeg (0 : Int32)) (r_1).toNatClampNeg) + (zhalves (a1).toNatClampNeg)))))))) ∧ (r_1 = (-1 : Int32) → post (zhalves (a1).toNatClampNeg) (upd zhalves (a1).toNatClampNeg (0 : Int32)))))))
set_option maxHeartbeats 4000000 in
set_option maxRecDepth 100000 in
theorem c_X9_bury (l : Launch) (D : va_G) (ci cz : ClassId) (tr : List (ClassId × FieldType)) (q0 q1 q2 : Nat) (sz : Nat) (u0 u1 u2 : Value) (zdogs : Int32) (zhalves : Nat → Int32) (zheirs : Nat → Int32) (a1 : Int32) (post : Int32 → (Nat → Int32) → Prop) (hw : wp_X9_bury zdogs zhalves zheirs a1 post) : gM l yX9_bury cX9_bury 5 (some .int) 2 44 D ci cz tr [(q0, .inr (8, [.int zdogs, u0, .ref q1, u1, u2, .ref q2])), (q1, .inl (ci, 7, .inl zhalves)), (q2, .inl (ci, 7, .inl zheirs))] sz [.ref q0, .int a1] (gQi D [(q0, .inr (8, [.int zdogs, u0, .ref q1, u1, u2, .ref q2])), (q1, .inl (ci, 7, .inl zhalves)), (q2, .inl (ci, 7, .inl zheirs))] sz (fun (r : Int32) w => ∃ (o_zhalves : Nat → Int32), w = [(q0, .inr (8, [.int zdogs, u0, .ref q1, u1, u2, .ref q2])), (q1, .inl (ci, 7, .inl o_zhalves)), (q2, .inl (ci, 7, .inl zheirs))] ∧ post r o_zhalves)) := by
  refine gmet_i RX9 (by decide +kernel) rfl (Nat.le_of_ble_eq_true rfl) ?_
  intro p e s m args below meth c A R Q C hfr hlc hP hD hret ls hl
  obtain ⟨hx, hb, hml, hown, ht, hK, hZ, hA⟩ := C
  have hl : lv_has ls 5 [(0, .ref q0), (1, .int a1)] := hl
  unfold wp_X9_bury at hw
  refine g_in (fun H locs => W p l e R s m args below meth c H locs 0 0 Q (F0 m 0 ls [])) (fun H locs hS0 hP => ?_) hP (va_S.rf (A := A) (H0 := s.heap))
  have hS : va_S A s.heap H locs := hS0
  clear hS0
  refine lv_aload_n hx hb dX9_bury_0 rfl (lv_at hl 0 rfl) ?_
  refine va_get (D := D) (ci := 8) (v := .ref q1) (C := RX9) (T := TX9) (N := 6) hx hb ht in_X9 hown hK.1 hP 0 rfl rfl 2 (by decide) (ht _ mF_X9_9) (fun _ h9 => h9) rfl dX9_bury_1 ?_
  refine lv_iload_n hx hb dX9_bury_4 rfl (lv_at hl 1 rfl) ?_
  obtain ⟨hin, hw⟩ := hw
  refine va_iald (D := D) hx hb hK.1 hP 1 0 rfl rfl hin dX9_bury_5 ?_
  refine lv_istore_n (lv' := [(2, .int (zhalves (a1).toNatClampNeg)), (0, .ref q0), (1, .int a1)]) hx hb dX9_bury_6 rfl hl (by decide) rfl (fun ls hl => ?_)
  refine lv_aload_n hx hb dX9_bury_7 rfl (lv_at hl 1 rfl) ?_
  refine va_get (D := D) (ci := 8) (v := .ref q1) (C := RX9) (T := TX9) (N := 6) hx hb ht in_X9 hown hK.1 hP 0 rfl rfl 2 (by decide) (ht _ mF_X9_9) (fun _ h9 => h9) rfl dX9_bury_8 ?_
  refine lv_iload_n hx hb dX9_bury_11 rfl (lv_at hl 2 rfl) ?_
  refine lv_iconst (v := (0 : Int32)) hx hb dX9_bury_12 (by decide) ?_
  obtain ⟨hin, hw⟩ := hw
  refine va_iast (D := D) hx hb hK.1 hP hD hS 1 0 rfl rfl hin dX9_bury_13 (fun H locs hP hD hS => ?_)
  have hP : va_P D vwCl [(q0, .inr (8, [.int zdogs, u0, .ref q1, u1, u2, .ref q2])), (q1, .inl (ci, 7, .inl (upd zhalves (a1).toNatClampNeg (0 : Int32)))), (q2, .inl (ci, 7, .inl zheirs))] H := hP
  have hD : va_D A [(q0, .inr (8, [.int zdogs, u0, .ref q1, u1, u2, .ref q2])), (q1, .inl (ci, 7, .inl (upd zhalves (a1).toNatClampNeg (0 : Int32)))), (q2, .inl (ci, 7, .inl zheirs))] := hD
  refine lv_aload_n hx hb dX9_bury_14 rfl (lv_at hl 1 rfl) ?_
  refine lv_iload_n hx hb dX9_bury_15 rfl (lv_at hl 2 rfl) ?_
  refine gcalli (va_runV (As := [.int a1]) (rest := []) ⟨hx, hb, hml, hown, ht⟩ (c_X9_livingHeirOf l D ci cz tr q0 q1 q2 H.size u0 u1 u2 zdogs (upd zhalves (a1).toNatClampNeg (0 : Int32)) zheirs a1 _ hw) (cwV 1 ht (gi_V mM_X9_41 mI_X9_livingHeirOf mS_X9_livingHeirOf mN_X9 mC_X9_livingHeirOf) rfl rfl rfl (by decide +kernel) ⟨Nat.le_trans (Nat.le_of_ble_eq_true rfl) hfr, Nat.le_trans (Nat.le_of_ble_eq_true rfl) hlc⟩) (gpreV (wc := [(q0, .inr (8, [.int zdogs, u0, .ref q1, u1, u2, .ref q2])), (q1, .inl (ci, 7, .inl (upd zhalves (a1).toNatClampNeg (0 : Int32)))), (q2, .inl (ci, 7, .inl zheirs))]) (k := 8) (q0 := 0) hK hZ hP hD hS hA [0, 1, 2] rfl rfl rfl rfl rfl) rfl rfl hl.1 rfl (lv_room (Nat.le_of_ble_eq_true rfl)) dX9_bury_16 ⟨Nat.zero_le _, Nat.zero_le _⟩) hD hS hA [0, 1, 2] rfl (fun r_1 w9 H locs hw hP9 hk9 hS => ?_)
  obtain ⟨rfl, hw⟩ := hw
  have hP : va_P D vwCl [(q0, .inr (8, [.int zdogs, u0, .ref q1, u1, u2, .ref q2])), (q1, .inl (ci, 7, .inl (upd zhalves (a1).toNatClampNeg (0 : Int32)))), (q2, .inl (ci, 7, .inl zheirs))] H := gjoin3 hP hD [0, 1, 2] hP9 hk9 rfl rfl [some 0, some 1, some 2] rfl rfl
  clear hP9 hk9
  refine lv_istore_n (lv' := [(3, .int r_1), (2, .int (zhalves (a1).toNatClampNeg)), (0, .ref q0), (1, .int a1)]) hx hb dX9_bury_19 rfl hl (by decide) rfl (fun ls hl => ?_)
  refine lv_iload_n hx hb dX9_bury_20 rfl (lv_at hl 0 rfl) ?_
  refine lv_iconst (v := (-1 : Int32)) hx hb dX9_bury_21 (by decide) ?_
  refine lv_icmp_ne (tgt := 27) hx hb dX9_bury_22 (by decide) (fun hc => ?_) (fun hc => ?_)
  · have hw := hw.1 hc
    refine lv_aload_n hx hb dX9_bury_27 rfl (lv_at hl 2 rfl) ?_
    refine va_get (D := D) (ci := 8) (v := .ref q1) (C := RX9) (T := TX9) (N := 6) hx hb ht in_X9 hown hK.1 hP 0 rfl rfl 2 (by decide) (ht _ mF_X9_9) (fun _ h9 => h9) rfl dX9_bury_28 ?_
    refine lv_iload_n hx hb dX9_bury_31 rfl (lv_at hl 0 rfl) ?_
    obtain ⟨hin, hw⟩ := hw
    refine va_iald (D := D) hx hb hK.1 hP 1 0 rfl rfl hin dX9_bury_32 ?_
    refine lv_iload_n hx hb dX9_bury_33 rfl (lv_at hl 1 rfl) ?_
    refine lv_iadd hx hb dX9_bury_34 ?_
    refine lv_istore (lv' := [(4, .int (((upd zhalves (a1).toNatClampNeg (0 : Int32)) (r_1).toNatClampNeg) + (zhalves (a1).toNatClampNeg))), (3, .int r_1), (2, .int (zhalves (a1).toNatClampNeg)), (0, .ref q0), (1, .int a1)]) hx hb dX9_bury_35 hl (by decide) rfl (fun ls hl => ?_)
    refine lv_aload_n hx hb dX9_bury_37 rfl (lv_at hl 3 rfl) ?_
    refine va_get (D := D) (ci := 8) (v := .ref q1) (C := RX9) (T := TX9) (N := 6) hx hb ht in_X9 hown hK.1 hP 0 rfl rfl 2 (by decide) (ht _ mF_X9_9) (fun _ h9 => h9) rfl dX9_bury_38 ?_
    refine lv_iload_n hx hb dX9_bury_41 rfl (lv_at hl 1 rfl) ?_
    refine lv_iload hx hb dX9_bury_42 (lv_at hl 0 rfl) ?_
    refine lv_bipush (v := (9 : Int32)) hx hb dX9_bury_44 (by decide) ?_
    refine va_mmin hx hb (hml.trans hl.1.symm) hown (ht _ mM_X9_45) (ht _ mT_J9_min_7cf53) (ht _ mN_J9) (ht _ mC_J9_min_7cf53) (Nat.le_trans (Nat.le_of_ble_eq_true rfl) hfr) (Nat.le_trans (Nat.le_of_ble_eq_true rfl) hlc) (Nat.zero_le _) (Nat.zero_le _) dX9_bury_46 ?_
    obtain ⟨hin, hw⟩ := hw
    refine va_iast (D := D) hx hb hK.1 hP hD hS 1 0 rfl rfl hin dX9_bury_49 (fun H locs hP hD hS => ?_)
    have hP : va_P D vwCl [(q0, .inr (8, [.int zdogs, u0, .ref q1, u1, u2, .ref q2])), (q1, .inl (ci, 7, .inl (upd (upd zhalves (a1).toNatClampNeg (0 : Int32)) (r_1).toNatClampNeg (if (9 : Int32) < (((upd zhalves (a1).toNatClampNeg (0 : Int32)) (r_1).toNatClampNeg) + (zhalves (a1).toNatClampNeg)) then (9 : Int32) else (((upd zhalves (a1).toNatClampNeg (0 : Int32)) (r_1).toNatClampNeg) + (zhalves (a1).toNatClampNeg)))))), (q2, .inl (ci, 7, .inl zheirs))] H := hP
    have hD : va_D A [(q0, .inr (8, [.int zdogs, u0, .ref q1, u1, u2, .ref q2])), (q1, .inl (ci, 7, .inl (upd (upd zhalves (a1).toNatClampNeg (0 : Int32)) (r_1).toNatClampNeg (if (9 : Int32) < (((upd zhalves (a1).toNatClampNeg (0 : Int32)) (r_1).toNatClampNeg) + (zhalves (a1).toNatClampNeg)) then (9 : Int32) else (((upd zhalves (a1).toNatClampNeg (0 : Int32)) (r_1).toNatClampNeg) + (zhalves (a1).toNatClampNeg)))))), (q2, .inl (ci, 7, .inl zheirs))] := hD
    refine lv_iload hx hb dX9_bury_50 (lv_at hl 0 rfl) ?_
    refine lv_aload_n hx hb dX9_bury_52 rfl (lv_at hl 3 rfl) ?_
    refine va_get (D := D) (ci := 8) (v := .ref q1) (C := RX9) (T := TX9) (N := 6) hx hb ht in_X9 hown hK.1 hP 0 rfl rfl 2 (by decide) (ht _ mF_X9_9) (fun _ h9 => h9) rfl dX9_bury_53 ?_
    refine lv_iload_n hx hb dX9_bury_56 rfl (lv_at hl 1 rfl) ?_
    obtain ⟨hin, hw⟩ := hw
    refine va_iald (D := D) hx hb hK.1 hP 1 0 rfl rfl hin dX9_bury_57 ?_
    refine lv_isub hx hb dX9_bury_58 ?_
    exact hret _ _ H locs _ _ ⟨_, rfl, hw⟩ hP hS dX9_bury_59
  · have hw := hw.2 hc
    refine lv_iload_n hx hb dX9_bury_25 rfl (lv_at hl 1 rfl) ?_
    exact hret _ _ H locs _ _ ⟨_, rfl, hw⟩ hP hS dX9_bury_26

def wp_X11_dies (zparish_roll_dogs : Int32) (zparish_roll_halves : Nat → Int32) (zparish_roll_heirs : Nat → Int32) (zgate_known : Int32) (zguesses_known : Int32) (zevenings_known : Int32) (a1 : Int32) (post : Int32 → (Nat → Int32) → Int32 → Int32 → Int32 → Prop) : Prop :=
  wp_X9_has zparish_roll_dogs a1 (fun (r_1 : Int32) => ((¬ r_1 = 0 → wp_X9_isDead zparish_roll_halves a1 (fun (r_2 : Int32) => ((r_2 = 0 → wp_X11_changed zgate_known zguesses_known zevenings_known (fun (zgate_known_4 : Int32) (zguesses_known_5 : Int32) (zevenings_known_6 : Int32) => wp_X9_bury zparish_roll_dogs zparish_roll_halves zparish_roll_heirs a1 (fun (r_7 : Int32) (zparish_roll_halves_8 : Nat → Int32) => post r_7 zparish_roll_halves_8 zgate_known_4 zguesses_known_5 zevenings_known_6))) ∧ (¬ r_2 = 0 → post (-3 : Int32) zparish_roll_halves zgate_known zguesses_known zevenings_known)))) ∧ (r_1 = 0 → post (-1 : Int32) zparish_roll_halves zgate_known zguesses_known zevenings_known)))
set_option maxHeartbeats 4000000 in
set_option maxRecDepth 100000 in
theorem c_X11_dies (l : Launch) (D : va_G) (ci cz : ClassId) (tr : List (ClassId × FieldType)) (q0 q1 q2 q3 q4 q5 q6 q7 : Nat) (sz : Nat) (u0 u1 u2 u3 u4 u5 u6 u7 u8 u9 u10 u11 u12 u13 u14 u15 u16 u17 u18 u19 u20 u21 u22 u23 u24 u25 u26 u27 u28 u29 : Value) (zparish_roll_dogs : Int32) (zparish_roll_halves : Nat → Int32) (zparish_roll_heirs : Nat → Int32) (zgate_known : Int32) (zguesses_known : Int32) (zevenings_known : Int32) (a1 : Int32) (post : Int32 → (Nat → Int32) → Int32 → Int32 → Int32 → Prop) (hw : wp_X11_dies zparish_roll_dogs zparish_roll_halves zparish_roll_heirs zgate_known zguesses_known zevenings_known a1 post) : gM l yX11_dies cX11_dies 3 (some .int) 3 68 D ci cz tr [(q0, .inr (10, [u0, .ref q1, u1, u2, u3, u4, .ref q5, .ref q6, .ref q7])), (q1, .inr (7, [.ref q2, u5, u6, u7])), (q2, .inr (8, [.int zparish_roll_dogs, u8, .ref q3, u9, u10, .ref q4])), (q3, .inl (ci, 7, .inl zparish_roll_halves)), (q4, .inl (ci, 7, .inl zparish_roll_heirs)), (q5, .inr (3, [.int zgate_known, u11, u12, u13, u14, u15])), (q6, .inr (4, [.int zguesses_known, u16, u17, u18, u19, u20, u21, u22, u23])), (q7, .inr (2, [.int zevenings_known, u24, u25, u26, u27, u28, u29]))] sz [.ref q0, .int a1] (gQi D [(q0, .inr (10, [u0, .ref q1, u1, u2, u3, u4, .ref q5, .ref q6, .ref q7])), (q1, .inr (7, [.ref q2, u5, u6, u7])), (q2, .inr (8, [.int zparish_roll_dogs, u8, .ref q3, u9, u10, .ref q4])), (q3, .inl (ci, 7, .inl zparish_roll_halves)), (q4, .inl (ci, 7, .inl zparish_roll_heirs)), (q5, .inr (3, [.int zgate_known, u11, u12, u13, u14, u15])), (q6, .inr (4, [.int zguesses_known, u16, u17, u18, u19, u20, u21, u22, u23])), (q7, .inr (2, [.int zevenings_known, u24, u25, u26, u27, u28, u29]))] sz (fun (r : Int32) w => ∃ (o_zparish_roll_halves : Nat → Int32) (o_zgate_known : Int32) (o_zguesses_known : Int32) (o_zevenings_known : Int32), w = [(q0, .inr (10, [u0, .ref q1, u1, u2, u3, u4, .ref q5, .ref q6, .ref q7])), (q1, .inr (7, [.ref q2, u5, u6, u7])), (q2, .inr (8, [.int zparish_roll_dogs, u8, .ref q3, u9, u10, .ref q4])), (q3, .inl (ci, 7, .inl o_zparish_roll_halves)), (q4, .inl (ci, 7, .inl zparish_roll_heirs)), (q5, .inr (3, [.int o_zgate_known, u11, u12, u13, u14, u15])), (q6, .inr (4, [.int o_zguesses_known, u16, u17, u18, u19, u20, u21, u22, u23])), (q7, .inr (2, [.int o_zevenings_known, u24, u25, u26, u27, u28, u29]))] ∧ post r o_zparish_roll_halves o_zgate_known o_zguesses_known o_zevenings_known)) := by
  refine gmet_i RX11 (by decide +kernel) rfl (Nat.le_of_ble_eq_true rfl) ?_
  intro p e s m args below meth c A R Q C hfr hlc hP hD hret ls hl
  obtain ⟨hx, hb, hml, hown, ht, hK, hZ, hA⟩ := C
  have hl : lv_has ls 3 [(0, .ref q0), (1, .int a1)] := hl
  unfold wp_X11_dies at hw
  refine g_in (fun H locs => W p l e R s m args below meth c H locs 0 0 Q (F0 m 0 ls [])) (fun H locs hS0 hP => ?_) hP (va_S.rf (A := A) (H0 := s.heap))
  have hS : va_S A s.heap H locs := hS0
  clear hS0
  refine lv_aload_n hx hb dX11_dies_0 rfl (lv_at hl 0 rfl) ?_
  refine va_get (D := D) (ci := 10) (v := .ref q1) (C := RX11) (T := TX11) (N := 9) hx hb ht in_X11 hown hK.1 hP 0 rfl rfl 1 (by decide) (ht _ mF_X11_19) (fun _ h9 => h9) rfl dX11_dies_1 ?_
  refine va_get (D := D) (ci := 7) (v := .ref q2) (C := RX8) (T := TX8) (N := 4) hx hb ht in_X8 hown hK.1 hP 1 rfl rfl 0 (by decide) (ht _ mF_X11_74) (fun _ h9 => h9) rfl dX11_dies_4 ?_
  refine lv_astore_n (lv' := [(2, .ref q2), (0, .ref q0), (1, .int a1)]) hx hb dX11_dies_7 rfl hl (by decide) rfl (fun ls hl => ?_)
  refine lv_aload_n hx hb dX11_dies_8 rfl (lv_at hl 0 rfl) ?_
  refine lv_iload_n hx hb dX11_dies_9 rfl (lv_at hl 2 rfl) ?_
  refine gcalli (va_runV (As := [.int a1]) (rest := []) ⟨hx, hb, hml, hown, ht⟩ (c_X9_has l D ci cz tr q2 H.size u8 (.ref q3) u9 u10 (.ref q4) zparish_roll_dogs a1 _ hw) (cwV 1 ht (gi_V mM_X11_100 mI_X9_has mS_X9_has mN_X9 mC_X9_has) rfl rfl rfl (by decide +kernel) ⟨Nat.le_trans (Nat.le_of_ble_eq_true rfl) hfr, Nat.le_trans (Nat.le_of_ble_eq_true rfl) hlc⟩) (gpreV (wc := [(q2, .inr (8, [.int zparish_roll_dogs, u8, .ref q3, u9, u10, .ref q4]))]) (k := 8) (q0 := 2) hK hZ hP hD hS hA [2] rfl rfl rfl rfl rfl) rfl rfl hl.1 rfl (lv_room (Nat.le_of_ble_eq_true rfl)) dX11_dies_10 ⟨Nat.zero_le _, Nat.zero_le _⟩) hD hS hA [2] rfl (fun r_1 w9 H locs hw hP9 hk9 hS => ?_)
  obtain ⟨rfl, hw⟩ := hw
  have hP : va_P D vwCl [(q0, .inr (10, [u0, .ref q1, u1, u2, u3, u4, .ref q5, .ref q6, .ref q7])), (q1, .inr (7, [.ref q2, u5, u6, u7])), (q2, .inr (8, [.int zparish_roll_dogs, u8, .ref q3, u9, u10, .ref q4])), (q3, .inl (ci, 7, .inl zparish_roll_halves)), (q4, .inl (ci, 7, .inl zparish_roll_heirs)), (q5, .inr (3, [.int zgate_known, u11, u12, u13, u14, u15])), (q6, .inr (4, [.int zguesses_known, u16, u17, u18, u19, u20, u21, u22, u23])), (q7, .inr (2, [.int zevenings_known, u24, u25, u26, u27, u28, u29]))] H := gjoin3 hP hD [2] hP9 hk9 rfl rfl [none, none, some 0, none, none, none, none, none] rfl rfl
  clear hP9 hk9
  refine lv_if_ne (tgt := 18) hx hb dX11_dies_13 (by decide) (fun hc => ?_) (fun hc => ?_)
  · have hw := hw.1 hc
    refine lv_aload_n hx hb dX11_dies_18 rfl (lv_at hl 0 rfl) ?_
    refine lv_iload_n hx hb dX11_dies_19 rfl (lv_at hl 2 rfl) ?_
    refine gcalli (va_runV (As := [.int a1]) (rest := []) ⟨hx, hb, hml, hown, ht⟩ (c_X9_isDead l D ci cz tr q2 q3 H.size (.int zparish_roll_dogs) u8 u9 u10 (.ref q4) zparish_roll_halves a1 _ hw) (cwV 1 ht (gi_V mM_X11_123 mI_X9_isDead mS_X9_isDead mN_X9 mC_X9_isDead) rfl rfl rfl (by decide +kernel) ⟨Nat.le_trans (Nat.le_of_ble_eq_true rfl) hfr, Nat.le_trans (Nat.le_of_ble_eq_true rfl) hlc⟩) (gpreV (wc := [(q2, .inr (8, [.int zparish_roll_dogs, u8, .ref q3, u9, u10, .ref q4])), (q3, .inl (ci, 7, .inl zparish_roll_halves))]) (k := 8) (q0 := 2) hK hZ hP hD hS hA [2, 3] rfl rfl rfl rfl rfl) rfl rfl hl.1 rfl (lv_room (Nat.le_of_ble_eq_true rfl)) dX11_dies_20 ⟨Nat.zero_le _, Nat.zero_le _⟩) hD hS hA [2, 3] rfl (fun r_2 w9 H locs hw hP9 hk9 hS => ?_)
    obtain ⟨rfl, hw⟩ := hw
    have hP : va_P D vwCl [(q0, .inr (10, [u0, .ref q1, u1, u2, u3, u4, .ref q5, .ref q6, .ref q7])), (q1, .inr (7, [.ref q2, u5, u6, u7])), (q2, .inr (8, [.int zparish_roll_dogs, u8, .ref q3, u9, u10, .ref q4])), (q3, .inl (ci, 7, .inl zparish_roll_halves)), (q4, .inl (ci, 7, .inl zparish_roll_heirs)), (q5, .inr (3, [.int zgate_known, u11, u12, u13, u14, u15])), (q6, .inr (4, [.int zguesses_known, u16, u17, u18, u19, u20, u21, u22, u23])), (q7, .inr (2, [.int zevenings_known, u24, u25, u26, u27, u28, u29]))] H := gjoin3 hP hD [2, 3] hP9 hk9 rfl rfl [none, none, some 0, some 1, none, none, none, none] rfl rfl
    clear hP9 hk9
    refine lv_if_eq (tgt := 29) hx hb dX11_dies_23 (by decide) (fun hc => ?_) (fun hc => ?_)
    · have hw := hw.1 hc
      refine lv_aload_n hx hb dX11_dies_29 rfl (lv_at hl 1 rfl) ?_
      refine gcallv (va_runV (As := []) (rest := []) ⟨hx, hb, hml, hown, ht⟩ (c_X11_changed l D ci cz tr q0 q5 q6 q7 H.size u0 (.ref q1) u1 u2 u3 u4 u11 u12 u13 u14 u15 u16 u17 u18 u19 u20 u21 u22 u23 u24 u25 u26 u27 u28 u29 zgate_known zguesses_known zevenings_known _ hw) (cwV 0 ht (gi_V mM_X11_94 mI_X11_changed mS_X11_changed mN_X11 mC_X11_changed) rfl rfl rfl (by decide +kernel) ⟨Nat.le_trans (Nat.le_of_ble_eq_true rfl) hfr, Nat.le_trans (Nat.le_of_ble_eq_true rfl) hlc⟩) (gpreV (wc := [(q0, .inr (10, [u0, .ref q1, u1, u2, u3, u4, .ref q5, .ref q6, .ref q7])), (q5, .inr (3, [.int zgate_known, u11, u12, u13, u14, u15])), (q6, .inr (4, [.int zguesses_known, u16, u17, u18, u19, u20, u21, u22, u23])), (q7, .inr (2, [.int zevenings_known, u24, u25, u26, u27, u28, u29]))]) (k := 10) (q0 := 0) hK hZ hP hD hS hA [0, 5, 6, 7] rfl rfl rfl rfl rfl) rfl rfl hl.1 rfl (lv_room (Nat.le_of_ble_eq_true rfl)) dX11_dies_30 ⟨Nat.zero_le _, Nat.zero_le _⟩) hD hS hA [0, 5, 6, 7] rfl (fun w9 H locs hw hP9 hk9 hS => ?_)
      obtain ⟨zgate_known_4, zguesses_known_5, zevenings_known_6, rfl, hw⟩ := hw
      have hP : va_P D vwCl [(q0, .inr (10, [u0, .ref q1, u1, u2, u3, u4, .ref q5, .ref q6, .ref q7])), (q1, .inr (7, [.ref q2, u5, u6, u7])), (q2, .inr (8, [.int zparish_roll_dogs, u8, .ref q3, u9, u10, .ref q4])), (q3, .inl (ci, 7, .inl zparish_roll_halves)), (q4, .inl (ci, 7, .inl zparish_roll_heirs)), (q5, .inr (3, [.int zgate_known_4, u11, u12, u13, u14, u15])), (q6, .inr (4, [.int zguesses_known_5, u16, u17, u18, u19, u20, u21, u22, u23])), (q7, .inr (2, [.int zevenings_known_6, u24, u25, u26, u27, u28, u29]))] H := gjoin3 hP hD [0, 5, 6, 7] hP9 hk9 rfl rfl [some 0, none, none, none, none, some 1, some 2, some 3] rfl rfl
      have hD : va_D A [(q0, .inr (10, [u0, .ref q1, u1, u2, u3, u4, .ref q5, .ref q6, .ref q7])), (q1, .inr (7, [.ref q2, u5, u6, u7])), (q2, .inr (8, [.int zparish_roll_dogs, u8, .ref q3, u9, u10, .ref q4])), (q3, .inl (ci, 7, .inl zparish_roll_halves)), (q4, .inl (ci, 7, .inl zparish_roll_heirs)), (q5, .inr (3, [.int zgate_known_4, u11, u12, u13, u14, u15])), (q6, .inr (4, [.int zguesses_known_5, u16, u17, u18, u19, u20, u21, u22, u23])), (q7, .inr (2, [.int zevenings_known_6, u24, u25, u26, u27, u28, u29]))] := gD_re hD rfl
      clear hP9 hk9
      refine lv_aload_n hx hb dX11_dies_33 rfl (lv_at hl 0 rfl) ?_
      refine lv_iload_n hx hb dX11_dies_34 rfl (lv_at hl 2 rfl) ?_
      refine gcalli (va_runV (As := [.int a1]) (rest := []) ⟨hx, hb, hml, hown, ht⟩ (c_X9_bury l D ci cz tr q2 q3 q4 H.size u8 u9 u10 zparish_roll_dogs zparish_roll_halves zparish_roll_heirs a1 _ hw) (cwV 1 ht (gi_V mM_X11_126 mI_X9_bury mS_X9_bury mN_X9 mC_X9_bury) rfl rfl rfl (by decide +kernel) ⟨Nat.le_trans (Nat.le_of_ble_eq_true rfl) hfr, Nat.le_trans (Nat.le_of_ble_eq_true rfl) hlc⟩) (gpreV (wc := [(q2, .inr (8, [.int zparish_roll_dogs, u8, .ref q3, u9, u10, .ref q4])), (q3, .inl (ci, 7, .inl zparish_roll_halves)), (q4, .inl (ci, 7, .inl zparish_roll_heirs))]) (k := 8) (q0 := 2) hK hZ hP hD hS hA [2, 3, 4] rfl rfl rfl rfl rfl) rfl rfl hl.1 rfl (lv_room (Nat.le_of_ble_eq_true rfl)) dX11_dies_35 ⟨Nat.zero_le _, Nat.zero_le _⟩) hD hS hA [2, 3, 4] rfl (fun r_7 w9 H locs hw hP9 hk9 hS => ?_)
      obtain ⟨zparish_roll_halves_8, rfl, hw⟩ := hw
      have hP : va_P D vwCl [(q0, .inr (10, [u0, .ref q1, u1, u2, u3, u4, .ref q5, .ref q6, .ref q7])), (q1, .inr (7, [.ref q2, u5, u6, u7])), (q2, .inr (8, [.int zparish_roll_dogs, u8, .ref q3, u9, u10, .ref q4])), (q3, .inl (ci, 7, .inl zparish_roll_halves_8)), (q4, .inl (ci, 7, .inl zparish_roll_heirs)), (q5, .inr (3, [.int zgate_known_4, u11, u12, u13, u14, u15])), (q6, .inr (4, [.int zguesses_known_5, u16, u17, u18, u19, u20, u21, u22, u23])), (q7, .inr (2, [.int zevenings_known_6, u24, u25, u26, u27, u28, u29]))] H := gjoin3 hP hD [2, 3, 4] hP9 hk9 rfl rfl [none, none, some 0, some 1, some 2, none, none, none] rfl rfl
      have hD : va_D A [(q0, .inr (10, [u0, .ref q1, u1, u2, u3, u4, .ref q5, .ref q6, .ref q7])), (q1, .inr (7, [.ref q2, u5, u6, u7])), (q2, .inr (8, [.int zparish_roll_dogs, u8, .ref q3, u9, u10, .ref q4])), (q3, .inl (ci, 7, .inl zparish_roll_halves_8)), (q4, .inl (ci, 7, .inl zparish_roll_heirs)), (q5, .inr (3, [.int zgate_known_4, u11, u12, u13, u14, u15])), (q6, .inr (4, [.int zguesses_known_5, u16, u17, u18, u19, u20, u21, u22, u23])), (q7, .inr (2, [.int zevenings_known_6, u24, u25, u26, u27, u28, u29]))] := gD_re hD rfl
      clear hP9 hk9
      exact hret _ _ H locs _ _ ⟨_, _, _, _, rfl, hw⟩ hP hS dX11_dies_38
    · have hw := hw.2 hc
      refine lv_bipush (v := (-3 : Int32)) hx hb dX11_dies_26 (by decide) ?_
      exact hret _ _ H locs _ _ ⟨_, _, _, _, rfl, hw⟩ hP hS dX11_dies_28
  · have hw := hw.2 hc
    refine lv_iconst (v := (-1 : Int32)) hx hb dX11_dies_16 (by decide) ?_
    exact hret _ _ H locs _ _ ⟨_, _, _, _, rfl, hw⟩ hP hS dX11_dies_17

def wp_X9_isTold (zuntold : Int32) (a1 : Int32) (post : Int32 → Prop) : Prop :=
  ((¬ ((zuntold >>> (a1 &&& 31)) &&& (1 : Int32)) = 0 → post (0 : Int32) ) ∧ (((zuntold >>> (a1 &&& 31)) &&& (1 : Int32)) = 0 → post (1 : Int32) ))
set_option maxHeartbeats 4000000 in
set_option maxRecDepth 100000 in
theorem c_X9_isTold (l : Launch) (D : va_G) (ci cz : ClassId) (tr : List (ClassId × FieldType)) (q0 : Nat) (sz : Nat) (u0 u1 u2 u3 u4 : Value) (zuntold : Int32) (a1 : Int32) (post : Int32 → Prop) (hw : wp_X9_isTold zuntold a1 post) : gM l yX9_isTold cX9_isTold 2 (some .boolean) 0 0 D ci cz tr [(q0, .inr (8, [u0, .int zuntold, u1, u2, u3, u4]))] sz [.ref q0, .int a1] (gQi D [(q0, .inr (8, [u0, .int zuntold, u1, u2, u3, u4]))] sz (fun (r : Int32) w => w = [(q0, .inr (8, [u0, .int zuntold, u1, u2, u3, u4]))] ∧ post r )) := by
  refine gmet_z RX9 (by decide +kernel) rfl (Nat.le_of_ble_eq_true rfl) ?_
  intro p e s m args below meth c A R Q C hfr hlc hP hD hret ls hl
  obtain ⟨hx, hb, hml, hown, ht, hK, hZ, hA⟩ := C
  have hl : lv_has ls 2 [(0, .ref q0), (1, .int a1)] := hl
  unfold wp_X9_isTold at hw
  refine g_in (fun H locs => W p l e R s m args below meth c H locs 0 0 Q (F0 m 0 ls [])) (fun H locs hS0 hP => ?_) hP (va_S.rf (A := A) (H0 := s.heap))
  have hS : va_S A s.heap H locs := hS0
  clear hS0
  refine lv_aload_n hx hb dX9_isTold_0 rfl (lv_at hl 0 rfl) ?_
  refine va_get (D := D) (ci := 8) (v := .int zuntold) (C := RX9) (T := TX9) (N := 6) hx hb ht in_X9 hown hK.1 hP 0 rfl rfl 1 (by decide) (ht _ mF_X9_28) (fun _ h9 => h9) rfl dX9_isTold_1 ?_
  refine lv_iload_n hx hb dX9_isTold_4 rfl (lv_at hl 1 rfl) ?_
  refine lv_ishr hx hb dX9_isTold_5 ?_
  refine lv_iconst (v := (1 : Int32)) hx hb dX9_isTold_6 (by decide) ?_
  refine lv_iand hx hb dX9_isTold_7 ?_
  refine lv_if_ne (tgt := 15) hx hb dX9_isTold_8 (by decide) (fun hc => ?_) (fun hc => ?_)
  · have hw := hw.1 hc
    refine lv_iconst (v := (0 : Int32)) hx hb dX9_isTold_15 (by decide) ?_
    exact hret _ _ H locs _ _ (by decide) ⟨rfl, hw⟩ hP hS dX9_isTold_16
  · have hw := hw.2 hc
    refine lv_iconst (v := (1 : Int32)) hx hb dX9_isTold_11 (by decide) ?_
    refine lv_goto (tgt := 16) hx hb dX9_isTold_12 (by decide) ?_
    exact hret _ _ H locs _ _ (by decide) ⟨rfl, hw⟩ hP hS dX9_isTold_16

def wp_X11_dog (zparish_roll_dogs : Int32) (zparish_roll_untold : Int32) (zparish_roll_halves : Nat → Int32) (zparish_roll_likings : Nat → Int32) (zparish_roll_fears : Nat → Int32) (a1 : Int32) (a2 : Int32) (post : Int32 → Prop) : Prop :=
  wp_X9_has zparish_roll_dogs a1 (fun (r_1 : Int32) => ((¬ r_1 = 0 → ((a2 = 0 → (vp_in a1 7 ∧ post (zparish_roll_halves (a1).toNatClampNeg) )) ∧ (¬ a2 = 0 → ((a2 = 1 → wp_X9_isTold zparish_roll_untold a1 (fun (r_2 : Int32) => ((r_2 = 0 → post (-6 : Int32) ) ∧ (¬ r_2 = 0 → (vp_in a1 7 ∧ post ((zparish_roll_likings (a1).toNatClampNeg) + (9 : Int32)) ))))) ∧ (¬ a2 = 1 → ((a2 = 2 → (vp_in a1 7 ∧ post (zparish_roll_fears (a1).toNatClampNeg) )) ∧ (¬ a2 = 2 → post (-2 : Int32) ))))))) ∧ (r_1 = 0 → post (-1 : Int32) )))
set_option maxHeartbeats 4000000 in
set_option maxRecDepth 100000 in
theorem c_X11_dog (l : Launch) (D : va_G) (ci cz : ClassId) (tr : List (ClassId × FieldType)) (q0 q1 q2 q3 q4 q5 : Nat) (sz : Nat) (u0 u1 u2 u3 u4 u5 u6 u7 u8 u9 u10 u11 : Value) (zparish_roll_dogs : Int32) (zparish_roll_untold : Int32) (zparish_roll_halves : Nat → Int32) (zparish_roll_likings : Nat → Int32) (zparish_roll_fears : Nat → Int32) (a1 : Int32) (a2 : Int32) (post : Int32 → Prop) (hw : wp_X11_dog zparish_roll_dogs zparish_roll_untold zparish_roll_halves zparish_roll_likings zparish_roll_fears a1 a2 post) : gM l yX11_dog cX11_dog 4 (some .int) 1 21 D ci cz tr [(q0, .inr (10, [u0, .ref q1, u1, u2, u3, u4, u5, u6, u7])), (q1, .inr (7, [.ref q2, u8, u9, u10])), (q2, .inr (8, [.int zparish_roll_dogs, .int zparish_roll_untold, .ref q3, .ref q4, .ref q5, u11])), (q3, .inl (ci, 7, .inl zparish_roll_halves)), (q4, .inl (ci, 7, .inl zparish_roll_likings)), (q5, .inl (ci, 7, .inl zparish_roll_fears))] sz [.ref q0, .int a1, .int a2] (gQi D [(q0, .inr (10, [u0, .ref q1, u1, u2, u3, u4, u5, u6, u7])), (q1, .inr (7, [.ref q2, u8, u9, u10])), (q2, .inr (8, [.int zparish_roll_dogs, .int zparish_roll_untold, .ref q3, .ref q4, .ref q5, u11])), (q3, .inl (ci, 7, .inl zparish_roll_halves)), (q4, .inl (ci, 7, .inl zparish_roll_likings)), (q5, .inl (ci, 7, .inl zparish_roll_fears))] sz (fun (r : Int32) w => w = [(q0, .inr (10, [u0, .ref q1, u1, u2, u3, u4, u5, u6, u7])), (q1, .inr (7, [.ref q2, u8, u9, u10])), (q2, .inr (8, [.int zparish_roll_dogs, .int zparish_roll_untold, .ref q3, .ref q4, .ref q5, u11])), (q3, .inl (ci, 7, .inl zparish_roll_halves)), (q4, .inl (ci, 7, .inl zparish_roll_likings)), (q5, .inl (ci, 7, .inl zparish_roll_fears))] ∧ post r )) := by
  refine gmet_i RX11 (by decide +kernel) rfl (Nat.le_of_ble_eq_true rfl) ?_
  intro p e s m args below meth c A R Q C hfr hlc hP hD hret ls hl
  obtain ⟨hx, hb, hml, hown, ht, hK, hZ, hA⟩ := C
  have hl : lv_has ls 4 [(0, .ref q0), (1, .int a1), (2, .int a2)] := hl
  unfold wp_X11_dog at hw
  refine g_in (fun H locs => W p l e R s m args below meth c H locs 0 0 Q (F0 m 0 ls [])) (fun H locs hS0 hP => ?_) hP (va_S.rf (A := A) (H0 := s.heap))
  have hS : va_S A s.heap H locs := hS0
  clear hS0
  refine lv_aload_n hx hb dX11_dog_0 rfl (lv_at hl 0 rfl) ?_
  refine va_get (D := D) (ci := 10) (v := .ref q1) (C := RX11) (T := TX11) (N := 9) hx hb ht in_X11 hown hK.1 hP 0 rfl rfl 1 (by decide) (ht _ mF_X11_19) (fun _ h9 => h9) rfl dX11_dog_1 ?_
  refine va_get (D := D) (ci := 7) (v := .ref q2) (C := RX8) (T := TX8) (N := 4) hx hb ht in_X8 hown hK.1 hP 1 rfl rfl 0 (by decide) (ht _ mF_X11_74) (fun _ h9 => h9) rfl dX11_dog_4 ?_
  refine lv_astore_n (lv' := [(3, .ref q2), (0, .ref q0), (1, .int a1), (2, .int a2)]) hx hb dX11_dog_7 rfl hl (by decide) rfl (fun ls hl => ?_)
  refine lv_aload_n hx hb dX11_dog_8 rfl (lv_at hl 0 rfl) ?_
  refine lv_iload_n hx hb dX11_dog_9 rfl (lv_at hl 2 rfl) ?_
  refine gcalli (va_runV (As := [.int a1]) (rest := []) ⟨hx, hb, hml, hown, ht⟩ (c_X9_has l D ci cz tr q2 H.size (.int zparish_roll_untold) (.ref q3) (.ref q4) (.ref q5) u11 zparish_roll_dogs a1 _ hw) (cwV 1 ht (gi_V mM_X11_100 mI_X9_has mS_X9_has mN_X9 mC_X9_has) rfl rfl rfl (by decide +kernel) ⟨Nat.le_trans (Nat.le_of_ble_eq_true rfl) hfr, Nat.le_trans (Nat.le_of_ble_eq_true rfl) hlc⟩) (gpreV (wc := [(q2, .inr (8, [.int zparish_roll_dogs, .int zparish_roll_untold, .ref q3, .ref q4, .ref q5, u11]))]) (k := 8) (q0 := 2) hK hZ hP hD hS hA [2] rfl rfl rfl rfl rfl) rfl rfl hl.1 rfl (lv_room (Nat.le_of_ble_eq_true rfl)) dX11_dog_10 ⟨Nat.zero_le _, Nat.zero_le _⟩) hD hS hA [2] rfl (fun r_1 w9 H locs hw hP9 hk9 hS => ?_)
  obtain ⟨rfl, hw⟩ := hw
  have hP : va_P D vwCl [(q0, .inr (10, [u0, .ref q1, u1, u2, u3, u4, u5, u6, u7])), (q1, .inr (7, [.ref q2, u8, u9, u10])), (q2, .inr (8, [.int zparish_roll_dogs, .int zparish_roll_untold, .ref q3, .ref q4, .ref q5, u11])), (q3, .inl (ci, 7, .inl zparish_roll_halves)), (q4, .inl (ci, 7, .inl zparish_roll_likings)), (q5, .inl (ci, 7, .inl zparish_roll_fears))] H := gjoin3 hP hD [2] hP9 hk9 rfl rfl [none, none, some 0, none, none, none] rfl rfl
  clear hP9 hk9
  refine lv_if_ne (tgt := 18) hx hb dX11_dog_13 (by decide) (fun hc => ?_) (fun hc => ?_)
  · have hw := hw.1 hc
    refine lv_iload_n hx hb dX11_dog_18 rfl (lv_at hl 3 rfl) ?_
    by_cases hk0 : a2 = (0 : Int32)
    · have hw := hw.1 hk0
      refine lv_tableIn (tgt := 44) hx hb dX11_dog_19 (by rw [hk0]; decide) (by rw [hk0]; decide) (by rw [hk0]; rfl) (by decide) ?_
      refine lv_aload_n hx hb dX11_dog_44 rfl (lv_at hl 0 rfl) ?_
      refine va_get (D := D) (ci := 8) (v := .ref q3) (C := RX9) (T := TX9) (N := 6) hx hb ht in_X9 hown hK.1 hP 2 rfl rfl 2 (by decide) (ht _ mF_X11_103) (fun _ h9 => h9) rfl dX11_dog_45 ?_
      refine lv_iload_n hx hb dX11_dog_48 rfl (lv_at hl 2 rfl) ?_
      obtain ⟨hin, hw⟩ := hw
      refine va_iald (D := D) hx hb hK.1 hP 3 0 rfl rfl hin dX11_dog_49 ?_
      exact hret _ _ H locs _ _ ⟨rfl, hw⟩ hP hS dX11_dog_50
    have hw := hw.2 hk0
    by_cases hk1 : a2 = (1 : Int32)
    · have hw := hw.1 hk1
      refine lv_tableIn (tgt := 51) hx hb dX11_dog_19 (by rw [hk1]; decide) (by rw [hk1]; decide) (by rw [hk1]; rfl) (by decide) ?_
      refine lv_aload_n hx hb dX11_dog_51 rfl (lv_at hl 0 rfl) ?_
      refine lv_iload_n hx hb dX11_dog_52 rfl (lv_at hl 2 rfl) ?_
      refine gcalli (va_runV (As := [.int a1]) (rest := []) ⟨hx, hb, hml, hown, ht⟩ (c_X9_isTold l D ci cz tr q2 H.size (.int zparish_roll_dogs) (.ref q3) (.ref q4) (.ref q5) u11 zparish_roll_untold a1 _ hw) (cwV 1 ht (gi_V mM_X11_107 mI_X9_isTold mS_X9_isTold mN_X9 mC_X9_isTold) rfl rfl rfl (by decide +kernel) ⟨Nat.le_trans (Nat.le_of_ble_eq_true rfl) hfr, Nat.le_trans (Nat.le_of_ble_eq_true rfl) hlc⟩) (gpreV (wc := [(q2, .inr (8, [.int zparish_roll_dogs, .int zparish_roll_untold, .ref q3, .ref q4, .ref q5, u11]))]) (k := 8) (q0 := 2) hK hZ hP hD hS hA [2] rfl rfl rfl rfl rfl) rfl rfl hl.1 rfl (lv_room (Nat.le_of_ble_eq_true rfl)) dX11_dog_53 ⟨Nat.zero_le _, Nat.zero_le _⟩) hD hS hA [2] rfl (fun r_2 w9 H locs hw hP9 hk9 hS => ?_)
      obtain ⟨rfl, hw⟩ := hw
      have hP : va_P D vwCl [(q0, .inr (10, [u0, .ref q1, u1, u2, u3, u4, u5, u6, u7])), (q1, .inr (7, [.ref q2, u8, u9, u10])), (q2, .inr (8, [.int zparish_roll_dogs, .int zparish_roll_untold, .ref q3, .ref q4, .ref q5, u11])), (q3, .inl (ci, 7, .inl zparish_roll_halves)), (q4, .inl (ci, 7, .inl zparish_roll_likings)), (q5, .inl (ci, 7, .inl zparish_roll_fears))] H := gjoin3 hP hD [2] hP9 hk9 rfl rfl [none, none, some 0, none, none, none] rfl rfl
      clear hP9 hk9
      refine lv_if_eq (tgt := 71) hx hb dX11_dog_56 (by decide) (fun hc => ?_) (fun hc => ?_)
      · have hw := hw.1 hc
        refine lv_bipush (v := (-6 : Int32)) hx hb dX11_dog_71 (by decide) ?_
        exact hret _ _ H locs _ _ ⟨rfl, hw⟩ hP hS dX11_dog_73
      · have hw := hw.2 hc
        refine lv_aload_n hx hb dX11_dog_59 rfl (lv_at hl 0 rfl) ?_
        refine va_get (D := D) (ci := 8) (v := .ref q4) (C := RX9) (T := TX9) (N := 6) hx hb ht in_X9 hown hK.1 hP 2 rfl rfl 3 (by decide) (ht _ mF_X11_110) (fun _ h9 => h9) rfl dX11_dog_60 ?_
        refine lv_iload_n hx hb dX11_dog_63 rfl (lv_at hl 2 rfl) ?_
        obtain ⟨hin, hw⟩ := hw
        refine va_iald (D := D) hx hb hK.1 hP 4 0 rfl rfl hin dX11_dog_64 ?_
        refine lv_bipush (v := (9 : Int32)) hx hb dX11_dog_65 (by decide) ?_
        refine lv_iadd hx hb dX11_dog_67 ?_
        refine lv_goto (tgt := 73) hx hb dX11_dog_68 (by decide) ?_
        exact hret _ _ H locs _ _ ⟨rfl, hw⟩ hP hS dX11_dog_73
    have hw := hw.2 hk1
    by_cases hk2 : a2 = (2 : Int32)
    · have hw := hw.1 hk2
      refine lv_tableIn (tgt := 74) hx hb dX11_dog_19 (by rw [hk2]; decide) (by rw [hk2]; decide) (by rw [hk2]; rfl) (by decide) ?_
      refine lv_aload_n hx hb dX11_dog_74 rfl (lv_at hl 0 rfl) ?_
      refine va_get (D := D) (ci := 8) (v := .ref q5) (C := RX9) (T := TX9) (N := 6) hx hb ht in_X9 hown hK.1 hP 2 rfl rfl 4 (by decide) (ht _ mF_X11_113) (fun _ h9 => h9) rfl dX11_dog_75 ?_
      refine lv_iload_n hx hb dX11_dog_78 rfl (lv_at hl 2 rfl) ?_
      obtain ⟨hin, hw⟩ := hw
      refine va_iald (D := D) hx hb hK.1 hP 5 0 rfl rfl hin dX11_dog_79 ?_
      exact hret _ _ H locs _ _ ⟨rfl, hw⟩ hP hS dX11_dog_80
    have hw := hw.2 hk2
    have hout : (a2).toInt < 0 ∨ 2 < (a2).toInt := by
      have hn0 := lv_neT hk0 (by decide : (0 : Int32).toInt = 0)
      have hn1 := lv_neT hk1 (by decide : (1 : Int32).toInt = 1)
      have hn2 := lv_neT hk2 (by decide : (2 : Int32).toInt = 2)
      omega
    refine lv_tableOut (tgt := 81) hx hb dX11_dog_19 hout (by decide) ?_
    refine lv_bipush (v := (-2 : Int32)) hx hb dX11_dog_81 (by decide) ?_
    exact hret _ _ H locs _ _ ⟨rfl, hw⟩ hP hS dX11_dog_83
  · have hw := hw.2 hc
    refine lv_iconst (v := (-1 : Int32)) hx hb dX11_dog_16 (by decide) ?_
    exact hret _ _ H locs _ _ ⟨rfl, hw⟩ hP hS dX11_dog_17

def wp_X11_drop (zparish_questions_size : Int32) (zgate_known : Int32) (zguesses_known : Int32) (zevenings_known : Int32)  (post : Int32 → Int32 → Int32 → Int32 → Int32 → Prop) : Prop :=
  wp_X11_changed zgate_known zguesses_known zevenings_known (fun (zgate_known_2 : Int32) (zguesses_known_3 : Int32) (zevenings_known_4 : Int32) => post zparish_questions_size (0 : Int32) zgate_known_2 zguesses_known_3 zevenings_known_4)
set_option maxHeartbeats 4000000 in
set_option maxRecDepth 100000 in
theorem c_X11_drop (l : Launch) (D : va_G) (ci cz : ClassId) (tr : List (ClassId × FieldType)) (q0 q1 q2 q3 q4 q5 : Nat) (sz : Nat) (u0 u1 u2 u3 u4 u5 u6 u7 u8 u9 u10 u11 u12 u13 u14 u15 u16 u17 u18 u19 u20 u21 u22 u23 u24 u25 u26 u27 u28 u29 : Value) (zparish_questions_size : Int32) (zgate_known : Int32) (zguesses_known : Int32) (zevenings_known : Int32)  (post : Int32 → Int32 → Int32 → Int32 → Int32 → Prop) (hw : wp_X11_drop zparish_questions_size zgate_known zguesses_known zevenings_known post) : gM l yX11_drop cX11_drop 2 (some .int) 1 20 D ci cz tr [(q0, .inr (10, [u0, .ref q1, u1, u2, u3, u4, .ref q3, .ref q4, .ref q5])), (q1, .inr (7, [u5, u6, .ref q2, u7])), (q2, .inr (9, [.int zparish_questions_size, u8, u9, u10])), (q3, .inr (3, [.int zgate_known, u11, u12, u13, u14, u15])), (q4, .inr (4, [.int zguesses_known, u16, u17, u18, u19, u20, u21, u22, u23])), (q5, .inr (2, [.int zevenings_known, u24, u25, u26, u27, u28, u29]))] sz [.ref q0] (gQi D [(q0, .inr (10, [u0, .ref q1, u1, u2, u3, u4, .ref q3, .ref q4, .ref q5])), (q1, .inr (7, [u5, u6, .ref q2, u7])), (q2, .inr (9, [.int zparish_questions_size, u8, u9, u10])), (q3, .inr (3, [.int zgate_known, u11, u12, u13, u14, u15])), (q4, .inr (4, [.int zguesses_known, u16, u17, u18, u19, u20, u21, u22, u23])), (q5, .inr (2, [.int zevenings_known, u24, u25, u26, u27, u28, u29]))] sz (fun (r : Int32) w => ∃ (o_zparish_questions_size : Int32) (o_zgate_known : Int32) (o_zguesses_known : Int32) (o_zevenings_known : Int32), w = [(q0, .inr (10, [u0, .ref q1, u1, u2, u3, u4, .ref q3, .ref q4, .ref q5])), (q1, .inr (7, [u5, u6, .ref q2, u7])), (q2, .inr (9, [.int o_zparish_questions_size, u8, u9, u10])), (q3, .inr (3, [.int o_zgate_known, u11, u12, u13, u14, u15])), (q4, .inr (4, [.int o_zguesses_known, u16, u17, u18, u19, u20, u21, u22, u23])), (q5, .inr (2, [.int o_zevenings_known, u24, u25, u26, u27, u28, u29]))] ∧ post r o_zparish_questions_size o_zgate_known o_zguesses_known o_zevenings_known)) := by
  refine gmet_i RX11 (by decide +kernel) rfl (Nat.le_of_ble_eq_true rfl) ?_
  intro p e s m args below meth c A R Q C hfr hlc hP hD hret ls hl
  obtain ⟨hx, hb, hml, hown, ht, hK, hZ, hA⟩ := C
  have hl : lv_has ls 2 [(0, .ref q0)] := hl
  unfold wp_X11_drop at hw
  refine g_in (fun H locs => W p l e R s m args below meth c H locs 0 0 Q (F0 m 0 ls [])) (fun H locs hS0 hP => ?_) hP (va_S.rf (A := A) (H0 := s.heap))
  have hS : va_S A s.heap H locs := hS0
  clear hS0
  refine lv_aload_n hx hb dX11_drop_0 rfl (lv_at hl 0 rfl) ?_
  refine va_get (D := D) (ci := 10) (v := .ref q1) (C := RX11) (T := TX11) (N := 9) hx hb ht in_X11 hown hK.1 hP 0 rfl rfl 1 (by decide) (ht _ mF_X11_19) (fun _ h9 => h9) rfl dX11_drop_1 ?_
  refine va_get (D := D) (ci := 7) (v := .ref q2) (C := RX8) (T := TX8) (N := 4) hx hb ht in_X8 hown hK.1 hP 1 rfl rfl 2 (by decide) (ht _ mF_X11_217) (fun _ h9 => h9) rfl dX11_drop_4 ?_
  refine va_get (D := D) (ci := 9) (v := .int zparish_questions_size) (C := RX10) (T := TX10) (N := 4) hx hb ht in_X10 hown hK.1 hP 2 rfl rfl 0 (by decide) (ht _ mF_X11_91) (fun _ h9 => h9) rfl dX11_drop_7 ?_
  refine lv_istore_n (lv' := [(1, .int zparish_questions_size), (0, .ref q0)]) hx hb dX11_drop_10 rfl hl (by decide) rfl (fun ls hl => ?_)
  refine lv_aload_n hx hb dX11_drop_11 rfl (lv_at hl 1 rfl) ?_
  refine va_get (D := D) (ci := 10) (v := .ref q1) (C := RX11) (T := TX11) (N := 9) hx hb ht in_X11 hown hK.1 hP 0 rfl rfl 1 (by decide) (ht _ mF_X11_19) (fun _ h9 => h9) rfl dX11_drop_12 ?_
  refine va_get (D := D) (ci := 7) (v := .ref q2) (C := RX8) (T := TX8) (N := 4) hx hb ht in_X8 hown hK.1 hP 1 rfl rfl 2 (by decide) (ht _ mF_X11_217) (fun _ h9 => h9) rfl dX11_drop_15 ?_
  refine lv_iconst (v := (0 : Int32)) hx hb dX11_drop_18 (by decide) ?_
  refine va_put (D := D) (ci := 9) (v := .int (0 : Int32)) (ty := .int) (C := RX10) (T := TX10) (N := 4) hx hb ht in_X10 tyX10 tyX10_ok nmX10 hown hK.1 hP hD hS 2 rfl rfl 0 (by decide) (ht _ mF_X11_91) (fun _ h9 => h9) rfl (by decide +kernel) rfl rfl (Nat.le_of_ble_eq_true rfl) dX11_drop_19 (fun H locs hP hD hS => ?_)
  have hP : va_P D vwCl [(q0, .inr (10, [u0, .ref q1, u1, u2, u3, u4, .ref q3, .ref q4, .ref q5])), (q1, .inr (7, [u5, u6, .ref q2, u7])), (q2, .inr (9, [.int (0 : Int32), u8, u9, u10])), (q3, .inr (3, [.int zgate_known, u11, u12, u13, u14, u15])), (q4, .inr (4, [.int zguesses_known, u16, u17, u18, u19, u20, u21, u22, u23])), (q5, .inr (2, [.int zevenings_known, u24, u25, u26, u27, u28, u29]))] H := hP
  have hD : va_D A [(q0, .inr (10, [u0, .ref q1, u1, u2, u3, u4, .ref q3, .ref q4, .ref q5])), (q1, .inr (7, [u5, u6, .ref q2, u7])), (q2, .inr (9, [.int (0 : Int32), u8, u9, u10])), (q3, .inr (3, [.int zgate_known, u11, u12, u13, u14, u15])), (q4, .inr (4, [.int zguesses_known, u16, u17, u18, u19, u20, u21, u22, u23])), (q5, .inr (2, [.int zevenings_known, u24, u25, u26, u27, u28, u29]))] := hD
  refine lv_aload_n hx hb dX11_drop_22 rfl (lv_at hl 1 rfl) ?_
  refine gcallv (va_runV (As := []) (rest := []) ⟨hx, hb, hml, hown, ht⟩ (c_X11_changed l D ci cz tr q0 q3 q4 q5 H.size u0 (.ref q1) u1 u2 u3 u4 u11 u12 u13 u14 u15 u16 u17 u18 u19 u20 u21 u22 u23 u24 u25 u26 u27 u28 u29 zgate_known zguesses_known zevenings_known _ hw) (cwV 0 ht (gi_V mM_X11_94 mI_X11_changed mS_X11_changed mN_X11 mC_X11_changed) rfl rfl rfl (by decide +kernel) ⟨Nat.le_trans (Nat.le_of_ble_eq_true rfl) hfr, Nat.le_trans (Nat.le_of_ble_eq_true rfl) hlc⟩) (gpreV (wc := [(q0, .inr (10, [u0, .ref q1, u1, u2, u3, u4, .ref q3, .ref q4, .ref q5])), (q3, .inr (3, [.int zgate_known, u11, u12, u13, u14, u15])), (q4, .inr (4, [.int zguesses_known, u16, u17, u18, u19, u20, u21, u22, u23])), (q5, .inr (2, [.int zevenings_known, u24, u25, u26, u27, u28, u29]))]) (k := 10) (q0 := 0) hK hZ hP hD hS hA [0, 3, 4, 5] rfl rfl rfl rfl rfl) rfl rfl hl.1 rfl (lv_room (Nat.le_of_ble_eq_true rfl)) dX11_drop_23 ⟨Nat.zero_le _, Nat.zero_le _⟩) hD hS hA [0, 3, 4, 5] rfl (fun w9 H locs hw hP9 hk9 hS => ?_)
  obtain ⟨zgate_known_2, zguesses_known_3, zevenings_known_4, rfl, hw⟩ := hw
  have hP : va_P D vwCl [(q0, .inr (10, [u0, .ref q1, u1, u2, u3, u4, .ref q3, .ref q4, .ref q5])), (q1, .inr (7, [u5, u6, .ref q2, u7])), (q2, .inr (9, [.int (0 : Int32), u8, u9, u10])), (q3, .inr (3, [.int zgate_known_2, u11, u12, u13, u14, u15])), (q4, .inr (4, [.int zguesses_known_3, u16, u17, u18, u19, u20, u21, u22, u23])), (q5, .inr (2, [.int zevenings_known_4, u24, u25, u26, u27, u28, u29]))] H := gjoin3 hP hD [0, 3, 4, 5] hP9 hk9 rfl rfl [some 0, none, none, some 1, some 2, some 3] rfl rfl
  have hD : va_D A [(q0, .inr (10, [u0, .ref q1, u1, u2, u3, u4, .ref q3, .ref q4, .ref q5])), (q1, .inr (7, [u5, u6, .ref q2, u7])), (q2, .inr (9, [.int (0 : Int32), u8, u9, u10])), (q3, .inr (3, [.int zgate_known_2, u11, u12, u13, u14, u15])), (q4, .inr (4, [.int zguesses_known_3, u16, u17, u18, u19, u20, u21, u22, u23])), (q5, .inr (2, [.int zevenings_known_4, u24, u25, u26, u27, u28, u29]))] := gD_re hD rfl
  clear hP9 hk9
  refine lv_iload_n hx hb dX11_drop_26 rfl (lv_at hl 0 rfl) ?_
  exact hret _ _ H locs _ _ ⟨_, _, _, _, rfl, hw⟩ hP hS dX11_drop_27

def wp_X9_clear (zdogs : Int32) (zuntold : Int32) (zhalves : Nat → Int32) (zlikings : Nat → Int32) (zfears : Nat → Int32) (zheirs : Nat → Int32)  (post : Int32 → Int32 → (Nat → Int32) → (Nat → Int32) → (Nat → Int32) → (Nat → Int32) → Prop) : Prop :=
  lo (fun _ _ _ _ _ => False) (fun (G12 : Int32 → (Nat → Int32) → (Nat → Int32) → (Nat → Int32) → (Nat → Int32) → Prop) (x1_1 : Int32) (zhalves_2 : Nat → Int32) (zlikings_3 : Nat → Int32) (zfears_4 : Nat → Int32) (zheirs_5 : Nat → Int32) => (((7 : Int32) ≤ x1_1 → post (0 : Int32) (0 : Int32) zhalves_2 zlikings_3 zfears_4 zheirs_5) ∧ (¬ (7 : Int32) ≤ x1_1 → (vp_in x1_1 7 ∧ (vp_in x1_1 7 ∧ (vp_in x1_1 7 ∧ (vp_in x1_1 7 ∧ G12 (x1_1 + (1 : Int32)) (upd zhalves_2 (x1_1).toNatClampNeg (0 : Int32)) (upd zlikings_3 (x1_1).toNatClampNeg (0 : Int32)) (upd zfears_4 (x1_1).toNatClampNeg (0 : Int32)) (upd zheirs_5 (x1_1).toNatClampNeg (-1 : Int32))))))))) (fun G12 => G12 (0 : Int32) zhalves zlikings zfears zheirs)
set_option maxHeartbeats 4000000 in
set_option maxRecDepth 100000 in
theorem c_X9_clear (l : Launch) (D : va_G) (ci cz : ClassId) (tr : List (ClassId × FieldType)) (q0 q1 q2 q3 q4 : Nat) (sz : Nat) (zdogs : Int32) (zuntold : Int32) (zhalves : Nat → Int32) (zlikings : Nat → Int32) (zfears : Nat → Int32) (zheirs : Nat → Int32)  (post : Int32 → Int32 → (Nat → Int32) → (Nat → Int32) → (Nat → Int32) → (Nat → Int32) → Prop) (hw : wp_X9_clear zdogs zuntold zhalves zlikings zfears zheirs post) : gM l yX9_clear cX9_clear 2 none 0 0 D ci cz tr [(q0, .inr (8, [.int zdogs, .int zuntold, .ref q1, .ref q2, .ref q3, .ref q4])), (q1, .inl (ci, 7, .inl zhalves)), (q2, .inl (ci, 7, .inl zlikings)), (q3, .inl (ci, 7, .inl zfears)), (q4, .inl (ci, 7, .inl zheirs))] sz [.ref q0] (gQv D [(q0, .inr (8, [.int zdogs, .int zuntold, .ref q1, .ref q2, .ref q3, .ref q4])), (q1, .inl (ci, 7, .inl zhalves)), (q2, .inl (ci, 7, .inl zlikings)), (q3, .inl (ci, 7, .inl zfears)), (q4, .inl (ci, 7, .inl zheirs))] sz (fun w => ∃ (o_zdogs : Int32) (o_zuntold : Int32) (o_zhalves : Nat → Int32) (o_zlikings : Nat → Int32) (o_zfears : Nat → Int32) (o_zheirs : Nat → Int32), w = [(q0, .inr (8, [.int o_zdogs, .int o_zuntold, .ref q1, .ref q2, .ref q3, .ref q4])), (q1, .inl (ci, 7, .inl o_zhalves)), (q2, .inl (ci, 7, .inl o_zlikings)), (q3, .inl (ci, 7, .inl o_zfears)), (q4, .inl (ci, 7, .inl o_zheirs))] ∧ post o_zdogs o_zuntold o_zhalves o_zlikings o_zfears o_zheirs)) := by
  refine gmet_v RX9 (by decide +kernel) rfl (Nat.le_of_ble_eq_true rfl) ?_
  intro p e s m args below meth c A R Q C hfr hlc hP hD hret ls hl
  obtain ⟨hx, hb, hml, hown, ht, hK, hZ, hA⟩ := C
  have hl : lv_has ls 2 [(0, .ref q0)] := hl
  unfold wp_X9_clear at hw
  refine g_in (fun H locs => W p l e R s m args below meth c H locs 0 0 Q (F0 m 0 ls [])) (fun H locs hS0 hP => ?_) hP (va_S.rf (A := A) (H0 := s.heap))
  have hS : va_S A s.heap H locs := hS0
  clear hS0
  refine lv_aload_n hx hb dX9_clear_0 rfl (lv_at hl 0 rfl) ?_
  refine lv_iconst (v := (0 : Int32)) hx hb dX9_clear_1 (by decide) ?_
  refine va_put (D := D) (ci := 8) (v := .int (0 : Int32)) (ty := .int) (C := RX9) (T := TX9) (N := 6) hx hb ht in_X9 tyX9 tyX9_ok nmX9 hown hK.1 hP hD hS 0 rfl rfl 0 (by decide) (ht _ mF_X9_24) (fun _ h9 => h9) rfl (by decide +kernel) rfl rfl (Nat.le_of_ble_eq_true rfl) dX9_clear_2 (fun H locs hP hD hS => ?_)
  have hP : va_P D vwCl [(q0, .inr (8, [.int (0 : Int32), .int zuntold, .ref q1, .ref q2, .ref q3, .ref q4])), (q1, .inl (ci, 7, .inl zhalves)), (q2, .inl (ci, 7, .inl zlikings)), (q3, .inl (ci, 7, .inl zfears)), (q4, .inl (ci, 7, .inl zheirs))] H := hP
  have hD : va_D A [(q0, .inr (8, [.int (0 : Int32), .int zuntold, .ref q1, .ref q2, .ref q3, .ref q4])), (q1, .inl (ci, 7, .inl zhalves)), (q2, .inl (ci, 7, .inl zlikings)), (q3, .inl (ci, 7, .inl zfears)), (q4, .inl (ci, 7, .inl zheirs))] := hD
  refine lv_aload_n hx hb dX9_clear_5 rfl (lv_at hl 0 rfl) ?_
  refine lv_iconst (v := (0 : Int32)) hx hb dX9_clear_6 (by decide) ?_
  refine va_put (D := D) (ci := 8) (v := .int (0 : Int32)) (ty := .int) (C := RX9) (T := TX9) (N := 6) hx hb ht in_X9 tyX9 tyX9_ok nmX9 hown hK.1 hP hD hS 0 rfl rfl 1 (by decide) (ht _ mF_X9_28) (fun _ h9 => h9) rfl (by decide +kernel) rfl rfl (Nat.le_of_ble_eq_true rfl) dX9_clear_7 (fun H locs hP hD hS => ?_)
  have hP : va_P D vwCl [(q0, .inr (8, [.int (0 : Int32), .int (0 : Int32), .ref q1, .ref q2, .ref q3, .ref q4])), (q1, .inl (ci, 7, .inl zhalves)), (q2, .inl (ci, 7, .inl zlikings)), (q3, .inl (ci, 7, .inl zfears)), (q4, .inl (ci, 7, .inl zheirs))] H := hP
  have hD : va_D A [(q0, .inr (8, [.int (0 : Int32), .int (0 : Int32), .ref q1, .ref q2, .ref q3, .ref q4])), (q1, .inl (ci, 7, .inl zhalves)), (q2, .inl (ci, 7, .inl zlikings)), (q3, .inl (ci, 7, .inl zfears)), (q4, .inl (ci, 7, .inl zheirs))] := hD
  refine lv_iconst (v := (0 : Int32)) hx hb dX9_clear_10 (by decide) ?_
  refine lv_istore_n (lv' := [(1, .int (0 : Int32)), (0, .ref q0)]) hx hb dX9_clear_11 rfl hl (by decide) rfl (fun ls hl => ?_)
  refine lo_walk hw (fun G12 => ∀ (x1_1 : Int32) (zhalves_2 : Nat → Int32) (zlikings_3 : Nat → Int32) (zfears_4 : Nat → Int32) (zheirs_5 : Nat → Int32) (H : Heap) (locs : List Loc) (ls : Array Slot), G12 x1_1 zhalves_2 zlikings_3 zfears_4 zheirs_5 → va_P D vwCl [(q0, .inr (8, [.int (0 : Int32), .int (0 : Int32), .ref q1, .ref q2, .ref q3, .ref q4])), (q1, .inl (ci, 7, .inl zhalves_2)), (q2, .inl (ci, 7, .inl zlikings_3)), (q3, .inl (ci, 7, .inl zfears_4)), (q4, .inl (ci, 7, .inl zheirs_5))] H → va_S A s.heap H locs → lv_has ls 2 [(0, .ref q0), (1, .int x1_1)] → W p l e R s m args below meth c H locs 0 0 Q (F0 m 12 ls [])) (fun _ _ _ _ _ _ _ _ hw _ _ _ => False.elim hw) (fun G12 hG12 x1_1 zhalves_2 zlikings_3 zfears_4 zheirs_5 H locs ls hw hP hS hl => ?_) (fun G12 hG12 hw => hG12 _ _ _ _ _ H locs ls hw hP hS (lv_sub hl [1, 0] rfl))
  have hD : va_D A [(q0, .inr (8, [.int (0 : Int32), .int (0 : Int32), .ref q1, .ref q2, .ref q3, .ref q4])), (q1, .inl (ci, 7, .inl zhalves_2)), (q2, .inl (ci, 7, .inl zlikings_3)), (q3, .inl (ci, 7, .inl zfears_4)), (q4, .inl (ci, 7, .inl zheirs_5))] := gD_re hD rfl
  refine lv_iload_n hx hb dX9_clear_12 rfl (lv_at hl 1 rfl) ?_
  refine lv_bipush (v := (7 : Int32)) hx hb dX9_clear_13 (by decide) ?_
  refine lv_icmp_ge (tgt := 52) hx hb dX9_clear_15 (by decide) (fun hc => ?_) (fun hc => ?_)
  · have hw := hw.1 hc
    exact hret _ H locs _ _ ⟨_, _, _, _, _, _, rfl, hw⟩ hP hS dX9_clear_52
  · have hw := hw.2 hc
    refine lv_aload_n hx hb dX9_clear_18 rfl (lv_at hl 0 rfl) ?_
    refine va_get (D := D) (ci := 8) (v := .ref q1) (C := RX9) (T := TX9) (N := 6) hx hb ht in_X9 hown hK.1 hP 0 rfl rfl 2 (by decide) (ht _ mF_X9_9) (fun _ h9 => h9) rfl dX9_clear_19 ?_
    refine lv_iload_n hx hb dX9_clear_22 rfl (lv_at hl 1 rfl) ?_
    refine lv_iconst (v := (0 : Int32)) hx hb dX9_clear_23 (by decide) ?_
    obtain ⟨hin, hw⟩ := hw
    refine va_iast (D := D) hx hb hK.1 hP hD hS 1 0 rfl rfl hin dX9_clear_24 (fun H locs hP hD hS => ?_)
    have hP : va_P D vwCl [(q0, .inr (8, [.int (0 : Int32), .int (0 : Int32), .ref q1, .ref q2, .ref q3, .ref q4])), (q1, .inl (ci, 7, .inl (upd zhalves_2 (x1_1).toNatClampNeg (0 : Int32)))), (q2, .inl (ci, 7, .inl zlikings_3)), (q3, .inl (ci, 7, .inl zfears_4)), (q4, .inl (ci, 7, .inl zheirs_5))] H := hP
    have hD : va_D A [(q0, .inr (8, [.int (0 : Int32), .int (0 : Int32), .ref q1, .ref q2, .ref q3, .ref q4])), (q1, .inl (ci, 7, .inl (upd zhalves_2 (x1_1).toNatClampNeg (0 : Int32)))), (q2, .inl (ci, 7, .inl zlikings_3)), (q3, .inl (ci, 7, .inl zfears_4)), (q4, .inl (ci, 7, .inl zheirs_5))] := hD
    refine lv_aload_n hx hb dX9_clear_25 rfl (lv_at hl 0 rfl) ?_
    refine va_get (D := D) (ci := 8) (v := .ref q2) (C := RX9) (T := TX9) (N := 6) hx hb ht in_X9 hown hK.1 hP 0 rfl rfl 3 (by decide) (ht _ mF_X9_15) (fun _ h9 => h9) rfl dX9_clear_26 ?_
    refine lv_iload_n hx hb dX9_clear_29 rfl (lv_at hl 1 rfl) ?_
    refine lv_iconst (v := (0 : Int32)) hx hb dX9_clear_30 (by decide) ?_
    obtain ⟨hin, hw⟩ := hw
    refine va_iast (D := D) hx hb hK.1 hP hD hS 2 0 rfl rfl hin dX9_clear_31 (fun H locs hP hD hS => ?_)
    have hP : va_P D vwCl [(q0, .inr (8, [.int (0 : Int32), .int (0 : Int32), .ref q1, .ref q2, .ref q3, .ref q4])), (q1, .inl (ci, 7, .inl (upd zhalves_2 (x1_1).toNatClampNeg (0 : Int32)))), (q2, .inl (ci, 7, .inl (upd zlikings_3 (x1_1).toNatClampNeg (0 : Int32)))), (q3, .inl (ci, 7, .inl zfears_4)), (q4, .inl (ci, 7, .inl zheirs_5))] H := hP
    have hD : va_D A [(q0, .inr (8, [.int (0 : Int32), .int (0 : Int32), .ref q1, .ref q2, .ref q3, .ref q4])), (q1, .inl (ci, 7, .inl (upd zhalves_2 (x1_1).toNatClampNeg (0 : Int32)))), (q2, .inl (ci, 7, .inl (upd zlikings_3 (x1_1).toNatClampNeg (0 : Int32)))), (q3, .inl (ci, 7, .inl zfears_4)), (q4, .inl (ci, 7, .inl zheirs_5))] := hD
    refine lv_aload_n hx hb dX9_clear_32 rfl (lv_at hl 0 rfl) ?_
    refine va_get (D := D) (ci := 8) (v := .ref q3) (C := RX9) (T := TX9) (N := 6) hx hb ht in_X9 hown hK.1 hP 0 rfl rfl 4 (by decide) (ht _ mF_X9_18) (fun _ h9 => h9) rfl dX9_clear_33 ?_
    refine lv_iload_n hx hb dX9_clear_36 rfl (lv_at hl 1 rfl) ?_
    refine lv_iconst (v := (0 : Int32)) hx hb dX9_clear_37 (by decide) ?_
    obtain ⟨hin, hw⟩ := hw
    refine va_iast (D := D) hx hb hK.1 hP hD hS 3 0 rfl rfl hin dX9_clear_38 (fun H locs hP hD hS => ?_)
    have hP : va_P D vwCl [(q0, .inr (8, [.int (0 : Int32), .int (0 : Int32), .ref q1, .ref q2, .ref q3, .ref q4])), (q1, .inl (ci, 7, .inl (upd zhalves_2 (x1_1).toNatClampNeg (0 : Int32)))), (q2, .inl (ci, 7, .inl (upd zlikings_3 (x1_1).toNatClampNeg (0 : Int32)))), (q3, .inl (ci, 7, .inl (upd zfears_4 (x1_1).toNatClampNeg (0 : Int32)))), (q4, .inl (ci, 7, .inl zheirs_5))] H := hP
    have hD : va_D A [(q0, .inr (8, [.int (0 : Int32), .int (0 : Int32), .ref q1, .ref q2, .ref q3, .ref q4])), (q1, .inl (ci, 7, .inl (upd zhalves_2 (x1_1).toNatClampNeg (0 : Int32)))), (q2, .inl (ci, 7, .inl (upd zlikings_3 (x1_1).toNatClampNeg (0 : Int32)))), (q3, .inl (ci, 7, .inl (upd zfears_4 (x1_1).toNatClampNeg (0 : Int32)))), (q4, .inl (ci, 7, .inl zheirs_5))] := hD
    refine lv_aload_n hx hb dX9_clear_39 rfl (lv_at hl 0 rfl) ?_
    refine va_get (D := D) (ci := 8) (v := .ref q4) (C := RX9) (T := TX9) (N := 6) hx hb ht in_X9 hown hK.1 hP 0 rfl rfl 5 (by decide) (ht _ mF_X9_21) (fun _ h9 => h9) rfl dX9_clear_40 ?_
    refine lv_iload_n hx hb dX9_clear_43 rfl (lv_at hl 1 rfl) ?_
    refine lv_iconst (v := (-1 : Int32)) hx hb dX9_clear_44 (by decide) ?_
    obtain ⟨hin, hw⟩ := hw
    refine va_iast (D := D) hx hb hK.1 hP hD hS 4 0 rfl rfl hin dX9_clear_45 (fun H locs hP hD hS => ?_)
    have hP : va_P D vwCl [(q0, .inr (8, [.int (0 : Int32), .int (0 : Int32), .ref q1, .ref q2, .ref q3, .ref q4])), (q1, .inl (ci, 7, .inl (upd zhalves_2 (x1_1).toNatClampNeg (0 : Int32)))), (q2, .inl (ci, 7, .inl (upd zlikings_3 (x1_1).toNatClampNeg (0 : Int32)))), (q3, .inl (ci, 7, .inl (upd zfears_4 (x1_1).toNatClampNeg (0 : Int32)))), (q4, .inl (ci, 7, .inl (upd zheirs_5 (x1_1).toNatClampNeg (-1 : Int32))))] H := hP
    have hD : va_D A [(q0, .inr (8, [.int (0 : Int32), .int (0 : Int32), .ref q1, .ref q2, .ref q3, .ref q4])), (q1, .inl (ci, 7, .inl (upd zhalves_2 (x1_1).toNatClampNeg (0 : Int32)))), (q2, .inl (ci, 7, .inl (upd zlikings_3 (x1_1).toNatClampNeg (0 : Int32)))), (q3, .inl (ci, 7, .inl (upd zfears_4 (x1_1).toNatClampNeg (0 : Int32)))), (q4, .inl (ci, 7, .inl (upd zheirs_5 (x1_1).toNatClampNeg (-1 : Int32))))] := hD
    refine lv_iinc (v := (x1_1 + (1 : Int32))) (lv' := [(1, .int (x1_1 + (1 : Int32))), (0, .ref q0)]) hx hb dX9_clear_46 hl (k := 1) rfl rfl (by decide) rfl (fun ls hl => ?_)
    refine lv_goto (tgt := 12) hx hb dX9_clear_49 (by decide) ?_
    exact hG12 _ _ _ _ _ H locs ls hw hP hS (lv_sub hl [1, 0] rfl)

def wp_X7_takesHalves (zexpected : Int32) (zdraft_dogs : Int32) (zdraft_halves : Nat → Int32) (a1 : Int32) (post : Int32 → Int32 → (Nat → Int32) → Prop) : Prop :=
  (((7 : Int32) ≤ zdraft_dogs → post (0 : Int32) zexpected zdraft_halves) ∧ (¬ (7 : Int32) ≤ zdraft_dogs → ((a1 < (49 : Int32) → post (0 : Int32) zexpected zdraft_halves) ∧ (¬ a1 < (49 : Int32) → ((a1 ≤ (57 : Int32) → (vp_in zdraft_dogs 7 ∧ post (1 : Int32) (1 : Int32) (upd zdraft_halves (zdraft_dogs).toNatClampNeg (a1 - (48 : Int32))))) ∧ (¬ a1 ≤ (57 : Int32) → post (0 : Int32) zexpected zdraft_halves))))))
set_option maxHeartbeats 4000000 in
set_option maxRecDepth 100000 in
theorem c_X7_takesHalves (l : Launch) (D : va_G) (ci cz : ClassId) (tr : List (ClassId × FieldType)) (q0 q1 q2 : Nat) (sz : Nat) (u0 u1 u2 u3 u4 u5 u6 u7 : Value) (zexpected : Int32) (zdraft_dogs : Int32) (zdraft_halves : Nat → Int32) (a1 : Int32) (post : Int32 → Int32 → (Nat → Int32) → Prop) (hw : wp_X7_takesHalves zexpected zdraft_dogs zdraft_halves a1 post) : gM l yX7_takesHalves cX7_takesHalves 2 (some .boolean) 0 0 D ci cz tr [(q0, .inr (6, [u0, u1, .ref q1, .int zexpected, u2, u3])), (q1, .inr (8, [.int zdraft_dogs, u4, .ref q2, u5, u6, u7])), (q2, .inl (ci, 7, .inl zdraft_halves))] sz [.ref q0, .int a1] (gQi D [(q0, .inr (6, [u0, u1, .ref q1, .int zexpected, u2, u3])), (q1, .inr (8, [.int zdraft_dogs, u4, .ref q2, u5, u6, u7])), (q2, .inl (ci, 7, .inl zdraft_halves))] sz (fun (r : Int32) w => ∃ (o_zexpected : Int32) (o_zdraft_halves : Nat → Int32), w = [(q0, .inr (6, [u0, u1, .ref q1, .int o_zexpected, u2, u3])), (q1, .inr (8, [.int zdraft_dogs, u4, .ref q2, u5, u6, u7])), (q2, .inl (ci, 7, .inl o_zdraft_halves))] ∧ post r o_zexpected o_zdraft_halves)) := by
  refine gmet_z RX7 (by decide +kernel) rfl (Nat.le_of_ble_eq_true rfl) ?_
  intro p e s m args below meth c A R Q C hfr hlc hP hD hret ls hl
  obtain ⟨hx, hb, hml, hown, ht, hK, hZ, hA⟩ := C
  have hl : lv_has ls 2 [(0, .ref q0), (1, .int a1)] := hl
  unfold wp_X7_takesHalves at hw
  refine g_in (fun H locs => W p l e R s m args below meth c H locs 0 0 Q (F0 m 0 ls [])) (fun H locs hS0 hP => ?_) hP (va_S.rf (A := A) (H0 := s.heap))
  have hS : va_S A s.heap H locs := hS0
  clear hS0
  refine lv_aload_n hx hb dX7_takesHalves_0 rfl (lv_at hl 0 rfl) ?_
  refine va_get (D := D) (ci := 6) (v := .ref q1) (C := RX7) (T := TX7) (N := 6) hx hb ht in_X7 hown hK.1 hP 0 rfl rfl 2 (by decide) (ht _ mF_X7_18) (fun _ h9 => h9) rfl dX7_takesHalves_1 ?_
  refine va_get (D := D) (ci := 8) (v := .int zdraft_dogs) (C := RX9) (T := TX9) (N := 6) hx hb ht in_X9 hown hK.1 hP 1 rfl rfl 0 (by decide) (ht _ mF_X7_55) (fun _ h9 => h9) rfl dX7_takesHalves_4 ?_
  refine lv_bipush (v := (7 : Int32)) hx hb dX7_takesHalves_7 (by decide) ?_
  refine lv_icmp_ge (tgt := 24) hx hb dX7_takesHalves_9 (by decide) (fun hc => ?_) (fun hc => ?_)
  · have hw := hw.1 hc
    refine lv_iconst (v := (0 : Int32)) hx hb dX7_takesHalves_24 (by decide) ?_
    exact hret _ _ H locs _ _ (by decide) ⟨_, _, rfl, hw⟩ hP hS dX7_takesHalves_25
  · have hw := hw.2 hc
    refine lv_iload_n hx hb dX7_takesHalves_12 rfl (lv_at hl 1 rfl) ?_
    refine lv_bipush (v := (49 : Int32)) hx hb dX7_takesHalves_13 (by decide) ?_
    refine lv_icmp_lt (tgt := 24) hx hb dX7_takesHalves_15 (by decide) (fun hc => ?_) (fun hc => ?_)
    · have hw := hw.1 hc
      refine lv_iconst (v := (0 : Int32)) hx hb dX7_takesHalves_24 (by decide) ?_
      exact hret _ _ H locs _ _ (by decide) ⟨_, _, rfl, hw⟩ hP hS dX7_takesHalves_25
    · have hw := hw.2 hc
      refine lv_iload_n hx hb dX7_takesHalves_18 rfl (lv_at hl 1 rfl) ?_
      refine lv_bipush (v := (57 : Int32)) hx hb dX7_takesHalves_19 (by decide) ?_
      refine lv_icmp_le (tgt := 26) hx hb dX7_takesHalves_21 (by decide) (fun hc => ?_) (fun hc => ?_)
      · have hw := hw.1 hc
        refine lv_aload_n hx hb dX7_takesHalves_26 rfl (lv_at hl 0 rfl) ?_
        refine va_get (D := D) (ci := 6) (v := .ref q1) (C := RX7) (T := TX7) (N := 6) hx hb ht in_X7 hown hK.1 hP 0 rfl rfl 2 (by decide) (ht _ mF_X7_18) (fun _ h9 => h9) rfl dX7_takesHalves_27 ?_
        refine va_get (D := D) (ci := 8) (v := .ref q2) (C := RX9) (T := TX9) (N := 6) hx hb ht in_X9 hown hK.1 hP 1 rfl rfl 2 (by decide) (ht _ mF_X7_58) (fun _ h9 => h9) rfl dX7_takesHalves_30 ?_
        refine lv_aload_n hx hb dX7_takesHalves_33 rfl (lv_at hl 0 rfl) ?_
        refine va_get (D := D) (ci := 6) (v := .ref q1) (C := RX7) (T := TX7) (N := 6) hx hb ht in_X7 hown hK.1 hP 0 rfl rfl 2 (by decide) (ht _ mF_X7_18) (fun _ h9 => h9) rfl dX7_takesHalves_34 ?_
        refine va_get (D := D) (ci := 8) (v := .int zdraft_dogs) (C := RX9) (T := TX9) (N := 6) hx hb ht in_X9 hown hK.1 hP 1 rfl rfl 0 (by decide) (ht _ mF_X7_55) (fun _ h9 => h9) rfl dX7_takesHalves_37 ?_
        refine lv_iload_n hx hb dX7_takesHalves_40 rfl (lv_at hl 1 rfl) ?_
        refine lv_bipush (v := (48 : Int32)) hx hb dX7_takesHalves_41 (by decide) ?_
        refine lv_isub hx hb dX7_takesHalves_43 ?_
        obtain ⟨hin, hw⟩ := hw
        refine va_iast (D := D) hx hb hK.1 hP hD hS 2 0 rfl rfl hin dX7_takesHalves_44 (fun H locs hP hD hS => ?_)
        have hP : va_P D vwCl [(q0, .inr (6, [u0, u1, .ref q1, .int zexpected, u2, u3])), (q1, .inr (8, [.int zdraft_dogs, u4, .ref q2, u5, u6, u7])), (q2, .inl (ci, 7, .inl (upd zdraft_halves (zdraft_dogs).toNatClampNeg (a1 - (48 : Int32)))))] H := hP
        have hD : va_D A [(q0, .inr (6, [u0, u1, .ref q1, .int zexpected, u2, u3])), (q1, .inr (8, [.int zdraft_dogs, u4, .ref q2, u5, u6, u7])), (q2, .inl (ci, 7, .inl (upd zdraft_halves (zdraft_dogs).toNatClampNeg (a1 - (48 : Int32)))))] := hD
        refine lv_aload_n hx hb dX7_takesHalves_45 rfl (lv_at hl 0 rfl) ?_
        refine lv_iconst (v := (1 : Int32)) hx hb dX7_takesHalves_46 (by decide) ?_
        refine va_put (D := D) (ci := 6) (v := .int (1 : Int32)) (ty := .int) (C := RX7) (T := TX7) (N := 6) hx hb ht in_X7 tyX7 tyX7_ok nmX7 hown hK.1 hP hD hS 0 rfl rfl 3 (by decide) (ht _ mF_X7_29) (fun _ h9 => h9) rfl (by decide +kernel) rfl rfl (Nat.le_of_ble_eq_true rfl) dX7_takesHalves_47 (fun H locs hP hD hS => ?_)
        have hP : va_P D vwCl [(q0, .inr (6, [u0, u1, .ref q1, .int (1 : Int32), u2, u3])), (q1, .inr (8, [.int zdraft_dogs, u4, .ref q2, u5, u6, u7])), (q2, .inl (ci, 7, .inl (upd zdraft_halves (zdraft_dogs).toNatClampNeg (a1 - (48 : Int32)))))] H := hP
        have hD : va_D A [(q0, .inr (6, [u0, u1, .ref q1, .int (1 : Int32), u2, u3])), (q1, .inr (8, [.int zdraft_dogs, u4, .ref q2, u5, u6, u7])), (q2, .inl (ci, 7, .inl (upd zdraft_halves (zdraft_dogs).toNatClampNeg (a1 - (48 : Int32)))))] := hD
        refine lv_iconst (v := (1 : Int32)) hx hb dX7_takesHalves_50 (by decide) ?_
        exact hret _ _ H locs _ _ (by decide) ⟨_, _, rfl, hw⟩ hP hS dX7_takesHalves_51
      · have hw := hw.2 hc
        refine lv_iconst (v := (0 : Int32)) hx hb dX7_takesHalves_24 (by decide) ?_
        exact hret _ _ H locs _ _ (by decide) ⟨_, _, rfl, hw⟩ hP hS dX7_takesHalves_25

def wp_X7_takesLikes (zexpected : Int32) (zisLess : Int32) (zdraft_dogs : Int32) (zdraft_untold : Int32) (a1 : Int32) (post : Int32 → Int32 → Int32 → Int32 → Prop) : Prop :=
  jn ( jn ( jn (fun (t_1 : Int32) => ((t_1 = 0 ∨ t_1 = 1) ∧ post (1 : Int32) (2 : Int32) t_1 zdraft_untold)) (fun (J74 : Int32 → Prop) => ((¬ a1 = (45 : Int32) → J74 (0 : Int32)) ∧ (a1 = (45 : Int32) → J74 (1 : Int32))))) (fun (J62 : Prop) => ((a1 = (43 : Int32) → J62) ∧ (¬ a1 = (43 : Int32) → ((a1 = (45 : Int32) → J62) ∧ (¬ a1 = (45 : Int32) → post (0 : Int32) zexpected zisLess zdraft_untold)))))) (fun (J48 : Prop) => ((¬ a1 = (63 : Int32) → J48) ∧ (a1 = (63 : Int32) → wp_J6_bitCount_0f7a4 zdraft_untold (fun (r_2 : Int32) => (((3 : Int32) ≤ r_2 → J48) ∧ (¬ (3 : Int32) ≤ r_2 → post (1 : Int32) (3 : Int32) zisLess (zdraft_untold ||| ((1 : Int32) <<< (zdraft_dogs &&& 31)))))))))
set_option maxHeartbeats 4000000 in
set_option maxRecDepth 100000 in
theorem c_X7_takesLikes (l : Launch) (D : va_G) (ci cz : ClassId) (tr : List (ClassId × FieldType)) (q0 q1 : Nat) (sz : Nat) (u0 u1 u2 u3 u4 u5 u6 : Value) (zexpected : Int32) (zisLess : Int32) (zdraft_dogs : Int32) (zdraft_untold : Int32) (a1 : Int32) (post : Int32 → Int32 → Int32 → Int32 → Prop) (hw : wp_X7_takesLikes zexpected zisLess zdraft_dogs zdraft_untold a1 post) : gM l yX7_takesLikes cX7_takesLikes 2 (some .boolean) 1 20 D ci cz tr [(q0, .inr (6, [u0, u1, .ref q1, .int zexpected, .int zisLess, u2])), (q1, .inr (8, [.int zdraft_dogs, .int zdraft_untold, u3, u4, u5, u6]))] sz [.ref q0, .int a1] (gQi D [(q0, .inr (6, [u0, u1, .ref q1, .int zexpected, .int zisLess, u2])), (q1, .inr (8, [.int zdraft_dogs, .int zdraft_untold, u3, u4, u5, u6]))] sz (fun (r : Int32) w => ∃ (o_zexpected : Int32) (o_zisLess : Int32) (o_zdraft_untold : Int32), w = [(q0, .inr (6, [u0, u1, .ref q1, .int o_zexpected, .int o_zisLess, u2])), (q1, .inr (8, [.int zdraft_dogs, .int o_zdraft_untold, u3, u4, u5, u6]))] ∧ post r o_zexpected o_zisLess o_zdraft_untold)) := by
  refine gmet_z RX7 (by decide +kernel) rfl (Nat.le_of_ble_eq_true rfl) ?_
  intro p e s m args below meth c A R Q C hfr hlc hP hD hret ls hl
  obtain ⟨hx, hb, hml, hown, ht, hK, hZ, hA⟩ := C
  have hl : lv_has ls 2 [(0, .ref q0), (1, .int a1)] := hl
  unfold wp_X7_takesLikes at hw
  refine g_in (fun H locs => W p l e R s m args below meth c H locs 0 0 Q (F0 m 0 ls [])) (fun H locs hS0 hP => ?_) hP (va_S.rf (A := A) (H0 := s.heap))
  have hS : va_S A s.heap H locs := hS0
  clear hS0
  refine lv_iload_n hx hb dX7_takesLikes_0 rfl (lv_at hl 1 rfl) ?_
  refine lv_bipush (v := (63 : Int32)) hx hb dX7_takesLikes_1 (by decide) ?_
  refine jn_walk hw (fun J48 => ∀  (H : Heap) (locs : List Loc) (ls : Array Slot), J48 → va_P D vwCl [(q0, .inr (6, [u0, u1, .ref q1, .int zexpected, .int zisLess, u2])), (q1, .inr (8, [.int zdraft_dogs, .int zdraft_untold, u3, u4, u5, u6]))] H → va_S A s.heap H locs → lv_has ls 2 [(0, .ref q0), (1, .int a1)] → W p l e R s m args below meth c H locs 0 0 Q (F0 m 48 ls [])) ?_ ?_
  · intro  H locs ls hw hP hS hl
    have hD : va_D A [(q0, .inr (6, [u0, u1, .ref q1, .int zexpected, .int zisLess, u2])), (q1, .inr (8, [.int zdraft_dogs, .int zdraft_untold, u3, u4, u5, u6]))] := gD_re hD rfl
    refine lv_iload_n hx hb dX7_takesLikes_48 rfl (lv_at hl 1 rfl) ?_
    refine lv_bipush (v := (43 : Int32)) hx hb dX7_takesLikes_49 (by decide) ?_
    refine jn_walk hw (fun J62 => ∀  (H : Heap) (locs : List Loc) (ls : Array Slot), J62 → va_P D vwCl [(q0, .inr (6, [u0, u1, .ref q1, .int zexpected, .int zisLess, u2])), (q1, .inr (8, [.int zdraft_dogs, .int zdraft_untold, u3, u4, u5, u6]))] H → va_S A s.heap H locs → lv_has ls 2 [(0, .ref q0), (1, .int a1)] → W p l e R s m args below meth c H locs 0 0 Q (F0 m 62 ls [])) ?_ ?_
    · intro  H locs ls hw hP hS hl
      have hD : va_D A [(q0, .inr (6, [u0, u1, .ref q1, .int zexpected, .int zisLess, u2])), (q1, .inr (8, [.int zdraft_dogs, .int zdraft_untold, u3, u4, u5, u6]))] := gD_re hD rfl
      refine lv_aload_n hx hb dX7_takesLikes_62 rfl (lv_at hl 0 rfl) ?_
      refine lv_iload_n hx hb dX7_takesLikes_63 rfl (lv_at hl 1 rfl) ?_
      refine lv_bipush (v := (45 : Int32)) hx hb dX7_takesLikes_64 (by decide) ?_
      refine jn_walk hw (fun J74 => ∀ (t_1 : Int32) (H : Heap) (locs : List Loc) (ls : Array Slot), J74 t_1 → va_P D vwCl [(q0, .inr (6, [u0, u1, .ref q1, .int zexpected, .int zisLess, u2])), (q1, .inr (8, [.int zdraft_dogs, .int zdraft_untold, u3, u4, u5, u6]))] H → va_S A s.heap H locs → lv_has ls 2 [(0, .ref q0)] → W p l e R s m args below meth c H locs 0 0 Q (F0 m 74 ls [.int t_1, .ref q0])) ?_ ?_
      · intro t_1 H locs ls hw hP hS hl
        have hD : va_D A [(q0, .inr (6, [u0, u1, .ref q1, .int zexpected, .int zisLess, u2])), (q1, .inr (8, [.int zdraft_dogs, .int zdraft_untold, u3, u4, u5, u6]))] := gD_re hD rfl
        obtain ⟨h01, hw⟩ := hw
        refine va_put (D := D) (ci := 6) (v := .int t_1) (ty := .boolean) (C := RX7) (T := TX7) (N := 6) hx hb ht in_X7 tyX7 tyX7_ok nmX7 hown hK.1 hP hD hS 0 rfl rfl 4 (by decide) (ht _ mF_X7_70) (fun _ h9 => h9) rfl (by decide +kernel) (nz_b h01) (nz_f h01) (Nat.le_of_ble_eq_true rfl) dX7_takesLikes_74 (fun H locs hP hD hS => ?_)
        have hP : va_P D vwCl [(q0, .inr (6, [u0, u1, .ref q1, .int zexpected, .int t_1, u2])), (q1, .inr (8, [.int zdraft_dogs, .int zdraft_untold, u3, u4, u5, u6]))] H := hP
        have hD : va_D A [(q0, .inr (6, [u0, u1, .ref q1, .int zexpected, .int t_1, u2])), (q1, .inr (8, [.int zdraft_dogs, .int zdraft_untold, u3, u4, u5, u6]))] := hD
        refine lv_aload_n hx hb dX7_takesLikes_77 rfl (lv_at hl 0 rfl) ?_
        refine lv_iconst (v := (2 : Int32)) hx hb dX7_takesLikes_78 (by decide) ?_
        refine va_put (D := D) (ci := 6) (v := .int (2 : Int32)) (ty := .int) (C := RX7) (T := TX7) (N := 6) hx hb ht in_X7 tyX7 tyX7_ok nmX7 hown hK.1 hP hD hS 0 rfl rfl 3 (by decide) (ht _ mF_X7_29) (fun _ h9 => h9) rfl (by decide +kernel) rfl rfl (Nat.le_of_ble_eq_true rfl) dX7_takesLikes_79 (fun H locs hP hD hS => ?_)
        have hP : va_P D vwCl [(q0, .inr (6, [u0, u1, .ref q1, .int (2 : Int32), .int t_1, u2])), (q1, .inr (8, [.int zdraft_dogs, .int zdraft_untold, u3, u4, u5, u6]))] H := hP
        have hD : va_D A [(q0, .inr (6, [u0, u1, .ref q1, .int (2 : Int32), .int t_1, u2])), (q1, .inr (8, [.int zdraft_dogs, .int zdraft_untold, u3, u4, u5, u6]))] := hD
        refine lv_iconst (v := (1 : Int32)) hx hb dX7_takesLikes_82 (by decide) ?_
        exact hret _ _ H locs _ _ (by decide) ⟨_, _, _, rfl, hw⟩ hP hS dX7_takesLikes_83
      · intro J74 hJ74 hw
        refine lv_icmp_ne (tgt := 73) hx hb dX7_takesLikes_66 (by decide) (fun hc => ?_) (fun hc => ?_)
        · have hw := hw.1 hc
          refine lv_iconst (v := (0 : Int32)) hx hb dX7_takesLikes_73 (by decide) ?_
          exact hJ74 _ H locs ls hw hP hS (lv_sub hl [0] rfl)
        · have hw := hw.2 hc
          refine lv_iconst (v := (1 : Int32)) hx hb dX7_takesLikes_69 (by decide) ?_
          refine lv_goto (tgt := 74) hx hb dX7_takesLikes_70 (by decide) ?_
          exact hJ74 _ H locs ls hw hP hS (lv_sub hl [0] rfl)
    · intro J62 hJ62 hw
      refine lv_icmp_eq (tgt := 62) hx hb dX7_takesLikes_51 (by decide) (fun hc => ?_) (fun hc => ?_)
      · have hw := hw.1 hc
        exact hJ62  H locs ls hw hP hS (lv_sub hl [0, 1] rfl)
      · have hw := hw.2 hc
        refine lv_iload_n hx hb dX7_takesLikes_54 rfl (lv_at hl 1 rfl) ?_
        refine lv_bipush (v := (45 : Int32)) hx hb dX7_takesLikes_55 (by decide) ?_
        refine lv_icmp_eq (tgt := 62) hx hb dX7_takesLikes_57 (by decide) (fun hc => ?_) (fun hc => ?_)
        · have hw := hw.1 hc
          exact hJ62  H locs ls hw hP hS (lv_sub hl [0, 1] rfl)
        · have hw := hw.2 hc
          refine lv_iconst (v := (0 : Int32)) hx hb dX7_takesLikes_60 (by decide) ?_
          exact hret _ _ H locs _ _ (by decide) ⟨_, _, _, rfl, hw⟩ hP hS dX7_takesLikes_61
  · intro J48 hJ48 hw
    refine lv_icmp_ne (tgt := 48) hx hb dX7_takesLikes_3 (by decide) (fun hc => ?_) (fun hc => ?_)
    · have hw := hw.1 hc
      exact hJ48  H locs ls hw hP hS (lv_sub hl [0, 1] rfl)
    · have hw := hw.2 hc
      refine lv_aload_n hx hb dX7_takesLikes_6 rfl (lv_at hl 0 rfl) ?_
      refine va_get (D := D) (ci := 6) (v := .ref q1) (C := RX7) (T := TX7) (N := 6) hx hb ht in_X7 hown hK.1 hP 0 rfl rfl 2 (by decide) (ht _ mF_X7_18) (fun _ h9 => h9) rfl dX7_takesLikes_7 ?_
      refine va_get (D := D) (ci := 8) (v := .int zdraft_untold) (C := RX9) (T := TX9) (N := 6) hx hb ht in_X9 hown hK.1 hP 1 rfl rfl 1 (by decide) (ht _ mF_X7_61) (fun _ h9 => h9) rfl dX7_takesLikes_10 ?_
      refine gcalli (va_runS (As := [.int zdraft_untold]) (rest := []) ⟨hx, hb, hml, hown, ht⟩ (c_J6_bitCount_0f7a4 l D ci cz tr  H.size zdraft_untold _ hw) (va_cwS 1 ht (gi_S mM_X7_64 mT_J6_bitCount_0f7a4 mN_J6 mC_J6_bitCount_0f7a4) rfl rfl rfl (by decide +kernel) ⟨Nat.le_trans (Nat.le_of_ble_eq_true rfl) hfr, Nat.le_trans (Nat.le_of_ble_eq_true rfl) hlc⟩) (gpre (wc := []) hK hZ hP hD hS hA [] rfl rfl) rfl rfl hl.1 rfl (lv_room (Nat.le_of_ble_eq_true rfl)) dX7_takesLikes_13 ⟨Nat.zero_le _, Nat.zero_le _⟩) hD hS hA [] rfl (fun r_2 w9 H locs hw hP9 hk9 hS => ?_)
      obtain ⟨rfl, hw⟩ := hw
      have hP : va_P D vwCl [(q0, .inr (6, [u0, u1, .ref q1, .int zexpected, .int zisLess, u2])), (q1, .inr (8, [.int zdraft_dogs, .int zdraft_untold, u3, u4, u5, u6]))] H := gjoin3 hP hD [] hP9 hk9 rfl rfl [none, none] rfl rfl
      clear hP9 hk9
      refine lv_iconst (v := (3 : Int32)) hx hb dX7_takesLikes_16 (by decide) ?_
      refine lv_icmp_ge (tgt := 48) hx hb dX7_takesLikes_17 (by decide) (fun hc => ?_) (fun hc => ?_)
      · have hw := hw.1 hc
        exact hJ48  H locs ls hw hP hS (lv_sub hl [0, 1] rfl)
      · have hw := hw.2 hc
        refine lv_aload_n hx hb dX7_takesLikes_20 rfl (lv_at hl 0 rfl) ?_
        refine va_get (D := D) (ci := 6) (v := .ref q1) (C := RX7) (T := TX7) (N := 6) hx hb ht in_X7 hown hK.1 hP 0 rfl rfl 2 (by decide) (ht _ mF_X7_18) (fun _ h9 => h9) rfl dX7_takesLikes_21 ?_
        refine lv_dup hx hb dX7_takesLikes_24 rfl ?_
        refine va_get (D := D) (ci := 8) (v := .int zdraft_untold) (C := RX9) (T := TX9) (N := 6) hx hb ht in_X9 hown hK.1 hP 1 rfl rfl 1 (by decide) (ht _ mF_X7_61) (fun _ h9 => h9) rfl dX7_takesLikes_25 ?_
        refine lv_iconst (v := (1 : Int32)) hx hb dX7_takesLikes_28 (by decide) ?_
        refine lv_aload_n hx hb dX7_takesLikes_29 rfl (lv_at hl 0 rfl) ?_
        refine va_get (D := D) (ci := 6) (v := .ref q1) (C := RX7) (T := TX7) (N := 6) hx hb ht in_X7 hown hK.1 hP 0 rfl rfl 2 (by decide) (ht _ mF_X7_18) (fun _ h9 => h9) rfl dX7_takesLikes_30 ?_
        refine va_get (D := D) (ci := 8) (v := .int zdraft_dogs) (C := RX9) (T := TX9) (N := 6) hx hb ht in_X9 hown hK.1 hP 1 rfl rfl 0 (by decide) (ht _ mF_X7_55) (fun _ h9 => h9) rfl dX7_takesLikes_33 ?_
        refine lv_ishl hx hb dX7_takesLikes_36 ?_
        refine lv_ior hx hb dX7_takesLikes_37 ?_
        refine va_put (D := D) (ci := 8) (v := .int (zdraft_untold ||| ((1 : Int32) <<< (zdraft_dogs &&& 31)))) (ty := .int) (C := RX9) (T := TX9) (N := 6) hx hb ht in_X9 tyX9 tyX9_ok nmX9 hown hK.1 hP hD hS 1 rfl rfl 1 (by decide) (ht _ mF_X7_61) (fun _ h9 => h9) rfl (by decide +kernel) rfl rfl (Nat.le_of_ble_eq_true rfl) dX7_takesLikes_38 (fun H locs hP hD hS => ?_)
        have hP : va_P D vwCl [(q0, .inr (6, [u0, u1, .ref q1, .int zexpected, .int zisLess, u2])), (q1, .inr (8, [.int zdraft_dogs, .int (zdraft_untold ||| ((1 : Int32) <<< (zdraft_dogs &&& 31))), u3, u4, u5, u6]))] H := hP
        have hD : va_D A [(q0, .inr (6, [u0, u1, .ref q1, .int zexpected, .int zisLess, u2])), (q1, .inr (8, [.int zdraft_dogs, .int (zdraft_untold ||| ((1 : Int32) <<< (zdraft_dogs &&& 31))), u3, u4, u5, u6]))] := hD
        refine lv_aload_n hx hb dX7_takesLikes_41 rfl (lv_at hl 0 rfl) ?_
        refine lv_iconst (v := (3 : Int32)) hx hb dX7_takesLikes_42 (by decide) ?_
        refine va_put (D := D) (ci := 6) (v := .int (3 : Int32)) (ty := .int) (C := RX7) (T := TX7) (N := 6) hx hb ht in_X7 tyX7 tyX7_ok nmX7 hown hK.1 hP hD hS 0 rfl rfl 3 (by decide) (ht _ mF_X7_29) (fun _ h9 => h9) rfl (by decide +kernel) rfl rfl (Nat.le_of_ble_eq_true rfl) dX7_takesLikes_43 (fun H locs hP hD hS => ?_)
        have hP : va_P D vwCl [(q0, .inr (6, [u0, u1, .ref q1, .int (3 : Int32), .int zisLess, u2])), (q1, .inr (8, [.int zdraft_dogs, .int (zdraft_untold ||| ((1 : Int32) <<< (zdraft_dogs &&& 31))), u3, u4, u5, u6]))] H := hP
        have hD : va_D A [(q0, .inr (6, [u0, u1, .ref q1, .int (3 : Int32), .int zisLess, u2])), (q1, .inr (8, [.int zdraft_dogs, .int (zdraft_untold ||| ((1 : Int32) <<< (zdraft_dogs &&& 31))), u3, u4, u5, u6]))] := hD
        refine lv_iconst (v := (1 : Int32)) hx hb dX7_takesLikes_46 (by decide) ?_
        exact hret _ _ H locs _ _ (by decide) ⟨_, _, _, rfl, hw⟩ hP hS dX7_takesLikes_47

def wp_X7_takesDigit (zexpected : Int32) (zisLess : Int32) (zdraft_dogs : Int32) (zdraft_likings : Nat → Int32) (a1 : Int32) (post : Int32 → Int32 → (Nat → Int32) → Prop) : Prop :=
  (((7 : Int32) ≤ zdraft_dogs → post (0 : Int32) zexpected zdraft_likings) ∧ (¬ (7 : Int32) ≤ zdraft_dogs → ((a1 < (48 : Int32) → post (0 : Int32) zexpected zdraft_likings) ∧ (¬ a1 < (48 : Int32) → ((a1 ≤ (57 : Int32) → jn (fun (t_1 : Int32) => (vp_in zdraft_dogs 7 ∧ post (1 : Int32) (3 : Int32) (upd zdraft_likings (zdraft_dogs).toNatClampNeg t_1))) (fun (J58 : Int32 → Prop) => ((zisLess = 0 → J58 (a1 - (48 : Int32))) ∧ (¬ zisLess = 0 → J58 ((48 : Int32) - a1))))) ∧ (¬ a1 ≤ (57 : Int32) → post (0 : Int32) zexpected zdraft_likings))))))
set_option maxHeartbeats 4000000 in
set_option maxRecDepth 100000 in
theorem c_X7_takesDigit (l : Launch) (D : va_G) (ci cz : ClassId) (tr : List (ClassId × FieldType)) (q0 q1 q2 : Nat) (sz : Nat) (u0 u1 u2 u3 u4 u5 u6 : Value) (zexpected : Int32) (zisLess : Int32) (zdraft_dogs : Int32) (zdraft_likings : Nat → Int32) (a1 : Int32) (post : Int32 → Int32 → (Nat → Int32) → Prop) (hw : wp_X7_takesDigit zexpected zisLess zdraft_dogs zdraft_likings a1 post) : gM l yX7_takesDigit cX7_takesDigit 2 (some .boolean) 0 0 D ci cz tr [(q0, .inr (6, [u0, u1, .ref q1, .int zexpected, .int zisLess, u2])), (q1, .inr (8, [.int zdraft_dogs, u3, u4, .ref q2, u5, u6])), (q2, .inl (ci, 7, .inl zdraft_likings))] sz [.ref q0, .int a1] (gQi D [(q0, .inr (6, [u0, u1, .ref q1, .int zexpected, .int zisLess, u2])), (q1, .inr (8, [.int zdraft_dogs, u3, u4, .ref q2, u5, u6])), (q2, .inl (ci, 7, .inl zdraft_likings))] sz (fun (r : Int32) w => ∃ (o_zexpected : Int32) (o_zdraft_likings : Nat → Int32), w = [(q0, .inr (6, [u0, u1, .ref q1, .int o_zexpected, .int zisLess, u2])), (q1, .inr (8, [.int zdraft_dogs, u3, u4, .ref q2, u5, u6])), (q2, .inl (ci, 7, .inl o_zdraft_likings))] ∧ post r o_zexpected o_zdraft_likings)) := by
  refine gmet_z RX7 (by decide +kernel) rfl (Nat.le_of_ble_eq_true rfl) ?_
  intro p e s m args below meth c A R Q C hfr hlc hP hD hret ls hl
  obtain ⟨hx, hb, hml, hown, ht, hK, hZ, hA⟩ := C
  have hl : lv_has ls 2 [(0, .ref q0), (1, .int a1)] := hl
  unfold wp_X7_takesDigit at hw
  refine g_in (fun H locs => W p l e R s m args below meth c H locs 0 0 Q (F0 m 0 ls [])) (fun H locs hS0 hP => ?_) hP (va_S.rf (A := A) (H0 := s.heap))
  have hS : va_S A s.heap H locs := hS0
  clear hS0
  refine lv_aload_n hx hb dX7_takesDigit_0 rfl (lv_at hl 0 rfl) ?_
  refine va_get (D := D) (ci := 6) (v := .ref q1) (C := RX7) (T := TX7) (N := 6) hx hb ht in_X7 hown hK.1 hP 0 rfl rfl 2 (by decide) (ht _ mF_X7_18) (fun _ h9 => h9) rfl dX7_takesDigit_1 ?_
  refine va_get (D := D) (ci := 8) (v := .int zdraft_dogs) (C := RX9) (T := TX9) (N := 6) hx hb ht in_X9 hown hK.1 hP 1 rfl rfl 0 (by decide) (ht _ mF_X7_55) (fun _ h9 => h9) rfl dX7_takesDigit_4 ?_
  refine lv_bipush (v := (7 : Int32)) hx hb dX7_takesDigit_7 (by decide) ?_
  refine lv_icmp_ge (tgt := 24) hx hb dX7_takesDigit_9 (by decide) (fun hc => ?_) (fun hc => ?_)
  · have hw := hw.1 hc
    refine lv_iconst (v := (0 : Int32)) hx hb dX7_takesDigit_24 (by decide) ?_
    exact hret _ _ H locs _ _ (by decide) ⟨_, _, rfl, hw⟩ hP hS dX7_takesDigit_25
  · have hw := hw.2 hc
    refine lv_iload_n hx hb dX7_takesDigit_12 rfl (lv_at hl 1 rfl) ?_
    refine lv_bipush (v := (48 : Int32)) hx hb dX7_takesDigit_13 (by decide) ?_
    refine lv_icmp_lt (tgt := 24) hx hb dX7_takesDigit_15 (by decide) (fun hc => ?_) (fun hc => ?_)
    · have hw := hw.1 hc
      refine lv_iconst (v := (0 : Int32)) hx hb dX7_takesDigit_24 (by decide) ?_
      exact hret _ _ H locs _ _ (by decide) ⟨_, _, rfl, hw⟩ hP hS dX7_takesDigit_25
    · have hw := hw.2 hc
      refine lv_iload_n hx hb dX7_takesDigit_18 rfl (lv_at hl 1 rfl) ?_
      refine lv_bipush (v := (57 : Int32)) hx hb dX7_takesDigit_19 (by decide) ?_
      refine lv_icmp_le (tgt := 26) hx hb dX7_takesDigit_21 (by decide) (fun hc => ?_) (fun hc => ?_)
      · have hw := hw.1 hc
        refine lv_aload_n hx hb dX7_takesDigit_26 rfl (lv_at hl 0 rfl) ?_
        refine va_get (D := D) (ci := 6) (v := .ref q1) (C := RX7) (T := TX7) (N := 6) hx hb ht in_X7 hown hK.1 hP 0 rfl rfl 2 (by decide) (ht _ mF_X7_18) (fun _ h9 => h9) rfl dX7_takesDigit_27 ?_
        refine va_get (D := D) (ci := 8) (v := .ref q2) (C := RX9) (T := TX9) (N := 6) hx hb ht in_X9 hown hK.1 hP 1 rfl rfl 3 (by decide) (ht _ mF_X7_74) (fun _ h9 => h9) rfl dX7_takesDigit_30 ?_
        refine lv_aload_n hx hb dX7_takesDigit_33 rfl (lv_at hl 0 rfl) ?_
        refine va_get (D := D) (ci := 6) (v := .ref q1) (C := RX7) (T := TX7) (N := 6) hx hb ht in_X7 hown hK.1 hP 0 rfl rfl 2 (by decide) (ht _ mF_X7_18) (fun _ h9 => h9) rfl dX7_takesDigit_34 ?_
        refine va_get (D := D) (ci := 8) (v := .int zdraft_dogs) (C := RX9) (T := TX9) (N := 6) hx hb ht in_X9 hown hK.1 hP 1 rfl rfl 0 (by decide) (ht _ mF_X7_55) (fun _ h9 => h9) rfl dX7_takesDigit_37 ?_
        refine lv_aload_n hx hb dX7_takesDigit_40 rfl (lv_at hl 0 rfl) ?_
        refine va_get (D := D) (ci := 6) (v := .int zisLess) (C := RX7) (T := TX7) (N := 6) hx hb ht in_X7 hown hK.1 hP 0 rfl rfl 4 (by decide) (ht _ mF_X7_70) (fun _ h9 => h9) rfl dX7_takesDigit_41 ?_
        refine jn_walk hw (fun J58 => ∀ (t_1 : Int32) (H : Heap) (locs : List Loc) (ls : Array Slot), J58 t_1 → va_P D vwCl [(q0, .inr (6, [u0, u1, .ref q1, .int zexpected, .int zisLess, u2])), (q1, .inr (8, [.int zdraft_dogs, u3, u4, .ref q2, u5, u6])), (q2, .inl (ci, 7, .inl zdraft_likings))] H → va_S A s.heap H locs → lv_has ls 2 [(0, .ref q0)] → W p l e R s m args below meth c H locs 0 0 Q (F0 m 58 ls [.int t_1, .int zdraft_dogs, .ref q2])) ?_ ?_
        · intro t_1 H locs ls hw hP hS hl
          have hD : va_D A [(q0, .inr (6, [u0, u1, .ref q1, .int zexpected, .int zisLess, u2])), (q1, .inr (8, [.int zdraft_dogs, u3, u4, .ref q2, u5, u6])), (q2, .inl (ci, 7, .inl zdraft_likings))] := gD_re hD rfl
          obtain ⟨hin, hw⟩ := hw
          refine va_iast (D := D) hx hb hK.1 hP hD hS 2 0 rfl rfl hin dX7_takesDigit_58 (fun H locs hP hD hS => ?_)
          have hP : va_P D vwCl [(q0, .inr (6, [u0, u1, .ref q1, .int zexpected, .int zisLess, u2])), (q1, .inr (8, [.int zdraft_dogs, u3, u4, .ref q2, u5, u6])), (q2, .inl (ci, 7, .inl (upd zdraft_likings (zdraft_dogs).toNatClampNeg t_1)))] H := hP
          have hD : va_D A [(q0, .inr (6, [u0, u1, .ref q1, .int zexpected, .int zisLess, u2])), (q1, .inr (8, [.int zdraft_dogs, u3, u4, .ref q2, u5, u6])), (q2, .inl (ci, 7, .inl (upd zdraft_likings (zdraft_dogs).toNatClampNeg t_1)))] := hD
          refine lv_aload_n hx hb dX7_takesDigit_59 rfl (lv_at hl 0 rfl) ?_
          refine lv_iconst (v := (3 : Int32)) hx hb dX7_takesDigit_60 (by decide) ?_
          refine va_put (D := D) (ci := 6) (v := .int (3 : Int32)) (ty := .int) (C := RX7) (T := TX7) (N := 6) hx hb ht in_X7 tyX7 tyX7_ok nmX7 hown hK.1 hP hD hS 0 rfl rfl 3 (by decide) (ht _ mF_X7_29) (fun _ h9 => h9) rfl (by decide +kernel) rfl rfl (Nat.le_of_ble_eq_true rfl) dX7_takesDigit_61 (fun H locs hP hD hS => ?_)
          have hP : va_P D vwCl [(q0, .inr (6, [u0, u1, .ref q1, .int (3 : Int32), .int zisLess, u2])), (q1, .inr (8, [.int zdraft_dogs, u3, u4, .ref q2, u5, u6])), (q2, .inl (ci, 7, .inl (upd zdraft_likings (zdraft_dogs).toNatClampNeg t_1)))] H := hP
          have hD : va_D A [(q0, .inr (6, [u0, u1, .ref q1, .int (3 : Int32), .int zisLess, u2])), (q1, .inr (8, [.int zdraft_dogs, u3, u4, .ref q2, u5, u6])), (q2, .inl (ci, 7, .inl (upd zdraft_likings (zdraft_dogs).toNatClampNeg t_1)))] := hD
          refine lv_iconst (v := (1 : Int32)) hx hb dX7_takesDigit_64 (by decide) ?_
          exact hret _ _ H locs _ _ (by decide) ⟨_, _, rfl, hw⟩ hP hS dX7_takesDigit_65
        · intro J58 hJ58 hw
          refine lv_if_eq (tgt := 54) hx hb dX7_takesDigit_44 (by decide) (fun hc => ?_) (fun hc => ?_)
          · have hw := hw.1 hc
            refine lv_iload_n hx hb dX7_takesDigit_54 rfl (lv_at hl 1 rfl) ?_
            refine lv_bipush (v := (48 : Int32)) hx hb dX7_takesDigit_55 (by decide) ?_
            refine lv_isub hx hb dX7_takesDigit_57 ?_
            exact hJ58 _ H locs ls hw hP hS (lv_sub hl [0] rfl)
          · have hw := hw.2 hc
            refine lv_bipush (v := (48 : Int32)) hx hb dX7_takesDigit_47 (by decide) ?_
            refine lv_iload_n hx hb dX7_takesDigit_49 rfl (lv_at hl 1 rfl) ?_
            refine lv_isub hx hb dX7_takesDigit_50 ?_
            refine lv_goto (tgt := 58) hx hb dX7_takesDigit_51 (by decide) ?_
            exact hJ58 _ H locs ls hw hP hS (lv_sub hl [0] rfl)
      · have hw := hw.2 hc
        refine lv_iconst (v := (0 : Int32)) hx hb dX7_takesDigit_24 (by decide) ?_
        exact hret _ _ H locs _ _ (by decide) ⟨_, _, rfl, hw⟩ hP hS dX7_takesDigit_25

def wp_X7_takesFearMark (zexpected : Int32) (zlastFeared : Int32)  (post : Int32 → Int32 → Int32 → Prop) : Prop :=
  post (1 : Int32) (4 : Int32) (-1 : Int32)
set_option maxHeartbeats 4000000 in
set_option maxRecDepth 100000 in
theorem c_X7_takesFearMark (l : Launch) (D : va_G) (ci cz : ClassId) (tr : List (ClassId × FieldType)) (q0 : Nat) (sz : Nat) (u0 u1 u2 u3 : Value) (zexpected : Int32) (zlastFeared : Int32)  (post : Int32 → Int32 → Int32 → Prop) (hw : wp_X7_takesFearMark zexpected zlastFeared post) : gM l yX7_takesFearMark cX7_takesFearMark 1 (some .boolean) 0 0 D ci cz tr [(q0, .inr (6, [u0, u1, u2, .int zexpected, u3, .int zlastFeared]))] sz [.ref q0] (gQi D [(q0, .inr (6, [u0, u1, u2, .int zexpected, u3, .int zlastFeared]))] sz (fun (r : Int32) w => ∃ (o_zexpected : Int32) (o_zlastFeared : Int32), w = [(q0, .inr (6, [u0, u1, u2, .int o_zexpected, u3, .int o_zlastFeared]))] ∧ post r o_zexpected o_zlastFeared)) := by
  refine gmet_z RX7 (by decide +kernel) rfl (Nat.le_of_ble_eq_true rfl) ?_
  intro p e s m args below meth c A R Q C hfr hlc hP hD hret ls hl
  obtain ⟨hx, hb, hml, hown, ht, hK, hZ, hA⟩ := C
  have hl : lv_has ls 1 [(0, .ref q0)] := hl
  unfold wp_X7_takesFearMark at hw
  refine g_in (fun H locs => W p l e R s m args below meth c H locs 0 0 Q (F0 m 0 ls [])) (fun H locs hS0 hP => ?_) hP (va_S.rf (A := A) (H0 := s.heap))
  have hS : va_S A s.heap H locs := hS0
  clear hS0
  refine lv_aload_n hx hb dX7_takesFearMark_0 rfl (lv_at hl 0 rfl) ?_
  refine lv_iconst (v := (-1 : Int32)) hx hb dX7_takesFearMark_1 (by decide) ?_
  refine va_put (D := D) (ci := 6) (v := .int (-1 : Int32)) (ty := .int) (C := RX7) (T := TX7) (N := 6) hx hb ht in_X7 tyX7 tyX7_ok nmX7 hown hK.1 hP hD hS 0 rfl rfl 5 (by decide) (ht _ mF_X7_77) (fun _ h9 => h9) rfl (by decide +kernel) rfl rfl (Nat.le_of_ble_eq_true rfl) dX7_takesFearMark_2 (fun H locs hP hD hS => ?_)
  have hP : va_P D vwCl [(q0, .inr (6, [u0, u1, u2, .int zexpected, u3, .int (-1 : Int32)]))] H := hP
  have hD : va_D A [(q0, .inr (6, [u0, u1, u2, .int zexpected, u3, .int (-1 : Int32)]))] := hD
  refine lv_aload_n hx hb dX7_takesFearMark_5 rfl (lv_at hl 0 rfl) ?_
  refine lv_iconst (v := (4 : Int32)) hx hb dX7_takesFearMark_6 (by decide) ?_
  refine va_put (D := D) (ci := 6) (v := .int (4 : Int32)) (ty := .int) (C := RX7) (T := TX7) (N := 6) hx hb ht in_X7 tyX7 tyX7_ok nmX7 hown hK.1 hP hD hS 0 rfl rfl 3 (by decide) (ht _ mF_X7_29) (fun _ h9 => h9) rfl (by decide +kernel) rfl rfl (Nat.le_of_ble_eq_true rfl) dX7_takesFearMark_7 (fun H locs hP hD hS => ?_)
  have hP : va_P D vwCl [(q0, .inr (6, [u0, u1, u2, .int (4 : Int32), u3, .int (-1 : Int32)]))] H := hP
  have hD : va_D A [(q0, .inr (6, [u0, u1, u2, .int (4 : Int32), u3, .int (-1 : Int32)]))] := hD
  refine lv_iconst (v := (1 : Int32)) hx hb dX7_takesFearMark_10 (by decide) ?_
  exact hret _ _ H locs _ _ (by decide) ⟨_, _, rfl, hw⟩ hP hS dX7_takesFearMark_11

def wp_X7_takesEnd (zexpected : Int32) (zdraft_dogs : Int32) (a1 : Int32) (post : Int32 → Int32 → Int32 → Prop) : Prop :=
  ((a1 = (59 : Int32) → post (1 : Int32) (0 : Int32) (zdraft_dogs + (1 : Int32))) ∧ (¬ a1 = (59 : Int32) → post (0 : Int32) zexpected zdraft_dogs))
set_option maxHeartbeats 4000000 in
set_option maxRecDepth 100000 in
theorem c_X7_takesEnd (l : Launch) (D : va_G) (ci cz : ClassId) (tr : List (ClassId × FieldType)) (q0 q1 : Nat) (sz : Nat) (u0 u1 u2 u3 u4 u5 u6 u7 u8 : Value) (zexpected : Int32) (zdraft_dogs : Int32) (a1 : Int32) (post : Int32 → Int32 → Int32 → Prop) (hw : wp_X7_takesEnd zexpected zdraft_dogs a1 post) : gM l yX7_takesEnd cX7_takesEnd 2 (some .boolean) 0 0 D ci cz tr [(q0, .inr (6, [u0, u1, .ref q1, .int zexpected, u2, u3])), (q1, .inr (8, [.int zdraft_dogs, u4, u5, u6, u7, u8]))] sz [.ref q0, .int a1] (gQi D [(q0, .inr (6, [u0, u1, .ref q1, .int zexpected, u2, u3])), (q1, .inr (8, [.int zdraft_dogs, u4, u5, u6, u7, u8]))] sz (fun (r : Int32) w => ∃ (o_zexpected : Int32) (o_zdraft_dogs : Int32), w = [(q0, .inr (6, [u0, u1, .ref q1, .int o_zexpected, u2, u3])), (q1, .inr (8, [.int o_zdraft_dogs, u4, u5, u6, u7, u8]))] ∧ post r o_zexpected o_zdraft_dogs)) := by
  refine gmet_z RX7 (by decide +kernel) rfl (Nat.le_of_ble_eq_true rfl) ?_
  intro p e s m args below meth c A R Q C hfr hlc hP hD hret ls hl
  obtain ⟨hx, hb, hml, hown, ht, hK, hZ, hA⟩ := C
  have hl : lv_has ls 2 [(0, .ref q0), (1, .int a1)] := hl
  unfold wp_X7_takesEnd at hw
  refine g_in (fun H locs => W p l e R s m args below meth c H locs 0 0 Q (F0 m 0 ls [])) (fun H locs hS0 hP => ?_) hP (va_S.rf (A := A) (H0 := s.heap))
  have hS : va_S A s.heap H locs := hS0
  clear hS0
  refine lv_iload_n hx hb dX7_takesEnd_0 rfl (lv_at hl 1 rfl) ?_
  refine lv_bipush (v := (59 : Int32)) hx hb dX7_takesEnd_1 (by decide) ?_
  refine lv_icmp_eq (tgt := 8) hx hb dX7_takesEnd_3 (by decide) (fun hc => ?_) (fun hc => ?_)
  · have hw := hw.1 hc
    refine lv_aload_n hx hb dX7_takesEnd_8 rfl (lv_at hl 0 rfl) ?_
    refine va_get (D := D) (ci := 6) (v := .ref q1) (C := RX7) (T := TX7) (N := 6) hx hb ht in_X7 hown hK.1 hP 0 rfl rfl 2 (by decide) (ht _ mF_X7_18) (fun _ h9 => h9) rfl dX7_takesEnd_9 ?_
    refine lv_dup hx hb dX7_takesEnd_12 rfl ?_
    refine va_get (D := D) (ci := 8) (v := .int zdraft_dogs) (C := RX9) (T := TX9) (N := 6) hx hb ht in_X9 hown hK.1 hP 1 rfl rfl 0 (by decide) (ht _ mF_X7_55) (fun _ h9 => h9) rfl dX7_takesEnd_13 ?_
    refine lv_iconst (v := (1 : Int32)) hx hb dX7_takesEnd_16 (by decide) ?_
    refine lv_iadd hx hb dX7_takesEnd_17 ?_
    refine va_put (D := D) (ci := 8) (v := .int (zdraft_dogs + (1 : Int32))) (ty := .int) (C := RX9) (T := TX9) (N := 6) hx hb ht in_X9 tyX9 tyX9_ok nmX9 hown hK.1 hP hD hS 1 rfl rfl 0 (by decide) (ht _ mF_X7_55) (fun _ h9 => h9) rfl (by decide +kernel) rfl rfl (Nat.le_of_ble_eq_true rfl) dX7_takesEnd_18 (fun H locs hP hD hS => ?_)
    have hP : va_P D vwCl [(q0, .inr (6, [u0, u1, .ref q1, .int zexpected, u2, u3])), (q1, .inr (8, [.int (zdraft_dogs + (1 : Int32)), u4, u5, u6, u7, u8]))] H := hP
    have hD : va_D A [(q0, .inr (6, [u0, u1, .ref q1, .int zexpected, u2, u3])), (q1, .inr (8, [.int (zdraft_dogs + (1 : Int32)), u4, u5, u6, u7, u8]))] := hD
    refine lv_aload_n hx hb dX7_takesEnd_21 rfl (lv_at hl 0 rfl) ?_
    refine lv_iconst (v := (0 : Int32)) hx hb dX7_takesEnd_22 (by decide) ?_
    refine va_put (D := D) (ci := 6) (v := .int (0 : Int32)) (ty := .int) (C := RX7) (T := TX7) (N := 6) hx hb ht in_X7 tyX7 tyX7_ok nmX7 hown hK.1 hP hD hS 0 rfl rfl 3 (by decide) (ht _ mF_X7_29) (fun _ h9 => h9) rfl (by decide +kernel) rfl rfl (Nat.le_of_ble_eq_true rfl) dX7_takesEnd_23 (fun H locs hP hD hS => ?_)
    have hP : va_P D vwCl [(q0, .inr (6, [u0, u1, .ref q1, .int (0 : Int32), u2, u3])), (q1, .inr (8, [.int (zdraft_dogs + (1 : Int32)), u4, u5, u6, u7, u8]))] H := hP
    have hD : va_D A [(q0, .inr (6, [u0, u1, .ref q1, .int (0 : Int32), u2, u3])), (q1, .inr (8, [.int (zdraft_dogs + (1 : Int32)), u4, u5, u6, u7, u8]))] := hD
    refine lv_iconst (v := (1 : Int32)) hx hb dX7_takesEnd_26 (by decide) ?_
    exact hret _ _ H locs _ _ (by decide) ⟨_, _, rfl, hw⟩ hP hS dX7_takesEnd_27
  · have hw := hw.2 hc
    refine lv_iconst (v := (0 : Int32)) hx hb dX7_takesEnd_6 (by decide) ?_
    exact hret _ _ H locs _ _ (by decide) ⟨_, _, rfl, hw⟩ hP hS dX7_takesEnd_7

def wp_X7_takesFeared (zexpected : Int32) (zlastFeared : Int32) (zdraft_dogs : Int32) (zdraft_fears : Nat → Int32) (a1 : Int32) (post : Int32 → Int32 → Int32 → (Nat → Int32) → Prop) : Prop :=
  (((7 : Int32) ≤ zdraft_dogs → post (0 : Int32) zexpected zlastFeared zdraft_fears) ∧ (¬ (7 : Int32) ≤ zdraft_dogs → (((a1 - (97 : Int32)) ≤ zlastFeared → post (0 : Int32) zexpected zlastFeared zdraft_fears) ∧ (¬ (a1 - (97 : Int32)) ≤ zlastFeared → (((7 : Int32) ≤ (a1 - (97 : Int32)) → post (0 : Int32) zexpected zlastFeared zdraft_fears) ∧ (¬ (7 : Int32) ≤ (a1 - (97 : Int32)) → ((¬ (a1 - (97 : Int32)) = zdraft_dogs → (vp_in zdraft_dogs 7 ∧ (vp_in zdraft_dogs 7 ∧ jn (fun (t_1 : Int32) => post (1 : Int32) t_1 (a1 - (97 : Int32)) (upd zdraft_fears (zdraft_dogs).toNatClampNeg ((zdraft_fears (zdraft_dogs).toNatClampNeg) ||| ((1 : Int32) <<< ((a1 - (97 : Int32)) &&& 31))))) (fun (J85 : Int32 → Prop) => ((¬ zexpected = (4 : Int32) → J85 (6 : Int32)) ∧ (zexpected = (4 : Int32) → J85 (5 : Int32))))))) ∧ ((a1 - (97 : Int32)) = zdraft_dogs → post (0 : Int32) zexpected zlastFeared zdraft_fears))))))))
set_option maxHeartbeats 4000000 in
set_option maxRecDepth 100000 in
theorem c_X7_takesFeared (l : Launch) (D : va_G) (ci cz : ClassId) (tr : List (ClassId × FieldType)) (q0 q1 q2 : Nat) (sz : Nat) (u0 u1 u2 u3 u4 u5 u6 : Value) (zexpected : Int32) (zlastFeared : Int32) (zdraft_dogs : Int32) (zdraft_fears : Nat → Int32) (a1 : Int32) (post : Int32 → Int32 → Int32 → (Nat → Int32) → Prop) (hw : wp_X7_takesFeared zexpected zlastFeared zdraft_dogs zdraft_fears a1 post) : gM l yX7_takesFeared cX7_takesFeared 3 (some .boolean) 0 0 D ci cz tr [(q0, .inr (6, [u0, u1, .ref q1, .int zexpected, u2, .int zlastFeared])), (q1, .inr (8, [.int zdraft_dogs, u3, u4, u5, .ref q2, u6])), (q2, .inl (ci, 7, .inl zdraft_fears))] sz [.ref q0, .int a1] (gQi D [(q0, .inr (6, [u0, u1, .ref q1, .int zexpected, u2, .int zlastFeared])), (q1, .inr (8, [.int zdraft_dogs, u3, u4, u5, .ref q2, u6])), (q2, .inl (ci, 7, .inl zdraft_fears))] sz (fun (r : Int32) w => ∃ (o_zexpected : Int32) (o_zlastFeared : Int32) (o_zdraft_fears : Nat → Int32), w = [(q0, .inr (6, [u0, u1, .ref q1, .int o_zexpected, u2, .int o_zlastFeared])), (q1, .inr (8, [.int zdraft_dogs, u3, u4, u5, .ref q2, u6])), (q2, .inl (ci, 7, .inl o_zdraft_fears))] ∧ post r o_zexpected o_zlastFeared o_zdraft_fears)) := by
  refine gmet_z RX7 (by decide +kernel) rfl (Nat.le_of_ble_eq_true rfl) ?_
  intro p e s m args below meth c A R Q C hfr hlc hP hD hret ls hl
  obtain ⟨hx, hb, hml, hown, ht, hK, hZ, hA⟩ := C
  have hl : lv_has ls 3 [(0, .ref q0), (1, .int a1)] := hl
  unfold wp_X7_takesFeared at hw
  refine g_in (fun H locs => W p l e R s m args below meth c H locs 0 0 Q (F0 m 0 ls [])) (fun H locs hS0 hP => ?_) hP (va_S.rf (A := A) (H0 := s.heap))
  have hS : va_S A s.heap H locs := hS0
  clear hS0
  refine lv_iload_n hx hb dX7_takesFeared_0 rfl (lv_at hl 1 rfl) ?_
  refine lv_bipush (v := (97 : Int32)) hx hb dX7_takesFeared_1 (by decide) ?_
  refine lv_isub hx hb dX7_takesFeared_3 ?_
  refine lv_istore_n (lv' := [(2, .int (a1 - (97 : Int32))), (0, .ref q0), (1, .int a1)]) hx hb dX7_takesFeared_4 rfl hl (by decide) rfl (fun ls hl => ?_)
  refine lv_aload_n hx hb dX7_takesFeared_5 rfl (lv_at hl 1 rfl) ?_
  refine va_get (D := D) (ci := 6) (v := .ref q1) (C := RX7) (T := TX7) (N := 6) hx hb ht in_X7 hown hK.1 hP 0 rfl rfl 2 (by decide) (ht _ mF_X7_18) (fun _ h9 => h9) rfl dX7_takesFeared_6 ?_
  refine va_get (D := D) (ci := 8) (v := .int zdraft_dogs) (C := RX9) (T := TX9) (N := 6) hx hb ht in_X9 hown hK.1 hP 1 rfl rfl 0 (by decide) (ht _ mF_X7_55) (fun _ h9 => h9) rfl dX7_takesFeared_9 ?_
  refine lv_bipush (v := (7 : Int32)) hx hb dX7_takesFeared_12 (by decide) ?_
  refine lv_icmp_ge (tgt := 42) hx hb dX7_takesFeared_14 (by decide) (fun hc => ?_) (fun hc => ?_)
  · have hw := hw.1 hc
    refine lv_iconst (v := (0 : Int32)) hx hb dX7_takesFeared_42 (by decide) ?_
    exact hret _ _ H locs _ _ (by decide) ⟨_, _, _, rfl, hw⟩ hP hS dX7_takesFeared_43
  · have hw := hw.2 hc
    refine lv_iload_n hx hb dX7_takesFeared_17 rfl (lv_at hl 0 rfl) ?_
    refine lv_aload_n hx hb dX7_takesFeared_18 rfl (lv_at hl 1 rfl) ?_
    refine va_get (D := D) (ci := 6) (v := .int zlastFeared) (C := RX7) (T := TX7) (N := 6) hx hb ht in_X7 hown hK.1 hP 0 rfl rfl 5 (by decide) (ht _ mF_X7_77) (fun _ h9 => h9) rfl dX7_takesFeared_19 ?_
    refine lv_icmp_le (tgt := 42) hx hb dX7_takesFeared_22 (by decide) (fun hc => ?_) (fun hc => ?_)
    · have hw := hw.1 hc
      refine lv_iconst (v := (0 : Int32)) hx hb dX7_takesFeared_42 (by decide) ?_
      exact hret _ _ H locs _ _ (by decide) ⟨_, _, _, rfl, hw⟩ hP hS dX7_takesFeared_43
    · have hw := hw.2 hc
      refine lv_iload_n hx hb dX7_takesFeared_25 rfl (lv_at hl 0 rfl) ?_
      refine lv_bipush (v := (7 : Int32)) hx hb dX7_takesFeared_26 (by decide) ?_
      refine lv_icmp_ge (tgt := 42) hx hb dX7_takesFeared_28 (by decide) (fun hc => ?_) (fun hc => ?_)
      · have hw := hw.1 hc
        refine lv_iconst (v := (0 : Int32)) hx hb dX7_takesFeared_42 (by decide) ?_
        exact hret _ _ H locs _ _ (by decide) ⟨_, _, _, rfl, hw⟩ hP hS dX7_takesFeared_43
      · have hw := hw.2 hc
        refine lv_iload_n hx hb dX7_takesFeared_31 rfl (lv_at hl 0 rfl) ?_
        refine lv_aload_n hx hb dX7_takesFeared_32 rfl (lv_at hl 1 rfl) ?_
        refine va_get (D := D) (ci := 6) (v := .ref q1) (C := RX7) (T := TX7) (N := 6) hx hb ht in_X7 hown hK.1 hP 0 rfl rfl 2 (by decide) (ht _ mF_X7_18) (fun _ h9 => h9) rfl dX7_takesFeared_33 ?_
        refine va_get (D := D) (ci := 8) (v := .int zdraft_dogs) (C := RX9) (T := TX9) (N := 6) hx hb ht in_X9 hown hK.1 hP 1 rfl rfl 0 (by decide) (ht _ mF_X7_55) (fun _ h9 => h9) rfl dX7_takesFeared_36 ?_
        refine lv_icmp_ne (tgt := 44) hx hb dX7_takesFeared_39 (by decide) (fun hc => ?_) (fun hc => ?_)
        · have hw := hw.1 hc
          refine lv_aload_n hx hb dX7_takesFeared_44 rfl (lv_at hl 1 rfl) ?_
          refine va_get (D := D) (ci := 6) (v := .ref q1) (C := RX7) (T := TX7) (N := 6) hx hb ht in_X7 hown hK.1 hP 0 rfl rfl 2 (by decide) (ht _ mF_X7_18) (fun _ h9 => h9) rfl dX7_takesFeared_45 ?_
          refine va_get (D := D) (ci := 8) (v := .ref q2) (C := RX9) (T := TX9) (N := 6) hx hb ht in_X9 hown hK.1 hP 1 rfl rfl 4 (by decide) (ht _ mF_X7_80) (fun _ h9 => h9) rfl dX7_takesFeared_48 ?_
          refine lv_aload_n hx hb dX7_takesFeared_51 rfl (lv_at hl 1 rfl) ?_
          refine va_get (D := D) (ci := 6) (v := .ref q1) (C := RX7) (T := TX7) (N := 6) hx hb ht in_X7 hown hK.1 hP 0 rfl rfl 2 (by decide) (ht _ mF_X7_18) (fun _ h9 => h9) rfl dX7_takesFeared_52 ?_
          refine va_get (D := D) (ci := 8) (v := .int zdraft_dogs) (C := RX9) (T := TX9) (N := 6) hx hb ht in_X9 hown hK.1 hP 1 rfl rfl 0 (by decide) (ht _ mF_X7_55) (fun _ h9 => h9) rfl dX7_takesFeared_55 ?_
          refine lv_dup2_11 hx hb dX7_takesFeared_58 rfl rfl ?_
          obtain ⟨hin, hw⟩ := hw
          refine va_iald (D := D) hx hb hK.1 hP 2 0 rfl rfl hin dX7_takesFeared_59 ?_
          refine lv_iconst (v := (1 : Int32)) hx hb dX7_takesFeared_60 (by decide) ?_
          refine lv_iload_n hx hb dX7_takesFeared_61 rfl (lv_at hl 0 rfl) ?_
          refine lv_ishl hx hb dX7_takesFeared_62 ?_
          refine lv_ior hx hb dX7_takesFeared_63 ?_
          obtain ⟨hin, hw⟩ := hw
          refine va_iast (D := D) hx hb hK.1 hP hD hS 2 0 rfl rfl hin dX7_takesFeared_64 (fun H locs hP hD hS => ?_)
          have hP : va_P D vwCl [(q0, .inr (6, [u0, u1, .ref q1, .int zexpected, u2, .int zlastFeared])), (q1, .inr (8, [.int zdraft_dogs, u3, u4, u5, .ref q2, u6])), (q2, .inl (ci, 7, .inl (upd zdraft_fears (zdraft_dogs).toNatClampNeg ((zdraft_fears (zdraft_dogs).toNatClampNeg) ||| ((1 : Int32) <<< ((a1 - (97 : Int32)) &&& 31))))))] H := hP
          have hD : va_D A [(q0, .inr (6, [u0, u1, .ref q1, .int zexpected, u2, .int zlastFeared])), (q1, .inr (8, [.int zdraft_dogs, u3, u4, u5, .ref q2, u6])), (q2, .inl (ci, 7, .inl (upd zdraft_fears (zdraft_dogs).toNatClampNeg ((zdraft_fears (zdraft_dogs).toNatClampNeg) ||| ((1 : Int32) <<< ((a1 - (97 : Int32)) &&& 31))))))] := hD
          refine lv_aload_n hx hb dX7_takesFeared_65 rfl (lv_at hl 1 rfl) ?_
          refine lv_iload_n hx hb dX7_takesFeared_66 rfl (lv_at hl 0 rfl) ?_
          refine va_put (D := D) (ci := 6) (v := .int (a1 - (97 : Int32))) (ty := .int) (C := RX7) (T := TX7) (N := 6) hx hb ht in_X7 tyX7 tyX7_ok nmX7 hown hK.1 hP hD hS 0 rfl rfl 5 (by decide) (ht _ mF_X7_77) (fun _ h9 => h9) rfl (by decide +kernel) rfl rfl (Nat.le_of_ble_eq_true rfl) dX7_takesFeared_67 (fun H locs hP hD hS => ?_)
          have hP : va_P D vwCl [(q0, .inr (6, [u0, u1, .ref q1, .int zexpected, u2, .int (a1 - (97 : Int32))])), (q1, .inr (8, [.int zdraft_dogs, u3, u4, u5, .ref q2, u6])), (q2, .inl (ci, 7, .inl (upd zdraft_fears (zdraft_dogs).toNatClampNeg ((zdraft_fears (zdraft_dogs).toNatClampNeg) ||| ((1 : Int32) <<< ((a1 - (97 : Int32)) &&& 31))))))] H := hP
          have hD : va_D A [(q0, .inr (6, [u0, u1, .ref q1, .int zexpected, u2, .int (a1 - (97 : Int32))])), (q1, .inr (8, [.int zdraft_dogs, u3, u4, u5, .ref q2, u6])), (q2, .inl (ci, 7, .inl (upd zdraft_fears (zdraft_dogs).toNatClampNeg ((zdraft_fears (zdraft_dogs).toNatClampNeg) ||| ((1 : Int32) <<< ((a1 - (97 : Int32)) &&& 31))))))] := hD
          refine lv_aload_n hx hb dX7_takesFeared_70 rfl (lv_at hl 1 rfl) ?_
          refine lv_aload_n hx hb dX7_takesFeared_71 rfl (lv_at hl 1 rfl) ?_
          refine va_get (D := D) (ci := 6) (v := .int zexpected) (C := RX7) (T := TX7) (N := 6) hx hb ht in_X7 hown hK.1 hP 0 rfl rfl 3 (by decide) (ht _ mF_X7_29) (fun _ h9 => h9) rfl dX7_takesFeared_72 ?_
          refine lv_iconst (v := (4 : Int32)) hx hb dX7_takesFeared_75 (by decide) ?_
          refine jn_walk hw (fun J85 => ∀ (t_1 : Int32) (H : Heap) (locs : List Loc) (ls : Array Slot), J85 t_1 → va_P D vwCl [(q0, .inr (6, [u0, u1, .ref q1, .int zexpected, u2, .int (a1 - (97 : Int32))])), (q1, .inr (8, [.int zdraft_dogs, u3, u4, u5, .ref q2, u6])), (q2, .inl (ci, 7, .inl (upd zdraft_fears (zdraft_dogs).toNatClampNeg ((zdraft_fears (zdraft_dogs).toNatClampNeg) ||| ((1 : Int32) <<< ((a1 - (97 : Int32)) &&& 31))))))] H → va_S A s.heap H locs → lv_has ls 3 [] → W p l e R s m args below meth c H locs 0 0 Q (F0 m 85 ls [.int t_1, .ref q0])) ?_ ?_
          · intro t_1 H locs ls hw hP hS hl
            have hD : va_D A [(q0, .inr (6, [u0, u1, .ref q1, .int zexpected, u2, .int (a1 - (97 : Int32))])), (q1, .inr (8, [.int zdraft_dogs, u3, u4, u5, .ref q2, u6])), (q2, .inl (ci, 7, .inl (upd zdraft_fears (zdraft_dogs).toNatClampNeg ((zdraft_fears (zdraft_dogs).toNatClampNeg) ||| ((1 : Int32) <<< ((a1 - (97 : Int32)) &&& 31))))))] := gD_re hD rfl
            refine va_put (D := D) (ci := 6) (v := .int t_1) (ty := .int) (C := RX7) (T := TX7) (N := 6) hx hb ht in_X7 tyX7 tyX7_ok nmX7 hown hK.1 hP hD hS 0 rfl rfl 3 (by decide) (ht _ mF_X7_29) (fun _ h9 => h9) rfl (by decide +kernel) rfl rfl (Nat.le_of_ble_eq_true rfl) dX7_takesFeared_85 (fun H locs hP hD hS => ?_)
            have hP : va_P D vwCl [(q0, .inr (6, [u0, u1, .ref q1, .int t_1, u2, .int (a1 - (97 : Int32))])), (q1, .inr (8, [.int zdraft_dogs, u3, u4, u5, .ref q2, u6])), (q2, .inl (ci, 7, .inl (upd zdraft_fears (zdraft_dogs).toNatClampNeg ((zdraft_fears (zdraft_dogs).toNatClampNeg) ||| ((1 : Int32) <<< ((a1 - (97 : Int32)) &&& 31))))))] H := hP
            have hD : va_D A [(q0, .inr (6, [u0, u1, .ref q1, .int t_1, u2, .int (a1 - (97 : Int32))])), (q1, .inr (8, [.int zdraft_dogs, u3, u4, u5, .ref q2, u6])), (q2, .inl (ci, 7, .inl (upd zdraft_fears (zdraft_dogs).toNatClampNeg ((zdraft_fears (zdraft_dogs).toNatClampNeg) ||| ((1 : Int32) <<< ((a1 - (97 : Int32)) &&& 31))))))] := hD
            refine lv_iconst (v := (1 : Int32)) hx hb dX7_takesFeared_88 (by decide) ?_
            exact hret _ _ H locs _ _ (by decide) ⟨_, _, _, rfl, hw⟩ hP hS dX7_takesFeared_89
          · intro J85 hJ85 hw
            refine lv_icmp_ne (tgt := 83) hx hb dX7_takesFeared_76 (by decide) (fun hc => ?_) (fun hc => ?_)
            · have hw := hw.1 hc
              refine lv_bipush (v := (6 : Int32)) hx hb dX7_takesFeared_83 (by decide) ?_
              exact hJ85 _ H locs ls hw hP hS (lv_sub hl [] rfl)
            · have hw := hw.2 hc
              refine lv_iconst (v := (5 : Int32)) hx hb dX7_takesFeared_79 (by decide) ?_
              refine lv_goto (tgt := 85) hx hb dX7_takesFeared_80 (by decide) ?_
              exact hJ85 _ H locs ls hw hP hS (lv_sub hl [] rfl)
        · have hw := hw.2 hc
          refine lv_iconst (v := (0 : Int32)) hx hb dX7_takesFeared_42 (by decide) ?_
          exact hret _ _ H locs _ _ (by decide) ⟨_, _, _, rfl, hw⟩ hP hS dX7_takesFeared_43

def wp_X7_takes (zexpected : Int32) (zisLess : Int32) (zlastFeared : Int32) (zdraft_dogs : Int32) (zdraft_untold : Int32) (zdraft_halves : Nat → Int32) (zdraft_likings : Nat → Int32) (zdraft_fears : Nat → Int32) (a1 : Int32) (post : Int32 → Int32 → Int32 → Int32 → Int32 → Int32 → (Nat → Int32) → (Nat → Int32) → (Nat → Int32) → Prop) : Prop :=
  ((zexpected = 0 → wp_X7_takesHalves zexpected zdraft_dogs zdraft_halves a1 (fun (r_1 : Int32) (zexpected_2 : Int32) (zdraft_halves_3 : Nat → Int32) => ((r_1 = 0 ∨ r_1 = 1) ∧ post r_1 zexpected_2 zisLess zlastFeared zdraft_dogs zdraft_untold zdraft_halves_3 zdraft_likings zdraft_fears))) ∧ (¬ zexpected = 0 → ((zexpected = 1 → wp_X7_takesLikes zexpected zisLess zdraft_dogs zdraft_untold a1 (fun (r_4 : Int32) (zexpected_5 : Int32) (zisLess_6 : Int32) (zdraft_untold_7 : Int32) => ((r_4 = 0 ∨ r_4 = 1) ∧ post r_4 zexpected_5 zisLess_6 zlastFeared zdraft_dogs zdraft_untold_7 zdraft_halves zdraft_likings zdraft_fears))) ∧ (¬ zexpected = 1 → ((zexpected = 2 → wp_X7_takesDigit zexpected zisLess zdraft_dogs zdraft_likings a1 (fun (r_8 : Int32) (zexpected_9 : Int32) (zdraft_likings_10 : Nat → Int32) => ((r_8 = 0 ∨ r_8 = 1) ∧ post r_8 zexpected_9 zisLess zlastFeared zdraft_dogs zdraft_untold zdraft_halves zdraft_likings_10 zdraft_fears))) ∧ (¬ zexpected = 2 → ((zexpected = 3 → ((¬ a1 = (33 : Int32) → wp_X7_takesEnd zexpected zdraft_dogs a1 (fun (r_11 : Int32) (zexpected_12 : Int32) (zdraft_dogs_13 : Int32) => ((r_11 = 0 ∨ r_11 = 1) ∧ post r_11 zexpected_12 zisLess zlastFeared zdraft_dogs_13 zdraft_untold zdraft_halves zdraft_likings zdraft_fears))) ∧ (a1 = (33 : Int32) → wp_X7_takesFearMark zexpected zlastFeared (fun (r_14 : Int32) (zexpected_15 : Int32) (zlastFeared_16 : Int32) => ((r_14 = 0 ∨ r_14 = 1) ∧ post r_14 zexpected_15 zisLess zlastFeared_16 zdraft_dogs zdraft_untold zdraft_halves zdraft_likings zdraft_fears))))) ∧ (¬ zexpected = 3 → ((zexpected = 4 → wp_X7_takesFeared zexpected zlastFeared zdraft_dogs zdraft_fears a1 (fun (r_17 : Int32) (zexpected_18 : Int32) (zlastFeared_19 : Int32) (zdraft_fears_20 : Nat → Int32) => ((r_17 = 0 ∨ r_17 = 1) ∧ post r_17 zexpected_18 zisLess zlastFeared_19 zdraft_dogs zdraft_untold zdraft_halves zdraft_likings zdraft_fears_20))) ∧ (¬ zexpected = 4 → ((zexpected = 5 → wp_X7_takesFeared zexpected zlastFeared zdraft_dogs zdraft_fears a1 (fun (r_21 : Int32) (zexpected_22 : Int32) (zlastFeared_23 : Int32) (zdraft_fears_24 : Nat → Int32) => ((¬ r_21 = 0 → post (1 : Int32) zexpected_22 zisLess zlastFeared_23 zdraft_dogs zdraft_untold zdraft_halves zdraft_likings zdraft_fears_24) ∧ (r_21 = 0 → wp_X7_takesEnd zexpected_22 zdraft_dogs a1 (fun (r_25 : Int32) (zexpected_26 : Int32) (zdraft_dogs_27 : Int32) => ((r_25 = 0 → post (0 : Int32) zexpected_26 zisLess zlastFeared_23 zdraft_dogs_27 zdraft_untold zdraft_halves zdraft_likings zdraft_fears_24) ∧ (¬ r_25 = 0 → post (1 : Int32) zexpected_26 zisLess zlastFeared_23 zdraft_dogs_27 zdraft_untold zdraft_halves zdraft_likings zdraft_fears_24))))))) ∧ (¬ zexpected = 5 → wp_X7_takesEnd zexpected zdraft_dogs a1 (fun (r_28 : Int32) (zexpected_29 : Int32) (zdraft_dogs_30 : Int32) => ((r_28 = 0 ∨ r_28 = 1) ∧ post r_28 zexpected_29 zisLess zlastFeared zdraft_dogs_30 zdraft_untold zdraft_halves zdraft_likings zdraft_fears))))))))))))))
set_option maxHeartbeats 4000000 in
set_option maxRecDepth 100000 in
theorem c_X7_takes (l : Launch) (D : va_G) (ci cz : ClassId) (tr : List (ClassId × FieldType)) (q0 q1 q2 q3 q4 : Nat) (sz : Nat) (u0 u1 u2 : Value) (zexpected : Int32) (zisLess : Int32) (zlastFeared : Int32) (zdraft_dogs : Int32) (zdraft_untold : Int32) (zdraft_halves : Nat → Int32) (zdraft_likings : Nat → Int32) (zdraft_fears : Nat → Int32) (a1 : Int32) (post : Int32 → Int32 → Int32 → Int32 → Int32 → Int32 → (Nat → Int32) → (Nat → Int32) → (Nat → Int32) → Prop) (hw : wp_X7_takes zexpected zisLess zlastFeared zdraft_dogs zdraft_untold zdraft_halves zdraft_likings zdraft_fears a1 post) : gM l yX7_takes cX7_takes 2 (some .boolean) 2 41 D ci cz tr [(q0, .inr (6, [u0, u1, .ref q1, .int zexpected, .int zisLess, .int zlastFeared])), (q1, .inr (8, [.int zdraft_dogs, .int zdraft_untold, .ref q2, .ref q3, .ref q4, u2])), (q2, .inl (ci, 7, .inl zdraft_halves)), (q3, .inl (ci, 7, .inl zdraft_likings)), (q4, .inl (ci, 7, .inl zdraft_fears))] sz [.ref q0, .int a1] (gQi D [(q0, .inr (6, [u0, u1, .ref q1, .int zexpected, .int zisLess, .int zlastFeared])), (q1, .inr (8, [.int zdraft_dogs, .int zdraft_untold, .ref q2, .ref q3, .ref q4, u2])), (q2, .inl (ci, 7, .inl zdraft_halves)), (q3, .inl (ci, 7, .inl zdraft_likings)), (q4, .inl (ci, 7, .inl zdraft_fears))] sz (fun (r : Int32) w => ∃ (o_zexpected : Int32) (o_zisLess : Int32) (o_zlastFeared : Int32) (o_zdraft_dogs : Int32) (o_zdraft_untold : Int32) (o_zdraft_halves : Nat → Int32) (o_zdraft_likings : Nat → Int32) (o_zdraft_fears : Nat → Int32), w = [(q0, .inr (6, [u0, u1, .ref q1, .int o_zexpected, .int o_zisLess, .int o_zlastFeared])), (q1, .inr (8, [.int o_zdraft_dogs, .int o_zdraft_untold, .ref q2, .ref q3, .ref q4, u2])), (q2, .inl (ci, 7, .inl o_zdraft_halves)), (q3, .inl (ci, 7, .inl o_zdraft_likings)), (q4, .inl (ci, 7, .inl o_zdraft_fears))] ∧ post r o_zexpected o_zisLess o_zlastFeared o_zdraft_dogs o_zdraft_untold o_zdraft_halves o_zdraft_likings o_zdraft_fears)) := by
  refine gmet_z RX7 (by decide +kernel) rfl (Nat.le_of_ble_eq_true rfl) ?_
  intro p e s m args below meth c A R Q C hfr hlc hP hD hret ls hl
  obtain ⟨hx, hb, hml, hown, ht, hK, hZ, hA⟩ := C
  have hl : lv_has ls 2 [(0, .ref q0), (1, .int a1)] := hl
  unfold wp_X7_takes at hw
  refine g_in (fun H locs => W p l e R s m args below meth c H locs 0 0 Q (F0 m 0 ls [])) (fun H locs hS0 hP => ?_) hP (va_S.rf (A := A) (H0 := s.heap))
  have hS : va_S A s.heap H locs := hS0
  clear hS0
  refine lv_aload_n hx hb dX7_takes_0 rfl (lv_at hl 0 rfl) ?_
  refine va_get (D := D) (ci := 6) (v := .int zexpected) (C := RX7) (T := TX7) (N := 6) hx hb ht in_X7 hown hK.1 hP 0 rfl rfl 3 (by decide) (ht _ mF_X7_29) (fun _ h9 => h9) rfl dX7_takes_1 ?_
  by_cases hk0 : zexpected = (0 : Int32)
  · have hw := hw.1 hk0
    refine lv_tableIn (tgt := 44) hx hb dX7_takes_4 (by rw [hk0]; decide) (by rw [hk0]; decide) (by rw [hk0]; rfl) (by decide) ?_
    refine lv_aload_n hx hb dX7_takes_44 rfl (lv_at hl 0 rfl) ?_
    refine lv_iload_n hx hb dX7_takes_45 rfl (lv_at hl 1 rfl) ?_
    refine gcalli (va_runV (As := [.int a1]) (rest := []) ⟨hx, hb, hml, hown, ht⟩ (c_X7_takesHalves l D ci cz tr q0 q1 q2 H.size u0 u1 (.int zisLess) (.int zlastFeared) (.int zdraft_untold) (.ref q3) (.ref q4) u2 zexpected zdraft_dogs zdraft_halves a1 _ hw) (cwV 1 ht (gi_V mM_X7_36 mI_X7_takesHalves mS_X7_takesHalves mN_X7 mC_X7_takesHalves) rfl rfl rfl (by decide +kernel) ⟨Nat.le_trans (Nat.le_of_ble_eq_true rfl) hfr, Nat.le_trans (Nat.le_of_ble_eq_true rfl) hlc⟩) (gpreV (wc := [(q0, .inr (6, [u0, u1, .ref q1, .int zexpected, .int zisLess, .int zlastFeared])), (q1, .inr (8, [.int zdraft_dogs, .int zdraft_untold, .ref q2, .ref q3, .ref q4, u2])), (q2, .inl (ci, 7, .inl zdraft_halves))]) (k := 6) (q0 := 0) hK hZ hP hD hS hA [0, 1, 2] rfl rfl rfl rfl rfl) rfl rfl hl.1 rfl (lv_room (Nat.le_of_ble_eq_true rfl)) dX7_takes_46 ⟨Nat.zero_le _, Nat.zero_le _⟩) hD hS hA [0, 1, 2] rfl (fun r_1 w9 H locs hw hP9 hk9 hS => ?_)
    obtain ⟨zexpected_2, zdraft_halves_3, rfl, hw⟩ := hw
    have hP : va_P D vwCl [(q0, .inr (6, [u0, u1, .ref q1, .int zexpected_2, .int zisLess, .int zlastFeared])), (q1, .inr (8, [.int zdraft_dogs, .int zdraft_untold, .ref q2, .ref q3, .ref q4, u2])), (q2, .inl (ci, 7, .inl zdraft_halves_3)), (q3, .inl (ci, 7, .inl zdraft_likings)), (q4, .inl (ci, 7, .inl zdraft_fears))] H := gjoin3 hP hD [0, 1, 2] hP9 hk9 rfl rfl [some 0, some 1, some 2, none, none] rfl rfl
    have hD : va_D A [(q0, .inr (6, [u0, u1, .ref q1, .int zexpected_2, .int zisLess, .int zlastFeared])), (q1, .inr (8, [.int zdraft_dogs, .int zdraft_untold, .ref q2, .ref q3, .ref q4, u2])), (q2, .inl (ci, 7, .inl zdraft_halves_3)), (q3, .inl (ci, 7, .inl zdraft_likings)), (q4, .inl (ci, 7, .inl zdraft_fears))] := gD_re hD rfl
    clear hP9 hk9
    obtain ⟨h01, hw⟩ := hw
    exact hret _ _ H locs _ _ h01 ⟨_, _, _, _, _, _, _, _, rfl, hw⟩ hP hS dX7_takes_49
  have hw := hw.2 hk0
  by_cases hk1 : zexpected = (1 : Int32)
  · have hw := hw.1 hk1
    refine lv_tableIn (tgt := 50) hx hb dX7_takes_4 (by rw [hk1]; decide) (by rw [hk1]; decide) (by rw [hk1]; rfl) (by decide) ?_
    refine lv_aload_n hx hb dX7_takes_50 rfl (lv_at hl 0 rfl) ?_
    refine lv_iload_n hx hb dX7_takes_51 rfl (lv_at hl 1 rfl) ?_
    refine gcalli (va_runV (As := [.int a1]) (rest := []) ⟨hx, hb, hml, hown, ht⟩ (c_X7_takesLikes l D ci cz tr q0 q1 H.size u0 u1 (.int zlastFeared) (.ref q2) (.ref q3) (.ref q4) u2 zexpected zisLess zdraft_dogs zdraft_untold a1 _ hw) (cwV 1 ht (gi_V mM_X7_39 mI_X7_takesLikes mS_X7_takesLikes mN_X7 mC_X7_takesLikes) rfl rfl rfl (by decide +kernel) ⟨Nat.le_trans (Nat.le_of_ble_eq_true rfl) hfr, Nat.le_trans (Nat.le_of_ble_eq_true rfl) hlc⟩) (gpreV (wc := [(q0, .inr (6, [u0, u1, .ref q1, .int zexpected, .int zisLess, .int zlastFeared])), (q1, .inr (8, [.int zdraft_dogs, .int zdraft_untold, .ref q2, .ref q3, .ref q4, u2]))]) (k := 6) (q0 := 0) hK hZ hP hD hS hA [0, 1] rfl rfl rfl rfl rfl) rfl rfl hl.1 rfl (lv_room (Nat.le_of_ble_eq_true rfl)) dX7_takes_52 ⟨Nat.zero_le _, Nat.zero_le _⟩) hD hS hA [0, 1] rfl (fun r_4 w9 H locs hw hP9 hk9 hS => ?_)
    obtain ⟨zexpected_5, zisLess_6, zdraft_untold_7, rfl, hw⟩ := hw
    have hP : va_P D vwCl [(q0, .inr (6, [u0, u1, .ref q1, .int zexpected_5, .int zisLess_6, .int zlastFeared])), (q1, .inr (8, [.int zdraft_dogs, .int zdraft_untold_7, .ref q2, .ref q3, .ref q4, u2])), (q2, .inl (ci, 7, .inl zdraft_halves)), (q3, .inl (ci, 7, .inl zdraft_likings)), (q4, .inl (ci, 7, .inl zdraft_fears))] H := gjoin3 hP hD [0, 1] hP9 hk9 rfl rfl [some 0, some 1, none, none, none] rfl rfl
    have hD : va_D A [(q0, .inr (6, [u0, u1, .ref q1, .int zexpected_5, .int zisLess_6, .int zlastFeared])), (q1, .inr (8, [.int zdraft_dogs, .int zdraft_untold_7, .ref q2, .ref q3, .ref q4, u2])), (q2, .inl (ci, 7, .inl zdraft_halves)), (q3, .inl (ci, 7, .inl zdraft_likings)), (q4, .inl (ci, 7, .inl zdraft_fears))] := gD_re hD rfl
    clear hP9 hk9
    obtain ⟨h01, hw⟩ := hw
    exact hret _ _ H locs _ _ h01 ⟨_, _, _, _, _, _, _, _, rfl, hw⟩ hP hS dX7_takes_55
  have hw := hw.2 hk1
  by_cases hk2 : zexpected = (2 : Int32)
  · have hw := hw.1 hk2
    refine lv_tableIn (tgt := 56) hx hb dX7_takes_4 (by rw [hk2]; decide) (by rw [hk2]; decide) (by rw [hk2]; rfl) (by decide) ?_
    refine lv_aload_n hx hb dX7_takes_56 rfl (lv_at hl 0 rfl) ?_
    refine lv_iload_n hx hb dX7_takes_57 rfl (lv_at hl 1 rfl) ?_
    refine gcalli (va_runV (As := [.int a1]) (rest := []) ⟨hx, hb, hml, hown, ht⟩ (c_X7_takesDigit l D ci cz tr q0 q1 q3 H.size u0 u1 (.int zlastFeared) (.int zdraft_untold) (.ref q2) (.ref q4) u2 zexpected zisLess zdraft_dogs zdraft_likings a1 _ hw) (cwV 1 ht (gi_V mM_X7_42 mI_X7_takesDigit mS_X7_takesDigit mN_X7 mC_X7_takesDigit) rfl rfl rfl (by decide +kernel) ⟨Nat.le_trans (Nat.le_of_ble_eq_true rfl) hfr, Nat.le_trans (Nat.le_of_ble_eq_true rfl) hlc⟩) (gpreV (wc := [(q0, .inr (6, [u0, u1, .ref q1, .int zexpected, .int zisLess, .int zlastFeared])), (q1, .inr (8, [.int zdraft_dogs, .int zdraft_untold, .ref q2, .ref q3, .ref q4, u2])), (q3, .inl (ci, 7, .inl zdraft_likings))]) (k := 6) (q0 := 0) hK hZ hP hD hS hA [0, 1, 3] rfl rfl rfl rfl rfl) rfl rfl hl.1 rfl (lv_room (Nat.le_of_ble_eq_true rfl)) dX7_takes_58 ⟨Nat.zero_le _, Nat.zero_le _⟩) hD hS hA [0, 1, 3] rfl (fun r_8 w9 H locs hw hP9 hk9 hS => ?_)
    obtain ⟨zexpected_9, zdraft_likings_10, rfl, hw⟩ := hw
    have hP : va_P D vwCl [(q0, .inr (6, [u0, u1, .ref q1, .int zexpected_9, .int zisLess, .int zlastFeared])), (q1, .inr (8, [.int zdraft_dogs, .int zdraft_untold, .ref q2, .ref q3, .ref q4, u2])), (q2, .inl (ci, 7, .inl zdraft_halves)), (q3, .inl (ci, 7, .inl zdraft_likings_10)), (q4, .inl (ci, 7, .inl zdraft_fears))] H := gjoin3 hP hD [0, 1, 3] hP9 hk9 rfl rfl [some 0, some 1, none, some 2, none] rfl rfl
    have hD : va_D A [(q0, .inr (6, [u0, u1, .ref q1, .int zexpected_9, .int zisLess, .int zlastFeared])), (q1, .inr (8, [.int zdraft_dogs, .int zdraft_untold, .ref q2, .ref q3, .ref q4, u2])), (q2, .inl (ci, 7, .inl zdraft_halves)), (q3, .inl (ci, 7, .inl zdraft_likings_10)), (q4, .inl (ci, 7, .inl zdraft_fears))] := gD_re hD rfl
    clear hP9 hk9
    obtain ⟨h01, hw⟩ := hw
    exact hret _ _ H locs _ _ h01 ⟨_, _, _, _, _, _, _, _, rfl, hw⟩ hP hS dX7_takes_61
  have hw := hw.2 hk2
  by_cases hk3 : zexpected = (3 : Int32)
  · have hw := hw.1 hk3
    refine lv_tableIn (tgt := 62) hx hb dX7_takes_4 (by rw [hk3]; decide) (by rw [hk3]; decide) (by rw [hk3]; rfl) (by decide) ?_
    refine lv_iload_n hx hb dX7_takes_62 rfl (lv_at hl 1 rfl) ?_
    refine lv_bipush (v := (33 : Int32)) hx hb dX7_takes_63 (by decide) ?_
    refine lv_icmp_ne (tgt := 75) hx hb dX7_takes_65 (by decide) (fun hc => ?_) (fun hc => ?_)
    · have hw := hw.1 hc
      refine lv_aload_n hx hb dX7_takes_75 rfl (lv_at hl 0 rfl) ?_
      refine lv_iload_n hx hb dX7_takes_76 rfl (lv_at hl 1 rfl) ?_
      refine gcalli (va_runV (As := [.int a1]) (rest := []) ⟨hx, hb, hml, hown, ht⟩ (c_X7_takesEnd l D ci cz tr q0 q1 H.size u0 u1 (.int zisLess) (.int zlastFeared) (.int zdraft_untold) (.ref q2) (.ref q3) (.ref q4) u2 zexpected zdraft_dogs a1 _ hw) (cwV 1 ht (gi_V mM_X7_49 mI_X7_takesEnd mS_X7_takesEnd mN_X7 mC_X7_takesEnd) rfl rfl rfl (by decide +kernel) ⟨Nat.le_trans (Nat.le_of_ble_eq_true rfl) hfr, Nat.le_trans (Nat.le_of_ble_eq_true rfl) hlc⟩) (gpreV (wc := [(q0, .inr (6, [u0, u1, .ref q1, .int zexpected, .int zisLess, .int zlastFeared])), (q1, .inr (8, [.int zdraft_dogs, .int zdraft_untold, .ref q2, .ref q3, .ref q4, u2]))]) (k := 6) (q0 := 0) hK hZ hP hD hS hA [0, 1] rfl rfl rfl rfl rfl) rfl rfl hl.1 rfl (lv_room (Nat.le_of_ble_eq_true rfl)) dX7_takes_77 ⟨Nat.zero_le _, Nat.zero_le _⟩) hD hS hA [0, 1] rfl (fun r_11 w9 H locs hw hP9 hk9 hS => ?_)
      obtain ⟨zexpected_12, zdraft_dogs_13, rfl, hw⟩ := hw
      have hP : va_P D vwCl [(q0, .inr (6, [u0, u1, .ref q1, .int zexpected_12, .int zisLess, .int zlastFeared])), (q1, .inr (8, [.int zdraft_dogs_13, .int zdraft_untold, .ref q2, .ref q3, .ref q4, u2])), (q2, .inl (ci, 7, .inl zdraft_halves)), (q3, .inl (ci, 7, .inl zdraft_likings)), (q4, .inl (ci, 7, .inl zdraft_fears))] H := gjoin3 hP hD [0, 1] hP9 hk9 rfl rfl [some 0, some 1, none, none, none] rfl rfl
      have hD : va_D A [(q0, .inr (6, [u0, u1, .ref q1, .int zexpected_12, .int zisLess, .int zlastFeared])), (q1, .inr (8, [.int zdraft_dogs_13, .int zdraft_untold, .ref q2, .ref q3, .ref q4, u2])), (q2, .inl (ci, 7, .inl zdraft_halves)), (q3, .inl (ci, 7, .inl zdraft_likings)), (q4, .inl (ci, 7, .inl zdraft_fears))] := gD_re hD rfl
      clear hP9 hk9
      obtain ⟨h01, hw⟩ := hw
      exact hret _ _ H locs _ _ h01 ⟨_, _, _, _, _, _, _, _, rfl, hw⟩ hP hS dX7_takes_80
    · have hw := hw.2 hc
      refine lv_aload_n hx hb dX7_takes_68 rfl (lv_at hl 0 rfl) ?_
      refine gcalli (va_runV (As := []) (rest := []) ⟨hx, hb, hml, hown, ht⟩ (c_X7_takesFearMark l D ci cz tr q0 H.size u0 u1 (.ref q1) (.int zisLess) zexpected zlastFeared _ hw) (cwV 0 ht (gi_V mM_X7_45 mI_X7_takesFearMark mS_X7_takesFearMark mN_X7 mC_X7_takesFearMark) rfl rfl rfl (by decide +kernel) ⟨Nat.le_trans (Nat.le_of_ble_eq_true rfl) hfr, Nat.le_trans (Nat.le_of_ble_eq_true rfl) hlc⟩) (gpreV (wc := [(q0, .inr (6, [u0, u1, .ref q1, .int zexpected, .int zisLess, .int zlastFeared]))]) (k := 6) (q0 := 0) hK hZ hP hD hS hA [0] rfl rfl rfl rfl rfl) rfl rfl hl.1 rfl (lv_room (Nat.le_of_ble_eq_true rfl)) dX7_takes_69 ⟨Nat.zero_le _, Nat.zero_le _⟩) hD hS hA [0] rfl (fun r_14 w9 H locs hw hP9 hk9 hS => ?_)
      obtain ⟨zexpected_15, zlastFeared_16, rfl, hw⟩ := hw
      have hP : va_P D vwCl [(q0, .inr (6, [u0, u1, .ref q1, .int zexpected_15, .int zisLess, .int zlastFeared_16])), (q1, .inr (8, [.int zdraft_dogs, .int zdraft_untold, .ref q2, .ref q3, .ref q4, u2])), (q2, .inl (ci, 7, .inl zdraft_halves)), (q3, .inl (ci, 7, .inl zdraft_likings)), (q4, .inl (ci, 7, .inl zdraft_fears))] H := gjoin3 hP hD [0] hP9 hk9 rfl rfl [some 0, none, none, none, none] rfl rfl
      have hD : va_D A [(q0, .inr (6, [u0, u1, .ref q1, .int zexpected_15, .int zisLess, .int zlastFeared_16])), (q1, .inr (8, [.int zdraft_dogs, .int zdraft_untold, .ref q2, .ref q3, .ref q4, u2])), (q2, .inl (ci, 7, .inl zdraft_halves)), (q3, .inl (ci, 7, .inl zdraft_likings)), (q4, .inl (ci, 7, .inl zdraft_fears))] := gD_re hD rfl
      clear hP9 hk9
      refine lv_goto (tgt := 80) hx hb dX7_takes_72 (by decide) ?_
      obtain ⟨h01, hw⟩ := hw
      exact hret _ _ H locs _ _ h01 ⟨_, _, _, _, _, _, _, _, rfl, hw⟩ hP hS dX7_takes_80
  have hw := hw.2 hk3
  by_cases hk4 : zexpected = (4 : Int32)
  · have hw := hw.1 hk4
    refine lv_tableIn (tgt := 81) hx hb dX7_takes_4 (by rw [hk4]; decide) (by rw [hk4]; decide) (by rw [hk4]; rfl) (by decide) ?_
    refine lv_aload_n hx hb dX7_takes_81 rfl (lv_at hl 0 rfl) ?_
    refine lv_iload_n hx hb dX7_takes_82 rfl (lv_at hl 1 rfl) ?_
    refine gcalli (va_runV (As := [.int a1]) (rest := []) ⟨hx, hb, hml, hown, ht⟩ (c_X7_takesFeared l D ci cz tr q0 q1 q4 H.size u0 u1 (.int zisLess) (.int zdraft_untold) (.ref q2) (.ref q3) u2 zexpected zlastFeared zdraft_dogs zdraft_fears a1 _ hw) (cwV 1 ht (gi_V mM_X7_52 mI_X7_takesFeared mS_X7_takesFeared mN_X7 mC_X7_takesFeared) rfl rfl rfl (by decide +kernel) ⟨Nat.le_trans (Nat.le_of_ble_eq_true rfl) hfr, Nat.le_trans (Nat.le_of_ble_eq_true rfl) hlc⟩) (gpreV (wc := [(q0, .inr (6, [u0, u1, .ref q1, .int zexpected, .int zisLess, .int zlastFeared])), (q1, .inr (8, [.int zdraft_dogs, .int zdraft_untold, .ref q2, .ref q3, .ref q4, u2])), (q4, .inl (ci, 7, .inl zdraft_fears))]) (k := 6) (q0 := 0) hK hZ hP hD hS hA [0, 1, 4] rfl rfl rfl rfl rfl) rfl rfl hl.1 rfl (lv_room (Nat.le_of_ble_eq_true rfl)) dX7_takes_83 ⟨Nat.zero_le _, Nat.zero_le _⟩) hD hS hA [0, 1, 4] rfl (fun r_17 w9 H locs hw hP9 hk9 hS => ?_)
    obtain ⟨zexpected_18, zlastFeared_19, zdraft_fears_20, rfl, hw⟩ := hw
    have hP : va_P D vwCl [(q0, .inr (6, [u0, u1, .ref q1, .int zexpected_18, .int zisLess, .int zlastFeared_19])), (q1, .inr (8, [.int zdraft_dogs, .int zdraft_untold, .ref q2, .ref q3, .ref q4, u2])), (q2, .inl (ci, 7, .inl zdraft_halves)), (q3, .inl (ci, 7, .inl zdraft_likings)), (q4, .inl (ci, 7, .inl zdraft_fears_20))] H := gjoin3 hP hD [0, 1, 4] hP9 hk9 rfl rfl [some 0, some 1, none, none, some 2] rfl rfl
    have hD : va_D A [(q0, .inr (6, [u0, u1, .ref q1, .int zexpected_18, .int zisLess, .int zlastFeared_19])), (q1, .inr (8, [.int zdraft_dogs, .int zdraft_untold, .ref q2, .ref q3, .ref q4, u2])), (q2, .inl (ci, 7, .inl zdraft_halves)), (q3, .inl (ci, 7, .inl zdraft_likings)), (q4, .inl (ci, 7, .inl zdraft_fears_20))] := gD_re hD rfl
    clear hP9 hk9
    obtain ⟨h01, hw⟩ := hw
    exact hret _ _ H locs _ _ h01 ⟨_, _, _, _, _, _, _, _, rfl, hw⟩ hP hS dX7_takes_86
  have hw := hw.2 hk4
  by_cases hk5 : zexpected = (5 : Int32)
  · have hw := hw.1 hk5
    refine lv_tableIn (tgt := 87) hx hb dX7_takes_4 (by rw [hk5]; decide) (by rw [hk5]; decide) (by rw [hk5]; rfl) (by decide) ?_
    refine lv_aload_n hx hb dX7_takes_87 rfl (lv_at hl 0 rfl) ?_
    refine lv_iload_n hx hb dX7_takes_88 rfl (lv_at hl 1 rfl) ?_
    refine gcalli (va_runV (As := [.int a1]) (rest := []) ⟨hx, hb, hml, hown, ht⟩ (c_X7_takesFeared l D ci cz tr q0 q1 q4 H.size u0 u1 (.int zisLess) (.int zdraft_untold) (.ref q2) (.ref q3) u2 zexpected zlastFeared zdraft_dogs zdraft_fears a1 _ hw) (cwV 1 ht (gi_V mM_X7_52 mI_X7_takesFeared mS_X7_takesFeared mN_X7 mC_X7_takesFeared) rfl rfl rfl (by decide +kernel) ⟨Nat.le_trans (Nat.le_of_ble_eq_true rfl) hfr, Nat.le_trans (Nat.le_of_ble_eq_true rfl) hlc⟩) (gpreV (wc := [(q0, .inr (6, [u0, u1, .ref q1, .int zexpected, .int zisLess, .int zlastFeared])), (q1, .inr (8, [.int zdraft_dogs, .int zdraft_untold, .ref q2, .ref q3, .ref q4, u2])), (q4, .inl (ci, 7, .inl zdraft_fears))]) (k := 6) (q0 := 0) hK hZ hP hD hS hA [0, 1, 4] rfl rfl rfl rfl rfl) rfl rfl hl.1 rfl (lv_room (Nat.le_of_ble_eq_true rfl)) dX7_takes_89 ⟨Nat.zero_le _, Nat.zero_le _⟩) hD hS hA [0, 1, 4] rfl (fun r_21 w9 H locs hw hP9 hk9 hS => ?_)
    obtain ⟨zexpected_22, zlastFeared_23, zdraft_fears_24, rfl, hw⟩ := hw
    have hP : va_P D vwCl [(q0, .inr (6, [u0, u1, .ref q1, .int zexpected_22, .int zisLess, .int zlastFeared_23])), (q1, .inr (8, [.int zdraft_dogs, .int zdraft_untold, .ref q2, .ref q3, .ref q4, u2])), (q2, .inl (ci, 7, .inl zdraft_halves)), (q3, .inl (ci, 7, .inl zdraft_likings)), (q4, .inl (ci, 7, .inl zdraft_fears_24))] H := gjoin3 hP hD [0, 1, 4] hP9 hk9 rfl rfl [some 0, some 1, none, none, some 2] rfl rfl
    have hD : va_D A [(q0, .inr (6, [u0, u1, .ref q1, .int zexpected_22, .int zisLess, .int zlastFeared_23])), (q1, .inr (8, [.int zdraft_dogs, .int zdraft_untold, .ref q2, .ref q3, .ref q4, u2])), (q2, .inl (ci, 7, .inl zdraft_halves)), (q3, .inl (ci, 7, .inl zdraft_likings)), (q4, .inl (ci, 7, .inl zdraft_fears_24))] := gD_re hD rfl
    clear hP9 hk9
    refine lv_if_ne (tgt := 103) hx hb dX7_takes_92 (by decide) (fun hc => ?_) (fun hc => ?_)
    · have hw := hw.1 hc
      refine lv_iconst (v := (1 : Int32)) hx hb dX7_takes_103 (by decide) ?_
      refine lv_goto (tgt := 108) hx hb dX7_takes_104 (by decide) ?_
      exact hret _ _ H locs _ _ (by decide) ⟨_, _, _, _, _, _, _, _, rfl, hw⟩ hP hS dX7_takes_108
    · have hw := hw.2 hc
      refine lv_aload_n hx hb dX7_takes_95 rfl (lv_at hl 0 rfl) ?_
      refine lv_iload_n hx hb dX7_takes_96 rfl (lv_at hl 1 rfl) ?_
      refine gcalli (va_runV (As := [.int a1]) (rest := []) ⟨hx, hb, hml, hown, ht⟩ (c_X7_takesEnd l D ci cz tr q0 q1 H.size u0 u1 (.int zisLess) (.int zlastFeared_23) (.int zdraft_untold) (.ref q2) (.ref q3) (.ref q4) u2 zexpected_22 zdraft_dogs a1 _ hw) (cwV 1 ht (gi_V mM_X7_49 mI_X7_takesEnd mS_X7_takesEnd mN_X7 mC_X7_takesEnd) rfl rfl rfl (by decide +kernel) ⟨Nat.le_trans (Nat.le_of_ble_eq_true rfl) hfr, Nat.le_trans (Nat.le_of_ble_eq_true rfl) hlc⟩) (gpreV (wc := [(q0, .inr (6, [u0, u1, .ref q1, .int zexpected_22, .int zisLess, .int zlastFeared_23])), (q1, .inr (8, [.int zdraft_dogs, .int zdraft_untold, .ref q2, .ref q3, .ref q4, u2]))]) (k := 6) (q0 := 0) hK hZ hP hD hS hA [0, 1] rfl rfl rfl rfl rfl) rfl rfl hl.1 rfl (lv_room (Nat.le_of_ble_eq_true rfl)) dX7_takes_97 ⟨Nat.zero_le _, Nat.zero_le _⟩) hD hS hA [0, 1] rfl (fun r_25 w9 H locs hw hP9 hk9 hS => ?_)
      obtain ⟨zexpected_26, zdraft_dogs_27, rfl, hw⟩ := hw
      have hP : va_P D vwCl [(q0, .inr (6, [u0, u1, .ref q1, .int zexpected_26, .int zisLess, .int zlastFeared_23])), (q1, .inr (8, [.int zdraft_dogs_27, .int zdraft_untold, .ref q2, .ref q3, .ref q4, u2])), (q2, .inl (ci, 7, .inl zdraft_halves)), (q3, .inl (ci, 7, .inl zdraft_likings)), (q4, .inl (ci, 7, .inl zdraft_fears_24))] H := gjoin3 hP hD [0, 1] hP9 hk9 rfl rfl [some 0, some 1, none, none, none] rfl rfl
      have hD : va_D A [(q0, .inr (6, [u0, u1, .ref q1, .int zexpected_26, .int zisLess, .int zlastFeared_23])), (q1, .inr (8, [.int zdraft_dogs_27, .int zdraft_untold, .ref q2, .ref q3, .ref q4, u2])), (q2, .inl (ci, 7, .inl zdraft_halves)), (q3, .inl (ci, 7, .inl zdraft_likings)), (q4, .inl (ci, 7, .inl zdraft_fears_24))] := gD_re hD rfl
      clear hP9 hk9
      refine lv_if_eq (tgt := 107) hx hb dX7_takes_100 (by decide) (fun hc => ?_) (fun hc => ?_)
      · have hw := hw.1 hc
        refine lv_iconst (v := (0 : Int32)) hx hb dX7_takes_107 (by decide) ?_
        exact hret _ _ H locs _ _ (by decide) ⟨_, _, _, _, _, _, _, _, rfl, hw⟩ hP hS dX7_takes_108
      · have hw := hw.2 hc
        refine lv_iconst (v := (1 : Int32)) hx hb dX7_takes_103 (by decide) ?_
        refine lv_goto (tgt := 108) hx hb dX7_takes_104 (by decide) ?_
        exact hret _ _ H locs _ _ (by decide) ⟨_, _, _, _, _, _, _, _, rfl, hw⟩ hP hS dX7_takes_108
  have hw := hw.2 hk5
  have hout : (zexpected).toInt < 0 ∨ 5 < (zexpected).toInt := by
    have hn0 := lv_neT hk0 (by decide : (0 : Int32).toInt = 0)
    have hn1 := lv_neT hk1 (by decide : (1 : Int32).toInt = 1)
    have hn2 := lv_neT hk2 (by decide : (2 : Int32).toInt = 2)
    have hn3 := lv_neT hk3 (by decide : (3 : Int32).toInt = 3)
    have hn4 := lv_neT hk4 (by decide : (4 : Int32).toInt = 4)
    have hn5 := lv_neT hk5 (by decide : (5 : Int32).toInt = 5)
    omega
  refine lv_tableOut (tgt := 109) hx hb dX7_takes_4 hout (by decide) ?_
  refine lv_aload_n hx hb dX7_takes_109 rfl (lv_at hl 0 rfl) ?_
  refine lv_iload_n hx hb dX7_takes_110 rfl (lv_at hl 1 rfl) ?_
  refine gcalli (va_runV (As := [.int a1]) (rest := []) ⟨hx, hb, hml, hown, ht⟩ (c_X7_takesEnd l D ci cz tr q0 q1 H.size u0 u1 (.int zisLess) (.int zlastFeared) (.int zdraft_untold) (.ref q2) (.ref q3) (.ref q4) u2 zexpected zdraft_dogs a1 _ hw) (cwV 1 ht (gi_V mM_X7_49 mI_X7_takesEnd mS_X7_takesEnd mN_X7 mC_X7_takesEnd) rfl rfl rfl (by decide +kernel) ⟨Nat.le_trans (Nat.le_of_ble_eq_true rfl) hfr, Nat.le_trans (Nat.le_of_ble_eq_true rfl) hlc⟩) (gpreV (wc := [(q0, .inr (6, [u0, u1, .ref q1, .int zexpected, .int zisLess, .int zlastFeared])), (q1, .inr (8, [.int zdraft_dogs, .int zdraft_untold, .ref q2, .ref q3, .ref q4, u2]))]) (k := 6) (q0 := 0) hK hZ hP hD hS hA [0, 1] rfl rfl rfl rfl rfl) rfl rfl hl.1 rfl (lv_room (Nat.le_of_ble_eq_true rfl)) dX7_takes_111 ⟨Nat.zero_le _, Nat.zero_le _⟩) hD hS hA [0, 1] rfl (fun r_28 w9 H locs hw hP9 hk9 hS => ?_)
  obtain ⟨zexpected_29, zdraft_dogs_30, rfl, hw⟩ := hw
  have hP : va_P D vwCl [(q0, .inr (6, [u0, u1, .ref q1, .int zexpected_29, .int zisLess, .int zlastFeared])), (q1, .inr (8, [.int zdraft_dogs_30, .int zdraft_untold, .ref q2, .ref q3, .ref q4, u2])), (q2, .inl (ci, 7, .inl zdraft_halves)), (q3, .inl (ci, 7, .inl zdraft_likings)), (q4, .inl (ci, 7, .inl zdraft_fears))] H := gjoin3 hP hD [0, 1] hP9 hk9 rfl rfl [some 0, some 1, none, none, none] rfl rfl
  have hD : va_D A [(q0, .inr (6, [u0, u1, .ref q1, .int zexpected_29, .int zisLess, .int zlastFeared])), (q1, .inr (8, [.int zdraft_dogs_30, .int zdraft_untold, .ref q2, .ref q3, .ref q4, u2])), (q2, .inl (ci, 7, .inl zdraft_halves)), (q3, .inl (ci, 7, .inl zdraft_likings)), (q4, .inl (ci, 7, .inl zdraft_fears))] := gD_re hD rfl
  clear hP9 hk9
  obtain ⟨h01, hw⟩ := hw
  exact hret _ _ H locs _ _ h01 ⟨_, _, _, _, _, _, _, _, rfl, hw⟩ hP hS dX7_takes_114

def wp_X7_firstFault (zsize : Int32) (zexpected : Int32) (zisLess : Int32) (zlastFeared : Int32) (zsigns : Nat → Int32) (zdraft_dogs : Int32) (zdraft_untold : Int32) (zdraft_halves : Nat → Int32) (zdraft_likings : Nat → Int32) (zdraft_fears : Nat → Int32) (zdraft_heirs : Nat → Int32)  (post : Int32 → Int32 → Int32 → Int32 → Int32 → Int32 → (Nat → Int32) → (Nat → Int32) → (Nat → Int32) → (Nat → Int32) → Prop) : Prop :=
  wp_X9_clear zdraft_dogs zdraft_untold zdraft_halves zdraft_likings zdraft_fears zdraft_heirs (fun (zdraft_dogs_2 : Int32) (zdraft_untold_3 : Int32) (zdraft_halves_4 : Nat → Int32) (zdraft_likings_5 : Nat → Int32) (zdraft_fears_6 : Nat → Int32) (zdraft_heirs_7 : Nat → Int32) => jn (fun (zexpected_8 : Int32) (zisLess_9 : Int32) (zlastFeared_10 : Int32) (zdraft_dogs_11 : Int32) (zdraft_untold_12 : Int32) (zdraft_halves_13 : Nat → Int32) (zdraft_likings_14 : Nat → Int32) (zdraft_fears_15 : Nat → Int32) => ((¬ zexpected_8 = 0 → post zsize zexpected_8 zisLess_9 zlastFeared_10 zdraft_dogs_11 zdraft_untold_12 zdraft_halves_13 zdraft_likings_14 zdraft_fears_15 zdraft_heirs_7) ∧ (zexpected_8 = 0 → post (-6 : Int32) zexpected_8 zisLess_9 zlastFeared_10 zdraft_dogs_11 zdraft_untold_12 zdraft_halves_13 zdraft_likings_14 zdraft_fears_15 zdraft_heirs_7))) (fun (J43 : Int32 → Int32 → Int32 → Int32 → Int32 → (Nat → Int32) → (Nat → Int32) → (Nat → Int32) → Prop) => lo (fun _ _ _ _ _ _ _ _ _ => False) (fun (G14 : Int32 → Int32 → Int32 → Int32 → Int32 → Int32 → (Nat → Int32) → (Nat → Int32) → (Nat → Int32) → Prop) (x1_16 : Int32) (zexpected_17 : Int32) (zisLess_18 : Int32) (zlastFeared_19 : Int32) (zdraft_dogs_20 : Int32) (zdraft_untold_21 : Int32) (zdraft_halves_22 : Nat → Int32) (zdraft_likings_23 : Nat → Int32) (zdraft_fears_24 : Nat → Int32) => ((zsize ≤ x1_16 → J43 zexpected_17 zisLess_18 zlastFeared_19 zdraft_dogs_20 zdraft_untold_21 zdraft_halves_22 zdraft_likings_23 zdraft_fears_24) ∧ (¬ zsize ≤ x1_16 → (vp_in x1_16 60 ∧ wp_X7_takes zexpected_17 zisLess_18 zlastFeared_19 zdraft_dogs_20 zdraft_untold_21 zdraft_halves_22 zdraft_likings_23 zdraft_fears_24 (zsigns (x1_16).toNatClampNeg) (fun (r_25 : Int32) (zexpected_26 : Int32) (zisLess_27 : Int32) (zlastFeared_28 : Int32) (zdraft_dogs_29 : Int32) (zdraft_untold_30 : Int32) (zdraft_halves_31 : Nat → Int32) (zdraft_likings_32 : Nat → Int32) (zdraft_fears_33 : Nat → Int32) => ((¬ r_25 = 0 → G14 (x1_16 + (1 : Int32)) zexpected_26 zisLess_27 zlastFeared_28 zdraft_dogs_29 zdraft_untold_30 zdraft_halves_31 zdraft_likings_32 zdraft_fears_33) ∧ (r_25 = 0 → post x1_16 zexpected_26 zisLess_27 zlastFeared_28 zdraft_dogs_29 zdraft_untold_30 zdraft_halves_31 zdraft_likings_32 zdraft_fears_33 zdraft_heirs_7))))))) (fun G14 => G14 (0 : Int32) (0 : Int32) zisLess zlastFeared zdraft_dogs_2 zdraft_untold_3 zdraft_halves_4 zdraft_likings_5 zdraft_fears_6)))
set_option maxHeartbeats 4000000 in
set_option maxRecDepth 100000 in
theorem c_X7_firstFault (l : Launch) (D : va_G) (ci cz : ClassId) (tr : List (ClassId × FieldType)) (q0 q1 q2 q3 q4 q5 q6 : Nat) (sz : Nat) (zsize : Int32) (zexpected : Int32) (zisLess : Int32) (zlastFeared : Int32) (zsigns : Nat → Int32) (zdraft_dogs : Int32) (zdraft_untold : Int32) (zdraft_halves : Nat → Int32) (zdraft_likings : Nat → Int32) (zdraft_fears : Nat → Int32) (zdraft_heirs : Nat → Int32)  (post : Int32 → Int32 → Int32 → Int32 → Int32 → Int32 → (Nat → Int32) → (Nat → Int32) → (Nat → Int32) → (Nat → Int32) → Prop) (hw : wp_X7_firstFault zsize zexpected zisLess zlastFeared zsigns zdraft_dogs zdraft_untold zdraft_halves zdraft_likings zdraft_fears zdraft_heirs post) : gM l yX7_firstFault cX7_firstFault 2 (some .int) 3 62 D ci cz tr [(q0, .inr (6, [.ref q1, .int zsize, .ref q2, .int zexpected, .int zisLess, .int zlastFeared])), (q1, .inl (ci, 60, .inl zsigns)), (q2, .inr (8, [.int zdraft_dogs, .int zdraft_untold, .ref q3, .ref q4, .ref q5, .ref q6])), (q3, .inl (ci, 7, .inl zdraft_halves)), (q4, .inl (ci, 7, .inl zdraft_likings)), (q5, .inl (ci, 7, .inl zdraft_fears)), (q6, .inl (ci, 7, .inl zdraft_heirs))] sz [.ref q0] (gQi D [(q0, .inr (6, [.ref q1, .int zsize, .ref q2, .int zexpected, .int zisLess, .int zlastFeared])), (q1, .inl (ci, 60, .inl zsigns)), (q2, .inr (8, [.int zdraft_dogs, .int zdraft_untold, .ref q3, .ref q4, .ref q5, .ref q6])), (q3, .inl (ci, 7, .inl zdraft_halves)), (q4, .inl (ci, 7, .inl zdraft_likings)), (q5, .inl (ci, 7, .inl zdraft_fears)), (q6, .inl (ci, 7, .inl zdraft_heirs))] sz (fun (r : Int32) w => ∃ (o_zexpected : Int32) (o_zisLess : Int32) (o_zlastFeared : Int32) (o_zdraft_dogs : Int32) (o_zdraft_untold : Int32) (o_zdraft_halves : Nat → Int32) (o_zdraft_likings : Nat → Int32) (o_zdraft_fears : Nat → Int32) (o_zdraft_heirs : Nat → Int32), w = [(q0, .inr (6, [.ref q1, .int zsize, .ref q2, .int o_zexpected, .int o_zisLess, .int o_zlastFeared])), (q1, .inl (ci, 60, .inl zsigns)), (q2, .inr (8, [.int o_zdraft_dogs, .int o_zdraft_untold, .ref q3, .ref q4, .ref q5, .ref q6])), (q3, .inl (ci, 7, .inl o_zdraft_halves)), (q4, .inl (ci, 7, .inl o_zdraft_likings)), (q5, .inl (ci, 7, .inl o_zdraft_fears)), (q6, .inl (ci, 7, .inl o_zdraft_heirs))] ∧ post r o_zexpected o_zisLess o_zlastFeared o_zdraft_dogs o_zdraft_untold o_zdraft_halves o_zdraft_likings o_zdraft_fears o_zdraft_heirs)) := by
  refine gmet_i RX7 (by decide +kernel) rfl (Nat.le_of_ble_eq_true rfl) ?_
  intro p e s m args below meth c A R Q C hfr hlc hP hD hret ls hl
  obtain ⟨hx, hb, hml, hown, ht, hK, hZ, hA⟩ := C
  have hl : lv_has ls 2 [(0, .ref q0)] := hl
  unfold wp_X7_firstFault at hw
  refine g_in (fun H locs => W p l e R s m args below meth c H locs 0 0 Q (F0 m 0 ls [])) (fun H locs hS0 hP => ?_) hP (va_S.rf (A := A) (H0 := s.heap))
  have hS : va_S A s.heap H locs := hS0
  clear hS0
  refine lv_aload_n hx hb dX7_firstFault_0 rfl (lv_at hl 0 rfl) ?_
  refine va_get (D := D) (ci := 6) (v := .ref q2) (C := RX7) (T := TX7) (N := 6) hx hb ht in_X7 hown hK.1 hP 0 rfl rfl 2 (by decide) (ht _ mF_X7_18) (fun _ h9 => h9) rfl dX7_firstFault_1 ?_
  refine gcallv (va_runV (As := []) (rest := []) ⟨hx, hb, hml, hown, ht⟩ (c_X9_clear l D ci cz tr q2 q3 q4 q5 q6 H.size zdraft_dogs zdraft_untold zdraft_halves zdraft_likings zdraft_fears zdraft_heirs _ hw) (cwV 0 ht (gi_V mM_X7_26 mI_X9_clear mS_X9_clear mN_X9 mC_X9_clear) rfl rfl rfl (by decide +kernel) ⟨Nat.le_trans (Nat.le_of_ble_eq_true rfl) hfr, Nat.le_trans (Nat.le_of_ble_eq_true rfl) hlc⟩) (gpreV (wc := [(q2, .inr (8, [.int zdraft_dogs, .int zdraft_untold, .ref q3, .ref q4, .ref q5, .ref q6])), (q3, .inl (ci, 7, .inl zdraft_halves)), (q4, .inl (ci, 7, .inl zdraft_likings)), (q5, .inl (ci, 7, .inl zdraft_fears)), (q6, .inl (ci, 7, .inl zdraft_heirs))]) (k := 8) (q0 := 2) hK hZ hP hD hS hA [2, 3, 4, 5, 6] rfl rfl rfl rfl rfl) rfl rfl hl.1 rfl (lv_room (Nat.le_of_ble_eq_true rfl)) dX7_firstFault_4 ⟨Nat.zero_le _, Nat.zero_le _⟩) hD hS hA [2, 3, 4, 5, 6] rfl (fun w9 H locs hw hP9 hk9 hS => ?_)
  obtain ⟨zdraft_dogs_2, zdraft_untold_3, zdraft_halves_4, zdraft_likings_5, zdraft_fears_6, zdraft_heirs_7, rfl, hw⟩ := hw
  have hP : va_P D vwCl [(q0, .inr (6, [.ref q1, .int zsize, .ref q2, .int zexpected, .int zisLess, .int zlastFeared])), (q1, .inl (ci, 60, .inl zsigns)), (q2, .inr (8, [.int zdraft_dogs_2, .int zdraft_untold_3, .ref q3, .ref q4, .ref q5, .ref q6])), (q3, .inl (ci, 7, .inl zdraft_halves_4)), (q4, .inl (ci, 7, .inl zdraft_likings_5)), (q5, .inl (ci, 7, .inl zdraft_fears_6)), (q6, .inl (ci, 7, .inl zdraft_heirs_7))] H := gjoin3 hP hD [2, 3, 4, 5, 6] hP9 hk9 rfl rfl [none, none, some 0, some 1, some 2, some 3, some 4] rfl rfl
  have hD : va_D A [(q0, .inr (6, [.ref q1, .int zsize, .ref q2, .int zexpected, .int zisLess, .int zlastFeared])), (q1, .inl (ci, 60, .inl zsigns)), (q2, .inr (8, [.int zdraft_dogs_2, .int zdraft_untold_3, .ref q3, .ref q4, .ref q5, .ref q6])), (q3, .inl (ci, 7, .inl zdraft_halves_4)), (q4, .inl (ci, 7, .inl zdraft_likings_5)), (q5, .inl (ci, 7, .inl zdraft_fears_6)), (q6, .inl (ci, 7, .inl zdraft_heirs_7))] := gD_re hD rfl
  clear hP9 hk9
  refine lv_aload_n hx hb dX7_firstFault_7 rfl (lv_at hl 0 rfl) ?_
  refine lv_iconst (v := (0 : Int32)) hx hb dX7_firstFault_8 (by decide) ?_
  refine va_put (D := D) (ci := 6) (v := .int (0 : Int32)) (ty := .int) (C := RX7) (T := TX7) (N := 6) hx hb ht in_X7 tyX7 tyX7_ok nmX7 hown hK.1 hP hD hS 0 rfl rfl 3 (by decide) (ht _ mF_X7_29) (fun _ h9 => h9) rfl (by decide +kernel) rfl rfl (Nat.le_of_ble_eq_true rfl) dX7_firstFault_9 (fun H locs hP hD hS => ?_)
  have hP : va_P D vwCl [(q0, .inr (6, [.ref q1, .int zsize, .ref q2, .int (0 : Int32), .int zisLess, .int zlastFeared])), (q1, .inl (ci, 60, .inl zsigns)), (q2, .inr (8, [.int zdraft_dogs_2, .int zdraft_untold_3, .ref q3, .ref q4, .ref q5, .ref q6])), (q3, .inl (ci, 7, .inl zdraft_halves_4)), (q4, .inl (ci, 7, .inl zdraft_likings_5)), (q5, .inl (ci, 7, .inl zdraft_fears_6)), (q6, .inl (ci, 7, .inl zdraft_heirs_7))] H := hP
  have hD : va_D A [(q0, .inr (6, [.ref q1, .int zsize, .ref q2, .int (0 : Int32), .int zisLess, .int zlastFeared])), (q1, .inl (ci, 60, .inl zsigns)), (q2, .inr (8, [.int zdraft_dogs_2, .int zdraft_untold_3, .ref q3, .ref q4, .ref q5, .ref q6])), (q3, .inl (ci, 7, .inl zdraft_halves_4)), (q4, .inl (ci, 7, .inl zdraft_likings_5)), (q5, .inl (ci, 7, .inl zdraft_fears_6)), (q6, .inl (ci, 7, .inl zdraft_heirs_7))] := hD
  refine lv_iconst (v := (0 : Int32)) hx hb dX7_firstFault_12 (by decide) ?_
  refine lv_istore_n (lv' := [(1, .int (0 : Int32)), (0, .ref q0)]) hx hb dX7_firstFault_13 rfl hl (by decide) rfl (fun ls hl => ?_)
  refine jn_walk hw (fun J43 => ∀ (zexpected_8 : Int32) (zisLess_9 : Int32) (zlastFeared_10 : Int32) (zdraft_dogs_11 : Int32) (zdraft_untold_12 : Int32) (zdraft_halves_13 : Nat → Int32) (zdraft_likings_14 : Nat → Int32) (zdraft_fears_15 : Nat → Int32) (H : Heap) (locs : List Loc) (ls : Array Slot), J43 zexpected_8 zisLess_9 zlastFeared_10 zdraft_dogs_11 zdraft_untold_12 zdraft_halves_13 zdraft_likings_14 zdraft_fears_15 → va_P D vwCl [(q0, .inr (6, [.ref q1, .int zsize, .ref q2, .int zexpected_8, .int zisLess_9, .int zlastFeared_10])), (q1, .inl (ci, 60, .inl zsigns)), (q2, .inr (8, [.int zdraft_dogs_11, .int zdraft_untold_12, .ref q3, .ref q4, .ref q5, .ref q6])), (q3, .inl (ci, 7, .inl zdraft_halves_13)), (q4, .inl (ci, 7, .inl zdraft_likings_14)), (q5, .inl (ci, 7, .inl zdraft_fears_15)), (q6, .inl (ci, 7, .inl zdraft_heirs_7))] H → va_S A s.heap H locs → lv_has ls 2 [(0, .ref q0)] → W p l e R s m args below meth c H locs 0 0 Q (F0 m 43 ls [])) ?_ ?_
  · intro zexpected_8 zisLess_9 zlastFeared_10 zdraft_dogs_11 zdraft_untold_12 zdraft_halves_13 zdraft_likings_14 zdraft_fears_15 H locs ls hw hP hS hl
    have hD : va_D A [(q0, .inr (6, [.ref q1, .int zsize, .ref q2, .int zexpected_8, .int zisLess_9, .int zlastFeared_10])), (q1, .inl (ci, 60, .inl zsigns)), (q2, .inr (8, [.int zdraft_dogs_11, .int zdraft_untold_12, .ref q3, .ref q4, .ref q5, .ref q6])), (q3, .inl (ci, 7, .inl zdraft_halves_13)), (q4, .inl (ci, 7, .inl zdraft_likings_14)), (q5, .inl (ci, 7, .inl zdraft_fears_15)), (q6, .inl (ci, 7, .inl zdraft_heirs_7))] := gD_re hD rfl
    refine lv_aload_n hx hb dX7_firstFault_43 rfl (lv_at hl 0 rfl) ?_
    refine va_get (D := D) (ci := 6) (v := .int zexpected_8) (C := RX7) (T := TX7) (N := 6) hx hb ht in_X7 hown hK.1 hP 0 rfl rfl 3 (by decide) (ht _ mF_X7_29) (fun _ h9 => h9) rfl dX7_firstFault_44 ?_
    refine lv_if_ne (tgt := 55) hx hb dX7_firstFault_47 (by decide) (fun hc => ?_) (fun hc => ?_)
    · have hw := hw.1 hc
      refine lv_aload_n hx hb dX7_firstFault_55 rfl (lv_at hl 0 rfl) ?_
      refine va_get (D := D) (ci := 6) (v := .int zsize) (C := RX7) (T := TX7) (N := 6) hx hb ht in_X7 hown hK.1 hP 0 rfl rfl 1 (by decide) (ht _ mF_X7_22) (fun _ h9 => h9) rfl dX7_firstFault_56 ?_
      exact hret _ _ H locs _ _ ⟨_, _, _, _, _, _, _, _, _, rfl, hw⟩ hP hS dX7_firstFault_59
    · have hw := hw.2 hc
      refine lv_bipush (v := (-6 : Int32)) hx hb dX7_firstFault_50 (by decide) ?_
      refine lv_goto (tgt := 59) hx hb dX7_firstFault_52 (by decide) ?_
      exact hret _ _ H locs _ _ ⟨_, _, _, _, _, _, _, _, _, rfl, hw⟩ hP hS dX7_firstFault_59
  · intro J43 hJ43 hw
    refine lo_walk hw (fun G14 => ∀ (x1_16 : Int32) (zexpected_17 : Int32) (zisLess_18 : Int32) (zlastFeared_19 : Int32) (zdraft_dogs_20 : Int32) (zdraft_untold_21 : Int32) (zdraft_halves_22 : Nat → Int32) (zdraft_likings_23 : Nat → Int32) (zdraft_fears_24 : Nat → Int32) (H : Heap) (locs : List Loc) (ls : Array Slot), G14 x1_16 zexpected_17 zisLess_18 zlastFeared_19 zdraft_dogs_20 zdraft_untold_21 zdraft_halves_22 zdraft_likings_23 zdraft_fears_24 → va_P D vwCl [(q0, .inr (6, [.ref q1, .int zsize, .ref q2, .int zexpected_17, .int zisLess_18, .int zlastFeared_19])), (q1, .inl (ci, 60, .inl zsigns)), (q2, .inr (8, [.int zdraft_dogs_20, .int zdraft_untold_21, .ref q3, .ref q4, .ref q5, .ref q6])), (q3, .inl (ci, 7, .inl zdraft_halves_22)), (q4, .inl (ci, 7, .inl zdraft_likings_23)), (q5, .inl (ci, 7, .inl zdraft_fears_24)), (q6, .inl (ci, 7, .inl zdraft_heirs_7))] H → va_S A s.heap H locs → lv_has ls 2 [(0, .ref q0), (1, .int x1_16)] → W p l e R s m args below meth c H locs 0 0 Q (F0 m 14 ls [])) (fun _ _ _ _ _ _ _ _ _ _ _ _ hw _ _ _ => False.elim hw) (fun G14 hG14 x1_16 zexpected_17 zisLess_18 zlastFeared_19 zdraft_dogs_20 zdraft_untold_21 zdraft_halves_22 zdraft_likings_23 zdraft_fears_24 H locs ls hw hP hS hl => ?_) (fun G14 hG14 hw => hG14 _ _ _ _ _ _ _ _ _ H locs ls hw hP hS (lv_sub hl [1, 0] rfl))
    have hD : va_D A [(q0, .inr (6, [.ref q1, .int zsize, .ref q2, .int zexpected_17, .int zisLess_18, .int zlastFeared_19])), (q1, .inl (ci, 60, .inl zsigns)), (q2, .inr (8, [.int zdraft_dogs_20, .int zdraft_untold_21, .ref q3, .ref q4, .ref q5, .ref q6])), (q3, .inl (ci, 7, .inl zdraft_halves_22)), (q4, .inl (ci, 7, .inl zdraft_likings_23)), (q5, .inl (ci, 7, .inl zdraft_fears_24)), (q6, .inl (ci, 7, .inl zdraft_heirs_7))] := gD_re hD rfl
    refine lv_iload_n hx hb dX7_firstFault_14 rfl (lv_at hl 1 rfl) ?_
    refine lv_aload_n hx hb dX7_firstFault_15 rfl (lv_at hl 0 rfl) ?_
    refine va_get (D := D) (ci := 6) (v := .int zsize) (C := RX7) (T := TX7) (N := 6) hx hb ht in_X7 hown hK.1 hP 0 rfl rfl 1 (by decide) (ht _ mF_X7_22) (fun _ h9 => h9) rfl dX7_firstFault_16 ?_
    refine lv_icmp_ge (tgt := 43) hx hb dX7_firstFault_19 (by decide) (fun hc => ?_) (fun hc => ?_)
    · have hw := hw.1 hc
      exact hJ43 _ _ _ _ _ _ _ _ H locs ls hw hP hS (lv_sub hl [0] rfl)
    · have hw := hw.2 hc
      refine lv_aload_n hx hb dX7_firstFault_22 rfl (lv_at hl 0 rfl) ?_
      refine lv_aload_n hx hb dX7_firstFault_23 rfl (lv_at hl 0 rfl) ?_
      refine va_get (D := D) (ci := 6) (v := .ref q1) (C := RX7) (T := TX7) (N := 6) hx hb ht in_X7 hown hK.1 hP 0 rfl rfl 0 (by decide) (ht _ mF_X7_9) (fun _ h9 => h9) rfl dX7_firstFault_24 ?_
      refine lv_iload_n hx hb dX7_firstFault_27 rfl (lv_at hl 1 rfl) ?_
      obtain ⟨hin, hw⟩ := hw
      refine va_iald (D := D) hx hb hK.1 hP 1 0 rfl rfl hin dX7_firstFault_28 ?_
      refine gcalli (va_runV (As := [.int (zsigns (x1_16).toNatClampNeg)]) (rest := []) ⟨hx, hb, hml, hown, ht⟩ (c_X7_takes l D ci cz tr q0 q2 q3 q4 q5 H.size (.ref q1) (.int zsize) (.ref q6) zexpected_17 zisLess_18 zlastFeared_19 zdraft_dogs_20 zdraft_untold_21 zdraft_halves_22 zdraft_likings_23 zdraft_fears_24 (zsigns (x1_16).toNatClampNeg) _ hw) (cwV 1 ht (gi_V mM_X7_32 mI_X7_takes mS_X7_takes mN_X7 mC_X7_takes) rfl rfl rfl (by decide +kernel) ⟨Nat.le_trans (Nat.le_of_ble_eq_true rfl) hfr, Nat.le_trans (Nat.le_of_ble_eq_true rfl) hlc⟩) (gpreV (wc := [(q0, .inr (6, [.ref q1, .int zsize, .ref q2, .int zexpected_17, .int zisLess_18, .int zlastFeared_19])), (q2, .inr (8, [.int zdraft_dogs_20, .int zdraft_untold_21, .ref q3, .ref q4, .ref q5, .ref q6])), (q3, .inl (ci, 7, .inl zdraft_halves_22)), (q4, .inl (ci, 7, .inl zdraft_likings_23)), (q5, .inl (ci, 7, .inl zdraft_fears_24))]) (k := 6) (q0 := 0) hK hZ hP hD hS hA [0, 2, 3, 4, 5] rfl rfl rfl rfl rfl) rfl rfl hl.1 rfl (lv_room (Nat.le_of_ble_eq_true rfl)) dX7_firstFault_29 ⟨Nat.zero_le _, Nat.zero_le _⟩) hD hS hA [0, 2, 3, 4, 5] rfl (fun r_25 w9 H locs hw hP9 hk9 hS => ?_)
      obtain ⟨zexpected_26, zisLess_27, zlastFeared_28, zdraft_dogs_29, zdraft_untold_30, zdraft_halves_31, zdraft_likings_32, zdraft_fears_33, rfl, hw⟩ := hw
      have hP : va_P D vwCl [(q0, .inr (6, [.ref q1, .int zsize, .ref q2, .int zexpected_26, .int zisLess_27, .int zlastFeared_28])), (q1, .inl (ci, 60, .inl zsigns)), (q2, .inr (8, [.int zdraft_dogs_29, .int zdraft_untold_30, .ref q3, .ref q4, .ref q5, .ref q6])), (q3, .inl (ci, 7, .inl zdraft_halves_31)), (q4, .inl (ci, 7, .inl zdraft_likings_32)), (q5, .inl (ci, 7, .inl zdraft_fears_33)), (q6, .inl (ci, 7, .inl zdraft_heirs_7))] H := gjoin3 hP hD [0, 2, 3, 4, 5] hP9 hk9 rfl rfl [some 0, none, some 1, some 2, some 3, some 4, none] rfl rfl
      have hD : va_D A [(q0, .inr (6, [.ref q1, .int zsize, .ref q2, .int zexpected_26, .int zisLess_27, .int zlastFeared_28])), (q1, .inl (ci, 60, .inl zsigns)), (q2, .inr (8, [.int zdraft_dogs_29, .int zdraft_untold_30, .ref q3, .ref q4, .ref q5, .ref q6])), (q3, .inl (ci, 7, .inl zdraft_halves_31)), (q4, .inl (ci, 7, .inl zdraft_likings_32)), (q5, .inl (ci, 7, .inl zdraft_fears_33)), (q6, .inl (ci, 7, .inl zdraft_heirs_7))] := gD_re hD rfl
      clear hP9 hk9
      refine lv_if_ne (tgt := 37) hx hb dX7_firstFault_32 (by decide) (fun hc => ?_) (fun hc => ?_)
      · have hw := hw.1 hc
        refine lv_iinc (v := (x1_16 + (1 : Int32))) (lv' := [(1, .int (x1_16 + (1 : Int32))), (0, .ref q0)]) hx hb dX7_firstFault_37 hl (k := 1) rfl rfl (by decide) rfl (fun ls hl => ?_)
        refine lv_goto (tgt := 14) hx hb dX7_firstFault_40 (by decide) ?_
        exact hG14 _ _ _ _ _ _ _ _ _ H locs ls hw hP hS (lv_sub hl [1, 0] rfl)
      · have hw := hw.2 hc
        refine lv_iload_n hx hb dX7_firstFault_35 rfl (lv_at hl 1 rfl) ?_
        exact hret _ _ H locs _ _ ⟨_, _, _, _, _, _, _, _, _, rfl, hw⟩ hP hS dX7_firstFault_36

def wp_X11_fault (zpad_size : Int32) (zpad_expected : Int32) (zpad_isLess : Int32) (zpad_lastFeared : Int32) (zpad_signs : Nat → Int32) (zpad_draft_dogs : Int32) (zpad_draft_untold : Int32) (zpad_draft_halves : Nat → Int32) (zpad_draft_likings : Nat → Int32) (zpad_draft_fears : Nat → Int32) (zpad_draft_heirs : Nat → Int32)  (post : Int32 → Int32 → Int32 → Int32 → Int32 → Int32 → (Nat → Int32) → (Nat → Int32) → (Nat → Int32) → (Nat → Int32) → Prop) : Prop :=
  wp_X7_firstFault zpad_size zpad_expected zpad_isLess zpad_lastFeared zpad_signs zpad_draft_dogs zpad_draft_untold zpad_draft_halves zpad_draft_likings zpad_draft_fears zpad_draft_heirs (fun (r_1 : Int32) (zpad_expected_2 : Int32) (zpad_isLess_3 : Int32) (zpad_lastFeared_4 : Int32) (zpad_draft_dogs_5 : Int32) (zpad_draft_untold_6 : Int32) (zpad_draft_halves_7 : Nat → Int32) (zpad_draft_likings_8 : Nat → Int32) (zpad_draft_fears_9 : Nat → Int32) (zpad_draft_heirs_10 : Nat → Int32) => post r_1 zpad_expected_2 zpad_isLess_3 zpad_lastFeared_4 zpad_draft_dogs_5 zpad_draft_untold_6 zpad_draft_halves_7 zpad_draft_likings_8 zpad_draft_fears_9 zpad_draft_heirs_10)
set_option maxHeartbeats 4000000 in
set_option maxRecDepth 100000 in
theorem c_X11_fault (l : Launch) (D : va_G) (ci cz : ClassId) (tr : List (ClassId × FieldType)) (q0 q1 q2 q3 q4 q5 q6 q7 : Nat) (sz : Nat) (u0 u1 u2 u3 u4 u5 u6 u7 : Value) (zpad_size : Int32) (zpad_expected : Int32) (zpad_isLess : Int32) (zpad_lastFeared : Int32) (zpad_signs : Nat → Int32) (zpad_draft_dogs : Int32) (zpad_draft_untold : Int32) (zpad_draft_halves : Nat → Int32) (zpad_draft_likings : Nat → Int32) (zpad_draft_fears : Nat → Int32) (zpad_draft_heirs : Nat → Int32)  (post : Int32 → Int32 → Int32 → Int32 → Int32 → Int32 → (Nat → Int32) → (Nat → Int32) → (Nat → Int32) → (Nat → Int32) → Prop) (hw : wp_X11_fault zpad_size zpad_expected zpad_isLess zpad_lastFeared zpad_signs zpad_draft_dogs zpad_draft_untold zpad_draft_halves zpad_draft_likings zpad_draft_fears zpad_draft_heirs post) : gM l yX11_fault cX11_fault 1 (some .int) 4 83 D ci cz tr [(q0, .inr (10, [.ref q1, u0, u1, u2, u3, u4, u5, u6, u7])), (q1, .inr (6, [.ref q2, .int zpad_size, .ref q3, .int zpad_expected, .int zpad_isLess, .int zpad_lastFeared])), (q2, .inl (ci, 60, .inl zpad_signs)), (q3, .inr (8, [.int zpad_draft_dogs, .int zpad_draft_untold, .ref q4, .ref q5, .ref q6, .ref q7])), (q4, .inl (ci, 7, .inl zpad_draft_halves)), (q5, .inl (ci, 7, .inl zpad_draft_likings)), (q6, .inl (ci, 7, .inl zpad_draft_fears)), (q7, .inl (ci, 7, .inl zpad_draft_heirs))] sz [.ref q0] (gQi D [(q0, .inr (10, [.ref q1, u0, u1, u2, u3, u4, u5, u6, u7])), (q1, .inr (6, [.ref q2, .int zpad_size, .ref q3, .int zpad_expected, .int zpad_isLess, .int zpad_lastFeared])), (q2, .inl (ci, 60, .inl zpad_signs)), (q3, .inr (8, [.int zpad_draft_dogs, .int zpad_draft_untold, .ref q4, .ref q5, .ref q6, .ref q7])), (q4, .inl (ci, 7, .inl zpad_draft_halves)), (q5, .inl (ci, 7, .inl zpad_draft_likings)), (q6, .inl (ci, 7, .inl zpad_draft_fears)), (q7, .inl (ci, 7, .inl zpad_draft_heirs))] sz (fun (r : Int32) w => ∃ (o_zpad_expected : Int32) (o_zpad_isLess : Int32) (o_zpad_lastFeared : Int32) (o_zpad_draft_dogs : Int32) (o_zpad_draft_untold : Int32) (o_zpad_draft_halves : Nat → Int32) (o_zpad_draft_likings : Nat → Int32) (o_zpad_draft_fears : Nat → Int32) (o_zpad_draft_heirs : Nat → Int32), w = [(q0, .inr (10, [.ref q1, u0, u1, u2, u3, u4, u5, u6, u7])), (q1, .inr (6, [.ref q2, .int zpad_size, .ref q3, .int o_zpad_expected, .int o_zpad_isLess, .int o_zpad_lastFeared])), (q2, .inl (ci, 60, .inl zpad_signs)), (q3, .inr (8, [.int o_zpad_draft_dogs, .int o_zpad_draft_untold, .ref q4, .ref q5, .ref q6, .ref q7])), (q4, .inl (ci, 7, .inl o_zpad_draft_halves)), (q5, .inl (ci, 7, .inl o_zpad_draft_likings)), (q6, .inl (ci, 7, .inl o_zpad_draft_fears)), (q7, .inl (ci, 7, .inl o_zpad_draft_heirs))] ∧ post r o_zpad_expected o_zpad_isLess o_zpad_lastFeared o_zpad_draft_dogs o_zpad_draft_untold o_zpad_draft_halves o_zpad_draft_likings o_zpad_draft_fears o_zpad_draft_heirs)) := by
  refine gmet_i RX11 (by decide +kernel) rfl (Nat.le_of_ble_eq_true rfl) ?_
  intro p e s m args below meth c A R Q C hfr hlc hP hD hret ls hl
  obtain ⟨hx, hb, hml, hown, ht, hK, hZ, hA⟩ := C
  have hl : lv_has ls 1 [(0, .ref q0)] := hl
  unfold wp_X11_fault at hw
  refine g_in (fun H locs => W p l e R s m args below meth c H locs 0 0 Q (F0 m 0 ls [])) (fun H locs hS0 hP => ?_) hP (va_S.rf (A := A) (H0 := s.heap))
  have hS : va_S A s.heap H locs := hS0
  clear hS0
  refine lv_aload_n hx hb dX11_fault_0 rfl (lv_at hl 0 rfl) ?_
  refine va_get (D := D) (ci := 10) (v := .ref q1) (C := RX11) (T := TX11) (N := 9) hx hb ht in_X11 hown hK.1 hP 0 rfl rfl 0 (by decide) (ht _ mF_X11_12) (fun _ h9 => h9) rfl dX11_fault_1 ?_
  refine gcalli (va_runV (As := []) (rest := []) ⟨hx, hb, hml, hown, ht⟩ (c_X7_firstFault l D ci cz tr q1 q2 q3 q4 q5 q6 q7 H.size zpad_size zpad_expected zpad_isLess zpad_lastFeared zpad_signs zpad_draft_dogs zpad_draft_untold zpad_draft_halves zpad_draft_likings zpad_draft_fears zpad_draft_heirs _ hw) (cwV 0 ht (gi_V mM_X11_70 mI_X7_firstFault mS_X7_firstFault mN_X7 mC_X7_firstFault) rfl rfl rfl (by decide +kernel) ⟨Nat.le_trans (Nat.le_of_ble_eq_true rfl) hfr, Nat.le_trans (Nat.le_of_ble_eq_true rfl) hlc⟩) (gpreV (wc := [(q1, .inr (6, [.ref q2, .int zpad_size, .ref q3, .int zpad_expected, .int zpad_isLess, .int zpad_lastFeared])), (q2, .inl (ci, 60, .inl zpad_signs)), (q3, .inr (8, [.int zpad_draft_dogs, .int zpad_draft_untold, .ref q4, .ref q5, .ref q6, .ref q7])), (q4, .inl (ci, 7, .inl zpad_draft_halves)), (q5, .inl (ci, 7, .inl zpad_draft_likings)), (q6, .inl (ci, 7, .inl zpad_draft_fears)), (q7, .inl (ci, 7, .inl zpad_draft_heirs))]) (k := 6) (q0 := 1) hK hZ hP hD hS hA [1, 2, 3, 4, 5, 6, 7] rfl rfl rfl rfl rfl) rfl rfl hl.1 rfl (lv_room (Nat.le_of_ble_eq_true rfl)) dX11_fault_4 ⟨Nat.zero_le _, Nat.zero_le _⟩) hD hS hA [1, 2, 3, 4, 5, 6, 7] rfl (fun r_1 w9 H locs hw hP9 hk9 hS => ?_)
  obtain ⟨zpad_expected_2, zpad_isLess_3, zpad_lastFeared_4, zpad_draft_dogs_5, zpad_draft_untold_6, zpad_draft_halves_7, zpad_draft_likings_8, zpad_draft_fears_9, zpad_draft_heirs_10, rfl, hw⟩ := hw
  have hP : va_P D vwCl [(q0, .inr (10, [.ref q1, u0, u1, u2, u3, u4, u5, u6, u7])), (q1, .inr (6, [.ref q2, .int zpad_size, .ref q3, .int zpad_expected_2, .int zpad_isLess_3, .int zpad_lastFeared_4])), (q2, .inl (ci, 60, .inl zpad_signs)), (q3, .inr (8, [.int zpad_draft_dogs_5, .int zpad_draft_untold_6, .ref q4, .ref q5, .ref q6, .ref q7])), (q4, .inl (ci, 7, .inl zpad_draft_halves_7)), (q5, .inl (ci, 7, .inl zpad_draft_likings_8)), (q6, .inl (ci, 7, .inl zpad_draft_fears_9)), (q7, .inl (ci, 7, .inl zpad_draft_heirs_10))] H := gjoin3 hP hD [1, 2, 3, 4, 5, 6, 7] hP9 hk9 rfl rfl [none, some 0, some 1, some 2, some 3, some 4, some 5, some 6] rfl rfl
  have hD : va_D A [(q0, .inr (10, [.ref q1, u0, u1, u2, u3, u4, u5, u6, u7])), (q1, .inr (6, [.ref q2, .int zpad_size, .ref q3, .int zpad_expected_2, .int zpad_isLess_3, .int zpad_lastFeared_4])), (q2, .inl (ci, 60, .inl zpad_signs)), (q3, .inr (8, [.int zpad_draft_dogs_5, .int zpad_draft_untold_6, .ref q4, .ref q5, .ref q6, .ref q7])), (q4, .inl (ci, 7, .inl zpad_draft_halves_7)), (q5, .inl (ci, 7, .inl zpad_draft_likings_8)), (q6, .inl (ci, 7, .inl zpad_draft_fears_9)), (q7, .inl (ci, 7, .inl zpad_draft_heirs_10))] := gD_re hD rfl
  clear hP9 hk9
  exact hret _ _ H locs _ _ ⟨_, _, _, _, _, _, _, _, _, rfl, hw⟩ hP hS dX11_fault_7

def wp_X9_copyFrom (zdogs : Int32) (zuntold : Int32) (zhalves : Nat → Int32) (zlikings : Nat → Int32) (zfears : Nat → Int32) (zheirs : Nat → Int32) (zp1_dogs : Int32) (zp1_untold : Int32) (zp1_halves : Nat → Int32) (zp1_likings : Nat → Int32) (zp1_fears : Nat → Int32) (zp1_heirs : Nat → Int32)  (post : Int32 → Int32 → (Nat → Int32) → (Nat → Int32) → (Nat → Int32) → (Nat → Int32) → Prop) : Prop :=
  post zp1_dogs zp1_untold (va_cpy zp1_halves zhalves (0 : Int32).toNatClampNeg (0 : Int32).toNatClampNeg (7 : Int32).toNatClampNeg) (va_cpy zp1_likings zlikings (0 : Int32).toNatClampNeg (0 : Int32).toNatClampNeg (7 : Int32).toNatClampNeg) (va_cpy zp1_fears zfears (0 : Int32).toNatClampNeg (0 : Int32).toNatClampNeg (7 : Int32).toNatClampNeg) (va_cpy zp1_heirs zheirs (0 : Int32).toNatClampNeg (0 : Int32).toNatClampNeg (7 : Int32).toNatClampNeg)
set_option maxHeartbeats 4000000 in
set_option maxRecDepth 100000 in
theorem c_X9_copyFrom (l : Launch) (D : va_G) (ci cz : ClassId) (tr : List (ClassId × FieldType)) (q0 q1 q2 q3 q4 q5 q6 q7 q8 q9 : Nat) (sz : Nat) (zdogs : Int32) (zuntold : Int32) (zhalves : Nat → Int32) (zlikings : Nat → Int32) (zfears : Nat → Int32) (zheirs : Nat → Int32) (zp1_dogs : Int32) (zp1_untold : Int32) (zp1_halves : Nat → Int32) (zp1_likings : Nat → Int32) (zp1_fears : Nat → Int32) (zp1_heirs : Nat → Int32)  (post : Int32 → Int32 → (Nat → Int32) → (Nat → Int32) → (Nat → Int32) → (Nat → Int32) → Prop) (hw : wp_X9_copyFrom zdogs zuntold zhalves zlikings zfears zheirs zp1_dogs zp1_untold zp1_halves zp1_likings zp1_fears zp1_heirs post) : gM l yX9_copyFrom cX9_copyFrom 2 none 1 26 D ci cz tr [(q0, .inr (8, [.int zdogs, .int zuntold, .ref q1, .ref q2, .ref q3, .ref q4])), (q1, .inl (ci, 7, .inl zhalves)), (q2, .inl (ci, 7, .inl zlikings)), (q3, .inl (ci, 7, .inl zfears)), (q4, .inl (ci, 7, .inl zheirs)), (q5, .inr (8, [.int zp1_dogs, .int zp1_untold, .ref q6, .ref q7, .ref q8, .ref q9])), (q6, .inl (ci, 7, .inl zp1_halves)), (q7, .inl (ci, 7, .inl zp1_likings)), (q8, .inl (ci, 7, .inl zp1_fears)), (q9, .inl (ci, 7, .inl zp1_heirs))] sz [.ref q0, .ref q5] (gQv D [(q0, .inr (8, [.int zdogs, .int zuntold, .ref q1, .ref q2, .ref q3, .ref q4])), (q1, .inl (ci, 7, .inl zhalves)), (q2, .inl (ci, 7, .inl zlikings)), (q3, .inl (ci, 7, .inl zfears)), (q4, .inl (ci, 7, .inl zheirs)), (q5, .inr (8, [.int zp1_dogs, .int zp1_untold, .ref q6, .ref q7, .ref q8, .ref q9])), (q6, .inl (ci, 7, .inl zp1_halves)), (q7, .inl (ci, 7, .inl zp1_likings)), (q8, .inl (ci, 7, .inl zp1_fears)), (q9, .inl (ci, 7, .inl zp1_heirs))] sz (fun w => ∃ (o_zdogs : Int32) (o_zuntold : Int32) (o_zhalves : Nat → Int32) (o_zlikings : Nat → Int32) (o_zfears : Nat → Int32) (o_zheirs : Nat → Int32), w = [(q0, .inr (8, [.int o_zdogs, .int o_zuntold, .ref q1, .ref q2, .ref q3, .ref q4])), (q1, .inl (ci, 7, .inl o_zhalves)), (q2, .inl (ci, 7, .inl o_zlikings)), (q3, .inl (ci, 7, .inl o_zfears)), (q4, .inl (ci, 7, .inl o_zheirs)), (q5, .inr (8, [.int zp1_dogs, .int zp1_untold, .ref q6, .ref q7, .ref q8, .ref q9])), (q6, .inl (ci, 7, .inl zp1_halves)), (q7, .inl (ci, 7, .inl zp1_likings)), (q8, .inl (ci, 7, .inl zp1_fears)), (q9, .inl (ci, 7, .inl zp1_heirs))] ∧ post o_zdogs o_zuntold o_zhalves o_zlikings o_zfears o_zheirs)) := by
  refine gmet_v RX9 (by decide +kernel) rfl (Nat.le_of_ble_eq_true rfl) ?_
  intro p e s m args below meth c A R Q C hfr hlc hP hD hret ls hl
  obtain ⟨hx, hb, hml, hown, ht, hK, hZ, hA⟩ := C
  have hl : lv_has ls 2 [(0, .ref q0), (1, .ref q5)] := hl
  unfold wp_X9_copyFrom at hw
  refine g_in (fun H locs => W p l e R s m args below meth c H locs 0 0 Q (F0 m 0 ls [])) (fun H locs hS0 hP => ?_) hP (va_S.rf (A := A) (H0 := s.heap))
  have hS : va_S A s.heap H locs := hS0
  clear hS0
  refine lv_aload_n hx hb dX9_copyFrom_0 rfl (lv_at hl 0 rfl) ?_
  refine lv_aload_n hx hb dX9_copyFrom_1 rfl (lv_at hl 1 rfl) ?_
  refine va_get (D := D) (ci := 8) (v := .int zp1_dogs) (C := RX9) (T := TX9) (N := 6) hx hb ht in_X9 hown hK.1 hP 5 rfl rfl 0 (by decide) (ht _ mF_X9_24) (fun _ h9 => h9) rfl dX9_copyFrom_2 ?_
  refine va_put (D := D) (ci := 8) (v := .int zp1_dogs) (ty := .int) (C := RX9) (T := TX9) (N := 6) hx hb ht in_X9 tyX9 tyX9_ok nmX9 hown hK.1 hP hD hS 0 rfl rfl 0 (by decide) (ht _ mF_X9_24) (fun _ h9 => h9) rfl (by decide +kernel) rfl rfl (Nat.le_of_ble_eq_true rfl) dX9_copyFrom_5 (fun H locs hP hD hS => ?_)
  have hP : va_P D vwCl [(q0, .inr (8, [.int zp1_dogs, .int zuntold, .ref q1, .ref q2, .ref q3, .ref q4])), (q1, .inl (ci, 7, .inl zhalves)), (q2, .inl (ci, 7, .inl zlikings)), (q3, .inl (ci, 7, .inl zfears)), (q4, .inl (ci, 7, .inl zheirs)), (q5, .inr (8, [.int zp1_dogs, .int zp1_untold, .ref q6, .ref q7, .ref q8, .ref q9])), (q6, .inl (ci, 7, .inl zp1_halves)), (q7, .inl (ci, 7, .inl zp1_likings)), (q8, .inl (ci, 7, .inl zp1_fears)), (q9, .inl (ci, 7, .inl zp1_heirs))] H := hP
  have hD : va_D A [(q0, .inr (8, [.int zp1_dogs, .int zuntold, .ref q1, .ref q2, .ref q3, .ref q4])), (q1, .inl (ci, 7, .inl zhalves)), (q2, .inl (ci, 7, .inl zlikings)), (q3, .inl (ci, 7, .inl zfears)), (q4, .inl (ci, 7, .inl zheirs)), (q5, .inr (8, [.int zp1_dogs, .int zp1_untold, .ref q6, .ref q7, .ref q8, .ref q9])), (q6, .inl (ci, 7, .inl zp1_halves)), (q7, .inl (ci, 7, .inl zp1_likings)), (q8, .inl (ci, 7, .inl zp1_fears)), (q9, .inl (ci, 7, .inl zp1_heirs))] := hD
  refine lv_aload_n hx hb dX9_copyFrom_8 rfl (lv_at hl 0 rfl) ?_
  refine lv_aload_n hx hb dX9_copyFrom_9 rfl (lv_at hl 1 rfl) ?_
  refine va_get (D := D) (ci := 8) (v := .int zp1_untold) (C := RX9) (T := TX9) (N := 6) hx hb ht in_X9 hown hK.1 hP 5 rfl rfl 1 (by decide) (ht _ mF_X9_28) (fun _ h9 => h9) rfl dX9_copyFrom_10 ?_
  refine va_put (D := D) (ci := 8) (v := .int zp1_untold) (ty := .int) (C := RX9) (T := TX9) (N := 6) hx hb ht in_X9 tyX9 tyX9_ok nmX9 hown hK.1 hP hD hS 0 rfl rfl 1 (by decide) (ht _ mF_X9_28) (fun _ h9 => h9) rfl (by decide +kernel) rfl rfl (Nat.le_of_ble_eq_true rfl) dX9_copyFrom_13 (fun H locs hP hD hS => ?_)
  have hP : va_P D vwCl [(q0, .inr (8, [.int zp1_dogs, .int zp1_untold, .ref q1, .ref q2, .ref q3, .ref q4])), (q1, .inl (ci, 7, .inl zhalves)), (q2, .inl (ci, 7, .inl zlikings)), (q3, .inl (ci, 7, .inl zfears)), (q4, .inl (ci, 7, .inl zheirs)), (q5, .inr (8, [.int zp1_dogs, .int zp1_untold, .ref q6, .ref q7, .ref q8, .ref q9])), (q6, .inl (ci, 7, .inl zp1_halves)), (q7, .inl (ci, 7, .inl zp1_likings)), (q8, .inl (ci, 7, .inl zp1_fears)), (q9, .inl (ci, 7, .inl zp1_heirs))] H := hP
  have hD : va_D A [(q0, .inr (8, [.int zp1_dogs, .int zp1_untold, .ref q1, .ref q2, .ref q3, .ref q4])), (q1, .inl (ci, 7, .inl zhalves)), (q2, .inl (ci, 7, .inl zlikings)), (q3, .inl (ci, 7, .inl zfears)), (q4, .inl (ci, 7, .inl zheirs)), (q5, .inr (8, [.int zp1_dogs, .int zp1_untold, .ref q6, .ref q7, .ref q8, .ref q9])), (q6, .inl (ci, 7, .inl zp1_halves)), (q7, .inl (ci, 7, .inl zp1_likings)), (q8, .inl (ci, 7, .inl zp1_fears)), (q9, .inl (ci, 7, .inl zp1_heirs))] := hD
  refine lv_aload_n hx hb dX9_copyFrom_16 rfl (lv_at hl 1 rfl) ?_
  refine va_get (D := D) (ci := 8) (v := .ref q6) (C := RX9) (T := TX9) (N := 6) hx hb ht in_X9 hown hK.1 hP 5 rfl rfl 2 (by decide) (ht _ mF_X9_9) (fun _ h9 => h9) rfl dX9_copyFrom_17 ?_
  refine lv_iconst (v := (0 : Int32)) hx hb dX9_copyFrom_20 (by decide) ?_
  refine lv_aload_n hx hb dX9_copyFrom_21 rfl (lv_at hl 0 rfl) ?_
  refine va_get (D := D) (ci := 8) (v := .ref q1) (C := RX9) (T := TX9) (N := 6) hx hb ht in_X9 hown hK.1 hP 0 rfl rfl 2 (by decide) (ht _ mF_X9_9) (fun _ h9 => h9) rfl dX9_copyFrom_22 ?_
  refine lv_iconst (v := (0 : Int32)) hx hb dX9_copyFrom_25 (by decide) ?_
  refine lv_bipush (v := (7 : Int32)) hx hb dX9_copyFrom_26 (by decide) ?_
  refine va_copyi (D := D) (ty := .int) hx hb (hml.trans hl.1.symm) hown (ht _ mM_X9_31) (ht _ mV_arraycopy) (ht _ mT_arraycopy) (ht _ mN_J10) hK.1 hP hD hS 6 1 0 0 rfl rfl rfl rfl rfl (by decide) (by decide) (by decide) (by decide) (by decide) (fun _ _ => rfl) (Nat.le_trans (Nat.le_of_ble_eq_true rfl) hfr) (Nat.le_trans (Nat.le_of_ble_eq_true rfl) hlc) dX9_copyFrom_28 (fun H locs hP hD hS => ?_)
  have hP : va_P D vwCl [(q0, .inr (8, [.int zp1_dogs, .int zp1_untold, .ref q1, .ref q2, .ref q3, .ref q4])), (q1, .inl (ci, 7, .inl (va_cpy zp1_halves zhalves (0 : Int32).toNatClampNeg (0 : Int32).toNatClampNeg (7 : Int32).toNatClampNeg))), (q2, .inl (ci, 7, .inl zlikings)), (q3, .inl (ci, 7, .inl zfears)), (q4, .inl (ci, 7, .inl zheirs)), (q5, .inr (8, [.int zp1_dogs, .int zp1_untold, .ref q6, .ref q7, .ref q8, .ref q9])), (q6, .inl (ci, 7, .inl zp1_halves)), (q7, .inl (ci, 7, .inl zp1_likings)), (q8, .inl (ci, 7, .inl zp1_fears)), (q9, .inl (ci, 7, .inl zp1_heirs))] H := hP
  have hD : va_D A [(q0, .inr (8, [.int zp1_dogs, .int zp1_untold, .ref q1, .ref q2, .ref q3, .ref q4])), (q1, .inl (ci, 7, .inl (va_cpy zp1_halves zhalves (0 : Int32).toNatClampNeg (0 : Int32).toNatClampNeg (7 : Int32).toNatClampNeg))), (q2, .inl (ci, 7, .inl zlikings)), (q3, .inl (ci, 7, .inl zfears)), (q4, .inl (ci, 7, .inl zheirs)), (q5, .inr (8, [.int zp1_dogs, .int zp1_untold, .ref q6, .ref q7, .ref q8, .ref q9])), (q6, .inl (ci, 7, .inl zp1_halves)), (q7, .inl (ci, 7, .inl zp1_likings)), (q8, .inl (ci, 7, .inl zp1_fears)), (q9, .inl (ci, 7, .inl zp1_heirs))] := hD
  refine lv_aload_n hx hb dX9_copyFrom_31 rfl (lv_at hl 1 rfl) ?_
  refine va_get (D := D) (ci := 8) (v := .ref q7) (C := RX9) (T := TX9) (N := 6) hx hb ht in_X9 hown hK.1 hP 5 rfl rfl 3 (by decide) (ht _ mF_X9_15) (fun _ h9 => h9) rfl dX9_copyFrom_32 ?_
  refine lv_iconst (v := (0 : Int32)) hx hb dX9_copyFrom_35 (by decide) ?_
  refine lv_aload_n hx hb dX9_copyFrom_36 rfl (lv_at hl 0 rfl) ?_
  refine va_get (D := D) (ci := 8) (v := .ref q2) (C := RX9) (T := TX9) (N := 6) hx hb ht in_X9 hown hK.1 hP 0 rfl rfl 3 (by decide) (ht _ mF_X9_15) (fun _ h9 => h9) rfl dX9_copyFrom_37 ?_
  refine lv_iconst (v := (0 : Int32)) hx hb dX9_copyFrom_40 (by decide) ?_
  refine lv_bipush (v := (7 : Int32)) hx hb dX9_copyFrom_41 (by decide) ?_
  refine va_copyi (D := D) (ty := .int) hx hb (hml.trans hl.1.symm) hown (ht _ mM_X9_31) (ht _ mV_arraycopy) (ht _ mT_arraycopy) (ht _ mN_J10) hK.1 hP hD hS 7 2 0 0 rfl rfl rfl rfl rfl (by decide) (by decide) (by decide) (by decide) (by decide) (fun _ _ => rfl) (Nat.le_trans (Nat.le_of_ble_eq_true rfl) hfr) (Nat.le_trans (Nat.le_of_ble_eq_true rfl) hlc) dX9_copyFrom_43 (fun H locs hP hD hS => ?_)
  have hP : va_P D vwCl [(q0, .inr (8, [.int zp1_dogs, .int zp1_untold, .ref q1, .ref q2, .ref q3, .ref q4])), (q1, .inl (ci, 7, .inl (va_cpy zp1_halves zhalves (0 : Int32).toNatClampNeg (0 : Int32).toNatClampNeg (7 : Int32).toNatClampNeg))), (q2, .inl (ci, 7, .inl (va_cpy zp1_likings zlikings (0 : Int32).toNatClampNeg (0 : Int32).toNatClampNeg (7 : Int32).toNatClampNeg))), (q3, .inl (ci, 7, .inl zfears)), (q4, .inl (ci, 7, .inl zheirs)), (q5, .inr (8, [.int zp1_dogs, .int zp1_untold, .ref q6, .ref q7, .ref q8, .ref q9])), (q6, .inl (ci, 7, .inl zp1_halves)), (q7, .inl (ci, 7, .inl zp1_likings)), (q8, .inl (ci, 7, .inl zp1_fears)), (q9, .inl (ci, 7, .inl zp1_heirs))] H := hP
  have hD : va_D A [(q0, .inr (8, [.int zp1_dogs, .int zp1_untold, .ref q1, .ref q2, .ref q3, .ref q4])), (q1, .inl (ci, 7, .inl (va_cpy zp1_halves zhalves (0 : Int32).toNatClampNeg (0 : Int32).toNatClampNeg (7 : Int32).toNatClampNeg))), (q2, .inl (ci, 7, .inl (va_cpy zp1_likings zlikings (0 : Int32).toNatClampNeg (0 : Int32).toNatClampNeg (7 : Int32).toNatClampNeg))), (q3, .inl (ci, 7, .inl zfears)), (q4, .inl (ci, 7, .inl zheirs)), (q5, .inr (8, [.int zp1_dogs, .int zp1_untold, .ref q6, .ref q7, .ref q8, .ref q9])), (q6, .inl (ci, 7, .inl zp1_halves)), (q7, .inl (ci, 7, .inl zp1_likings)), (q8, .inl (ci, 7, .inl zp1_fears)), (q9, .inl (ci, 7, .inl zp1_heirs))] := hD
  refine lv_aload_n hx hb dX9_copyFrom_46 rfl (lv_at hl 1 rfl) ?_
  refine va_get (D := D) (ci := 8) (v := .ref q8) (C := RX9) (T := TX9) (N := 6) hx hb ht in_X9 hown hK.1 hP 5 rfl rfl 4 (by decide) (ht _ mF_X9_18) (fun _ h9 => h9) rfl dX9_copyFrom_47 ?_
  refine lv_iconst (v := (0 : Int32)) hx hb dX9_copyFrom_50 (by decide) ?_
  refine lv_aload_n hx hb dX9_copyFrom_51 rfl (lv_at hl 0 rfl) ?_
  refine va_get (D := D) (ci := 8) (v := .ref q3) (C := RX9) (T := TX9) (N := 6) hx hb ht in_X9 hown hK.1 hP 0 rfl rfl 4 (by decide) (ht _ mF_X9_18) (fun _ h9 => h9) rfl dX9_copyFrom_52 ?_
  refine lv_iconst (v := (0 : Int32)) hx hb dX9_copyFrom_55 (by decide) ?_
  refine lv_bipush (v := (7 : Int32)) hx hb dX9_copyFrom_56 (by decide) ?_
  refine va_copyi (D := D) (ty := .int) hx hb (hml.trans hl.1.symm) hown (ht _ mM_X9_31) (ht _ mV_arraycopy) (ht _ mT_arraycopy) (ht _ mN_J10) hK.1 hP hD hS 8 3 0 0 rfl rfl rfl rfl rfl (by decide) (by decide) (by decide) (by decide) (by decide) (fun _ _ => rfl) (Nat.le_trans (Nat.le_of_ble_eq_true rfl) hfr) (Nat.le_trans (Nat.le_of_ble_eq_true rfl) hlc) dX9_copyFrom_58 (fun H locs hP hD hS => ?_)
  have hP : va_P D vwCl [(q0, .inr (8, [.int zp1_dogs, .int zp1_untold, .ref q1, .ref q2, .ref q3, .ref q4])), (q1, .inl (ci, 7, .inl (va_cpy zp1_halves zhalves (0 : Int32).toNatClampNeg (0 : Int32).toNatClampNeg (7 : Int32).toNatClampNeg))), (q2, .inl (ci, 7, .inl (va_cpy zp1_likings zlikings (0 : Int32).toNatClampNeg (0 : Int32).toNatClampNeg (7 : Int32).toNatClampNeg))), (q3, .inl (ci, 7, .inl (va_cpy zp1_fears zfears (0 : Int32).toNatClampNeg (0 : Int32).toNatClampNeg (7 : Int32).toNatClampNeg))), (q4, .inl (ci, 7, .inl zheirs)), (q5, .inr (8, [.int zp1_dogs, .int zp1_untold, .ref q6, .ref q7, .ref q8, .ref q9])), (q6, .inl (ci, 7, .inl zp1_halves)), (q7, .inl (ci, 7, .inl zp1_likings)), (q8, .inl (ci, 7, .inl zp1_fears)), (q9, .inl (ci, 7, .inl zp1_heirs))] H := hP
  have hD : va_D A [(q0, .inr (8, [.int zp1_dogs, .int zp1_untold, .ref q1, .ref q2, .ref q3, .ref q4])), (q1, .inl (ci, 7, .inl (va_cpy zp1_halves zhalves (0 : Int32).toNatClampNeg (0 : Int32).toNatClampNeg (7 : Int32).toNatClampNeg))), (q2, .inl (ci, 7, .inl (va_cpy zp1_likings zlikings (0 : Int32).toNatClampNeg (0 : Int32).toNatClampNeg (7 : Int32).toNatClampNeg))), (q3, .inl (ci, 7, .inl (va_cpy zp1_fears zfears (0 : Int32).toNatClampNeg (0 : Int32).toNatClampNeg (7 : Int32).toNatClampNeg))), (q4, .inl (ci, 7, .inl zheirs)), (q5, .inr (8, [.int zp1_dogs, .int zp1_untold, .ref q6, .ref q7, .ref q8, .ref q9])), (q6, .inl (ci, 7, .inl zp1_halves)), (q7, .inl (ci, 7, .inl zp1_likings)), (q8, .inl (ci, 7, .inl zp1_fears)), (q9, .inl (ci, 7, .inl zp1_heirs))] := hD
  refine lv_aload_n hx hb dX9_copyFrom_61 rfl (lv_at hl 1 rfl) ?_
  refine va_get (D := D) (ci := 8) (v := .ref q9) (C := RX9) (T := TX9) (N := 6) hx hb ht in_X9 hown hK.1 hP 5 rfl rfl 5 (by decide) (ht _ mF_X9_21) (fun _ h9 => h9) rfl dX9_copyFrom_62 ?_
  refine lv_iconst (v := (0 : Int32)) hx hb dX9_copyFrom_65 (by decide) ?_
  refine lv_aload_n hx hb dX9_copyFrom_66 rfl (lv_at hl 0 rfl) ?_
  refine va_get (D := D) (ci := 8) (v := .ref q4) (C := RX9) (T := TX9) (N := 6) hx hb ht in_X9 hown hK.1 hP 0 rfl rfl 5 (by decide) (ht _ mF_X9_21) (fun _ h9 => h9) rfl dX9_copyFrom_67 ?_
  refine lv_iconst (v := (0 : Int32)) hx hb dX9_copyFrom_70 (by decide) ?_
  refine lv_bipush (v := (7 : Int32)) hx hb dX9_copyFrom_71 (by decide) ?_
  refine va_copyi (D := D) (ty := .int) hx hb (hml.trans hl.1.symm) hown (ht _ mM_X9_31) (ht _ mV_arraycopy) (ht _ mT_arraycopy) (ht _ mN_J10) hK.1 hP hD hS 9 4 0 0 rfl rfl rfl rfl rfl (by decide) (by decide) (by decide) (by decide) (by decide) (fun _ _ => rfl) (Nat.le_trans (Nat.le_of_ble_eq_true rfl) hfr) (Nat.le_trans (Nat.le_of_ble_eq_true rfl) hlc) dX9_copyFrom_73 (fun H locs hP hD hS => ?_)
  have hP : va_P D vwCl [(q0, .inr (8, [.int zp1_dogs, .int zp1_untold, .ref q1, .ref q2, .ref q3, .ref q4])), (q1, .inl (ci, 7, .inl (va_cpy zp1_halves zhalves (0 : Int32).toNatClampNeg (0 : Int32).toNatClampNeg (7 : Int32).toNatClampNeg))), (q2, .inl (ci, 7, .inl (va_cpy zp1_likings zlikings (0 : Int32).toNatClampNeg (0 : Int32).toNatClampNeg (7 : Int32).toNatClampNeg))), (q3, .inl (ci, 7, .inl (va_cpy zp1_fears zfears (0 : Int32).toNatClampNeg (0 : Int32).toNatClampNeg (7 : Int32).toNatClampNeg))), (q4, .inl (ci, 7, .inl (va_cpy zp1_heirs zheirs (0 : Int32).toNatClampNeg (0 : Int32).toNatClampNeg (7 : Int32).toNatClampNeg))), (q5, .inr (8, [.int zp1_dogs, .int zp1_untold, .ref q6, .ref q7, .ref q8, .ref q9])), (q6, .inl (ci, 7, .inl zp1_halves)), (q7, .inl (ci, 7, .inl zp1_likings)), (q8, .inl (ci, 7, .inl zp1_fears)), (q9, .inl (ci, 7, .inl zp1_heirs))] H := hP
  have hD : va_D A [(q0, .inr (8, [.int zp1_dogs, .int zp1_untold, .ref q1, .ref q2, .ref q3, .ref q4])), (q1, .inl (ci, 7, .inl (va_cpy zp1_halves zhalves (0 : Int32).toNatClampNeg (0 : Int32).toNatClampNeg (7 : Int32).toNatClampNeg))), (q2, .inl (ci, 7, .inl (va_cpy zp1_likings zlikings (0 : Int32).toNatClampNeg (0 : Int32).toNatClampNeg (7 : Int32).toNatClampNeg))), (q3, .inl (ci, 7, .inl (va_cpy zp1_fears zfears (0 : Int32).toNatClampNeg (0 : Int32).toNatClampNeg (7 : Int32).toNatClampNeg))), (q4, .inl (ci, 7, .inl (va_cpy zp1_heirs zheirs (0 : Int32).toNatClampNeg (0 : Int32).toNatClampNeg (7 : Int32).toNatClampNeg))), (q5, .inr (8, [.int zp1_dogs, .int zp1_untold, .ref q6, .ref q7, .ref q8, .ref q9])), (q6, .inl (ci, 7, .inl zp1_halves)), (q7, .inl (ci, 7, .inl zp1_likings)), (q8, .inl (ci, 7, .inl zp1_fears)), (q9, .inl (ci, 7, .inl zp1_heirs))] := hD
  exact hret _ H locs _ _ ⟨_, _, _, _, _, _, rfl, hw⟩ hP hS dX9_copyFrom_76
