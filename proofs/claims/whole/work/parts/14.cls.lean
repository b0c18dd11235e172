def wp_X1_has (zwinners : Nat → Int32) (a1 : Int32) (a2 : Int32) (a3 : Int32) (post : Int32 → Prop) : Prop :=
  jn (fun (t_1 : Int32) => jn (fun (t_2 : Int32) => ((¬ t_1 = a1 → ((¬ t_1 = (2 : Int32) → post (-t_2) ) ∧ (t_1 = (2 : Int32) → post ((10 : Int32) - t_2) ))) ∧ (t_1 = a1 → post ((20 : Int32) - t_2) ))) (fun (J45 : Int32 → Prop) => ((¬ a1 = 0 → J45 a3) ∧ (a1 = 0 → J45 a2)))) (fun (J34 : Int32 → Prop) => jn ( J34 (2 : Int32)) (fun (J33 : Prop) => ((((a2 - a3) + (9 : Int32)) < 0 → J33) ∧ (¬ ((a2 - a3) + (9 : Int32)) < 0 → (((19 : Int32) ≤ ((a2 - a3) + (9 : Int32)) → J33) ∧ (¬ (19 : Int32) ≤ ((a2 - a3) + (9 : Int32)) → (vp_in ((a2 - a3) + (9 : Int32)) 19 ∧ J34 (zwinners (((a2 - a3) + (9 : Int32))).toNatClampNeg))))))))
set_option maxHeartbeats 4000000 in
set_option maxRecDepth 100000 in
theorem c_X1_has (l : Launch) (D : va_G) (ci cz : ClassId) (tr : List (ClassId × FieldType)) (q0 q1 : Nat) (sz : Nat) (u0 : Value) (zwinners : Nat → Int32) (a1 : Int32) (a2 : Int32) (a3 : Int32) (post : Int32 → Prop) (hw : wp_X1_has zwinners a1 a2 a3 post) : gM l yX1_has cX1_has 7 (some .int) 0 0 D ci cz tr [(q0, .inr (1, [u0, .ref q1])), (q1, .inl (ci, 19, .inl zwinners))] sz [.ref q0, .int a1, .int a2, .int a3] (gQi D [(q0, .inr (1, [u0, .ref q1])), (q1, .inl (ci, 19, .inl zwinners))] sz (fun (r : Int32) w => w = [(q0, .inr (1, [u0, .ref q1])), (q1, .inl (ci, 19, .inl zwinners))] ∧ post r )) := by
  refine gmet_i RX1 (by decide +kernel) rfl (Nat.le_of_ble_eq_true rfl) ?_
  intro p e s m args below meth c A R Q C hfr hlc hP hD hret ls hl
  obtain ⟨hx, hb, hml, hown, ht, hK, hZ, hA⟩ := C
  have hl : lv_has ls 7 [(0, .ref q0), (1, .int a1), (2, .int a2), (3, .int a3)] := hl
  unfold wp_X1_has at hw
  refine g_in (fun H locs => W p l e R s m args below meth c H locs 0 0 Q (F0 m 0 ls [])) (fun H locs hS0 hP => ?_) hP (va_S.rf (A := A) (H0 := s.heap))
  have hS : va_S A s.heap H locs := hS0
  clear hS0
  refine lv_iload_n hx hb dX1_has_0 rfl (lv_at hl 2 rfl) ?_
  refine lv_iload_n hx hb dX1_has_1 rfl (lv_at hl 3 rfl) ?_
  refine lv_isub hx hb dX1_has_2 ?_
  refine lv_bipush (v := (9 : Int32)) hx hb dX1_has_3 (by decide) ?_
  refine lv_iadd hx hb dX1_has_5 ?_
  refine lv_istore (lv' := [(4, .int ((a2 - a3) + (9 : Int32))), (0, .ref q0), (1, .int a1), (2, .int a2), (3, .int a3)]) hx hb dX1_has_6 hl (by decide) rfl (fun ls hl => ?_)
  refine lv_iload hx hb dX1_has_8 (lv_at hl 0 rfl) ?_
  refine jn_walk hw (fun J34 => ∀ (t_1 : Int32) (H : Heap) (locs : List Loc) (ls : Array Slot), J34 t_1 → va_P D vwCl [(q0, .inr (1, [u0, .ref q1])), (q1, .inl (ci, 19, .inl zwinners))] H → va_S A s.heap H locs → lv_has ls 7 [(1, .int a1), (2, .int a2), (3, .int a3)] → W p l e R s m args below meth c H locs 0 0 Q (F0 m 34 ls [.int t_1])) ?_ ?_
  · intro t_1 H locs ls hw hP hS hl
    have hD : va_D A [(q0, .inr (1, [u0, .ref q1])), (q1, .inl (ci, 19, .inl zwinners))] := gD_re hD rfl
    refine lv_istore (lv' := [(5, .int t_1), (1, .int a1), (2, .int a2), (3, .int a3)]) hx hb dX1_has_34 hl (by decide) rfl (fun ls hl => ?_)
    refine lv_iload_n hx hb dX1_has_36 rfl (lv_at hl 1 rfl) ?_
    refine jn_walk hw (fun J45 => ∀ (t_2 : Int32) (H : Heap) (locs : List Loc) (ls : Array Slot), J45 t_2 → va_P D vwCl [(q0, .inr (1, [u0, .ref q1])), (q1, .inl (ci, 19, .inl zwinners))] H → va_S A s.heap H locs → lv_has ls 7 [(1, .int a1), (5, .int t_1)] → W p l e R s m args below meth c H locs 0 0 Q (F0 m 45 ls [.int t_2])) ?_ ?_
    · intro t_2 H locs ls hw hP hS hl
      have hD : va_D A [(q0, .inr (1, [u0, .ref q1])), (q1, .inl (ci, 19, .inl zwinners))] := gD_re hD rfl
      refine lv_istore (lv' := [(6, .int t_2), (1, .int a1), (5, .int t_1)]) hx hb dX1_has_45 hl (by decide) rfl (fun ls hl => ?_)
      refine lv_iload hx hb dX1_has_47 (lv_at hl 2 rfl) ?_
      refine lv_iload_n hx hb dX1_has_49 rfl (lv_at hl 1 rfl) ?_
      refine lv_icmp_ne (tgt := 59) hx hb dX1_has_50 (by decide) (fun hc => ?_) (fun hc => ?_)
      · have hw := hw.1 hc
        refine lv_iload hx hb dX1_has_59 (lv_at hl 2 rfl) ?_
        refine lv_iconst (v := (2 : Int32)) hx hb dX1_has_61 (by decide) ?_
        refine lv_icmp_ne (tgt := 73) hx hb dX1_has_62 (by decide) (fun hc => ?_) (fun hc => ?_)
        · have hw := hw.1 hc
          refine lv_iload hx hb dX1_has_73 (lv_at hl 0 rfl) ?_
          refine lv_ineg hx hb dX1_has_75 ?_
          exact hret _ _ H locs _ _ ⟨rfl, hw⟩ hP hS dX1_has_76
        · have hw := hw.2 hc
          refine lv_bipush (v := (10 : Int32)) hx hb dX1_has_65 (by decide) ?_
          refine lv_iload hx hb dX1_has_67 (lv_at hl 0 rfl) ?_
          refine lv_isub hx hb dX1_has_69 ?_
          refine lv_goto (tgt := 76) hx hb dX1_has_70 (by decide) ?_
          exact hret _ _ H locs _ _ ⟨rfl, hw⟩ hP hS dX1_has_76
      · have hw := hw.2 hc
        refine lv_bipush (v := (20 : Int32)) hx hb dX1_has_53 (by decide) ?_
        refine lv_iload hx hb dX1_has_55 (lv_at hl 0 rfl) ?_
        refine lv_isub hx hb dX1_has_57 ?_
        exact hret _ _ H locs _ _ ⟨rfl, hw⟩ hP hS dX1_has_58
    · intro J45 hJ45 hw
      refine lv_if_ne (tgt := 44) hx hb dX1_has_37 (by decide) (fun hc => ?_) (fun hc => ?_)
      · have hw := hw.1 hc
        refine lv_iload_n hx hb dX1_has_44 rfl (lv_at hl 3 rfl) ?_
        exact hJ45 _ H locs ls hw hP hS (lv_sub hl [1, 0] rfl)
      · have hw := hw.2 hc
        refine lv_iload_n hx hb dX1_has_40 rfl (lv_at hl 2 rfl) ?_
        refine lv_goto (tgt := 45) hx hb dX1_has_41 (by decide) ?_
        exact hJ45 _ H locs ls hw hP hS (lv_sub hl [1, 0] rfl)
  · intro J34 hJ34 hw
    refine jn_walk hw (fun J33 => ∀  (H : Heap) (locs : List Loc) (ls : Array Slot), J33 → va_P D vwCl [(q0, .inr (1, [u0, .ref q1])), (q1, .inl (ci, 19, .inl zwinners))] H → va_S A s.heap H locs → lv_has ls 7 [(1, .int a1), (2, .int a2), (3, .int a3)] → W p l e R s m args below meth c H locs 0 0 Q (F0 m 33 ls [])) ?_ ?_
    · intro  H locs ls hw hP hS hl
      have hD : va_D A [(q0, .inr (1, [u0, .ref q1])), (q1, .inl (ci, 19, .inl zwinners))] := gD_re hD rfl
      refine lv_iconst (v := (2 : Int32)) hx hb dX1_has_33 (by decide) ?_
      exact hJ34 _ H locs ls hw hP hS (lv_sub hl [0, 1, 2] rfl)
    · intro J33 hJ33 hw
      refine lv_if_lt (tgt := 33) hx hb dX1_has_10 (by decide) (fun hc => ?_) (fun hc => ?_)
      · have hw := hw.1 hc
        exact hJ33  H locs ls hw hP hS (lv_sub hl [2, 3, 4] rfl)
      · have hw := hw.2 hc
        refine lv_iload hx hb dX1_has_13 (lv_at hl 0 rfl) ?_
        refine lv_aload_n hx hb dX1_has_15 rfl (lv_at hl 1 rfl) ?_
        refine va_get (D := D) (ci := 1) (v := .ref q1) (C := RX1) (T := TX1) (N := 2) hx hb ht in_X1 hown hK.1 hP 0 rfl rfl 1 (by decide) (ht _ mF_X1_18) (fun _ h9 => h9) rfl dX1_has_16 ?_
        refine va_alen (D := D) (v := (19 : Int32)) hx hb hK.1 hP 1 0 rfl rfl rfl dX1_has_19 ?_
        refine lv_icmp_ge (tgt := 33) hx hb dX1_has_20 (by decide) (fun hc => ?_) (fun hc => ?_)
        · have hw := hw.1 hc
          exact hJ33  H locs ls hw hP hS (lv_sub hl [2, 3, 4] rfl)
        · have hw := hw.2 hc
          refine lv_aload_n hx hb dX1_has_23 rfl (lv_at hl 1 rfl) ?_
          refine va_get (D := D) (ci := 1) (v := .ref q1) (C := RX1) (T := TX1) (N := 2) hx hb ht in_X1 hown hK.1 hP 0 rfl rfl 1 (by decide) (ht _ mF_X1_18) (fun _ h9 => h9) rfl dX1_has_24 ?_
          refine lv_iload hx hb dX1_has_27 (lv_at hl 0 rfl) ?_
          obtain ⟨hin, hw⟩ := hw
          refine va_iald (D := D) hx hb hK.1 hP 1 0 rfl rfl hin dX1_has_29 ?_
          refine lv_goto (tgt := 34) hx hb dX1_has_30 (by decide) ?_
          exact hJ34 _ H locs ls hw hP hS (lv_sub hl [2, 3, 4] rfl)

def wp_X1_bothRest (zwinners : Nat → Int32) (a1 : Int32) (a2 : Int32) (post : Int32 → Prop) : Prop :=
  wp_X1_has zwinners (0 : Int32) a1 a2 (fun (r_1 : Int32) => wp_X1_has zwinners (1 : Int32) a1 a2 (fun (r_2 : Int32) => lo (fun _ => False) (fun (G20 : Int32 → Prop) (x5_3 : Int32) => (((9 : Int32) < x5_3 → post (1 : Int32) ) ∧ (¬ (9 : Int32) < x5_3 → wp_X1_has zwinners (0 : Int32) x5_3 a2 (fun (r_4 : Int32) => ((r_1 < r_4 → post (0 : Int32) ) ∧ (¬ r_1 < r_4 → wp_X1_has zwinners (1 : Int32) a1 x5_3 (fun (r_5 : Int32) => ((r_5 ≤ r_2 → G20 (x5_3 + (1 : Int32))) ∧ (¬ r_5 ≤ r_2 → post (0 : Int32) ))))))))) (fun G20 => G20 (0 : Int32))))
set_option maxHeartbeats 4000000 in
set_option maxRecDepth 100000 in
theorem c_X1_bothRest (l : Launch) (D : va_G) (ci cz : ClassId) (tr : List (ClassId × FieldType)) (q0 q1 : Nat) (sz : Nat) (u0 : Value) (zwinners : Nat → Int32) (a1 : Int32) (a2 : Int32) (post : Int32 → Prop) (hw : wp_X1_bothRest zwinners a1 a2 post) : gM l yX1_bothRest cX1_bothRest 6 (some .boolean) 1 26 D ci cz tr [(q0, .inr (1, [u0, .ref q1])), (q1, .inl (ci, 19, .inl zwinners))] sz [.ref q0, .int a1, .int a2] (gQi D [(q0, .inr (1, [u0, .ref q1])), (q1, .inl (ci, 19, .inl zwinners))] sz (fun (r : Int32) w => w = [(q0, .inr (1, [u0, .ref q1])), (q1, .inl (ci, 19, .inl zwinners))] ∧ post r )) := by
  refine gmet_z RX1 (by decide +kernel) rfl (Nat.le_of_ble_eq_true rfl) ?_
  intro p e s m args below meth c A R Q C hfr hlc hP hD hret ls hl
  obtain ⟨hx, hb, hml, hown, ht, hK, hZ, hA⟩ := C
  have hl : lv_has ls 6 [(0, .ref q0), (1, .int a1), (2, .int a2)] := hl
  unfold wp_X1_bothRest at hw
  refine g_in (fun H locs => W p l e R s m args below meth c H locs 0 0 Q (F0 m 0 ls [])) (fun H locs hS0 hP => ?_) hP (va_S.rf (A := A) (H0 := s.heap))
  have hS : va_S A s.heap H locs := hS0
  clear hS0
  refine lv_aload_n hx hb dX1_bothRest_0 rfl (lv_at hl 0 rfl) ?_
  refine lv_iconst (v := (0 : Int32)) hx hb dX1_bothRest_1 (by decide) ?_
  refine lv_iload_n hx hb dX1_bothRest_2 rfl (lv_at hl 1 rfl) ?_
  refine lv_iload_n hx hb dX1_bothRest_3 rfl (lv_at hl 2 rfl) ?_
  refine gcalli (va_runV (As := [.int (0 : Int32), .int a1, .int a2]) (rest := []) ⟨hx, hb, hml, hown, ht⟩ (c_X1_has l D ci cz tr q0 q1 H.size u0 zwinners (0 : Int32) a1 a2 _ hw) (cwV 3 ht (gi_V mM_X1_30 mI_X1_has mS_X1_has mN_X1 mC_X1_has) rfl rfl rfl (by decide +kernel) ⟨Nat.le_trans (Nat.le_of_ble_eq_true rfl) hfr, Nat.le_trans (Nat.le_of_ble_eq_true rfl) hlc⟩) (gpreV (wc := [(q0, .inr (1, [u0, .ref q1])), (q1, .inl (ci, 19, .inl zwinners))]) (k := 1) (q0 := 0) hK hZ hP hD hS hA [0, 1] rfl rfl rfl rfl rfl) rfl rfl hl.1 rfl (lv_room (Nat.le_of_ble_eq_true rfl)) dX1_bothRest_4 ⟨Nat.zero_le _, Nat.zero_le _⟩) hD hS hA [0, 1] rfl (fun r_1 w9 H locs hw hP9 hk9 hS => ?_)
  obtain ⟨rfl, hw⟩ := hw
  have hP : va_P D vwCl [(q0, .inr (1, [u0, .ref q1])), (q1, .inl (ci, 19, .inl zwinners))] H := gjoin3 hP hD [0, 1] hP9 hk9 rfl rfl [some 0, some 1] rfl rfl
  clear hP9 hk9
  refine lv_istore_n (lv' := [(3, .int r_1), (0, .ref q0), (1, .int a1), (2, .int a2)]) hx hb dX1_bothRest_7 rfl hl (by decide) rfl (fun ls hl => ?_)
  refine lv_aload_n hx hb dX1_bothRest_8 rfl (lv_at hl 1 rfl) ?_
  refine lv_iconst (v := (1 : Int32)) hx hb dX1_bothRest_9 (by decide) ?_
  refine lv_iload_n hx hb dX1_bothRest_10 rfl (lv_at hl 2 rfl) ?_
  refine lv_iload_n hx hb dX1_bothRest_11 rfl (lv_at hl 3 rfl) ?_
  refine gcalli (va_runV (As := [.int (1 : Int32), .int a1, .int a2]) (rest := []) ⟨hx, hb, hml, hown, ht⟩ (c_X1_has l D ci cz tr q0 q1 H.size u0 zwinners (1 : Int32) a1 a2 _ hw) (cwV 3 ht (gi_V mM_X1_30 mI_X1_has mS_X1_has mN_X1 mC_X1_has) rfl rfl rfl (by decide +kernel) ⟨Nat.le_trans (Nat.le_of_ble_eq_true rfl) hfr, Nat.le_trans (Nat.le_of_ble_eq_true rfl) hlc⟩) (gpreV (wc := [(q0, .inr (1, [u0, .ref q1])), (q1, .inl (ci, 19, .inl zwinners))]) (k := 1) (q0 := 0) hK hZ hP hD hS hA [0, 1] rfl rfl rfl rfl rfl) rfl rfl hl.1 rfl (lv_room (Nat.le_of_ble_eq_true rfl)) dX1_bothRest_12 ⟨Nat.zero_le _, Nat.zero_le _⟩) hD hS hA [0, 1] rfl (fun r_2 w9 H locs hw hP9 hk9 hS => ?_)
  obtain ⟨rfl, hw⟩ := hw
  have hP : va_P D vwCl [(q0, .inr (1, [u0, .ref q1])), (q1, .inl (ci, 19, .inl zwinners))] H := gjoin3 hP hD [0, 1] hP9 hk9 rfl rfl [some 0, some 1] rfl rfl
  clear hP9 hk9
  refine lv_istore (lv' := [(4, .int r_2), (3, .int r_1), (0, .ref q0), (1, .int a1), (2, .int a2)]) hx hb dX1_bothRest_15 hl (by decide) rfl (fun ls hl => ?_)
  refine lv_iconst (v := (0 : Int32)) hx hb dX1_bothRest_17 (by decide) ?_
  refine lv_istore (lv' := [(5, .int (0 : Int32)), (4, .int r_2), (3, .int r_1), (0, .ref q0), (1, .int a1), (2, .int a2)]) hx hb dX1_bothRest_18 hl (by decide) rfl (fun ls hl => ?_)
  refine lo_walk hw (fun G20 => ∀ (x5_3 : Int32) (H : Heap) (locs : List Loc) (ls : Array Slot), G20 x5_3 → va_P D vwCl [(q0, .inr (1, [u0, .ref q1])), (q1, .inl (ci, 19, .inl zwinners))] H → va_S A s.heap H locs → lv_has ls 6 [(0, .ref q0), (1, .int a1), (2, .int a2), (3, .int r_1), (4, .int r_2), (5, .int x5_3)] → W p l e R s m args below meth c H locs 0 0 Q (F0 m 20 ls [])) (fun _ _ _ _ hw _ _ _ => False.elim hw) (fun G20 hG20 x5_3 H locs ls hw hP hS hl => ?_) (fun G20 hG20 hw => hG20 _ H locs ls hw hP hS (lv_sub hl [3, 4, 5, 2, 1, 0] rfl))
  have hD : va_D A [(q0, .inr (1, [u0, .ref q1])), (q1, .inl (ci, 19, .inl zwinners))] := gD_re hD rfl
  refine lv_iload hx hb dX1_bothRest_20 (lv_at hl 5 rfl) ?_
  refine lv_bipush (v := (9 : Int32)) hx hb dX1_bothRest_22 (by decide) ?_
  refine lv_icmp_gt (tgt := 60) hx hb dX1_bothRest_24 (by decide) (fun hc => ?_) (fun hc => ?_)
  · have hw := hw.1 hc
    refine lv_iconst (v := (1 : Int32)) hx hb dX1_bothRest_60 (by decide) ?_
    exact hret _ _ H locs _ _ (by decide) ⟨rfl, hw⟩ hP hS dX1_bothRest_61
  · have hw := hw.2 hc
    refine lv_aload_n hx hb dX1_bothRest_27 rfl (lv_at hl 0 rfl) ?_
    refine lv_iconst (v := (0 : Int32)) hx hb dX1_bothRest_28 (by decide) ?_
    refine lv_iload hx hb dX1_bothRest_29 (lv_at hl 5 rfl) ?_
    refine lv_iload_n hx hb dX1_bothRest_31 rfl (lv_at hl 2 rfl) ?_
    refine gcalli (va_runV (As := [.int (0 : Int32), .int x5_3, .int a2]) (rest := []) ⟨hx, hb, hml, hown, ht⟩ (c_X1_has l D ci cz tr q0 q1 H.size u0 zwinners (0 : Int32) x5_3 a2 _ hw) (cwV 3 ht (gi_V mM_X1_30 mI_X1_has mS_X1_has mN_X1 mC_X1_has) rfl rfl rfl (by decide +kernel) ⟨Nat.le_trans (Nat.le_of_ble_eq_true rfl) hfr, Nat.le_trans (Nat.le_of_ble_eq_true rfl) hlc⟩) (gpreV (wc := [(q0, .inr (1, [u0, .ref q1])), (q1, .inl (ci, 19, .inl zwinners))]) (k := 1) (q0 := 0) hK hZ hP hD hS hA [0, 1] rfl rfl rfl rfl rfl) rfl rfl hl.1 rfl (lv_room (Nat.le_of_ble_eq_true rfl)) dX1_bothRest_32 ⟨Nat.zero_le _, Nat.zero_le _⟩) hD hS hA [0, 1] rfl (fun r_4 w9 H locs hw hP9 hk9 hS => ?_)
    obtain ⟨rfl, hw⟩ := hw
    have hP : va_P D vwCl [(q0, .inr (1, [u0, .ref q1])), (q1, .inl (ci, 19, .inl zwinners))] H := gjoin3 hP hD [0, 1] hP9 hk9 rfl rfl [some 0, some 1] rfl rfl
    clear hP9 hk9
    refine lv_iload_n hx hb dX1_bothRest_35 rfl (lv_at hl 3 rfl) ?_
    refine lv_icmp_gt (tgt := 52) hx hb dX1_bothRest_36 (by decide) (fun hc => ?_) (fun hc => ?_)
    · have hw := hw.1 hc
      refine lv_iconst (v := (0 : Int32)) hx hb dX1_bothRest_52 (by decide) ?_
      exact hret _ _ H locs _ _ (by decide) ⟨rfl, hw⟩ hP hS dX1_bothRest_53
    · have hw := hw.2 hc
      refine lv_aload_n hx hb dX1_bothRest_39 rfl (lv_at hl 0 rfl) ?_
      refine lv_iconst (v := (1 : Int32)) hx hb dX1_bothRest_40 (by decide) ?_
      refine lv_iload_n hx hb dX1_bothRest_41 rfl (lv_at hl 1 rfl) ?_
      refine lv_iload hx hb dX1_bothRest_42 (lv_at hl 5 rfl) ?_
      refine gcalli (va_runV (As := [.int (1 : Int32), .int a1, .int x5_3]) (rest := []) ⟨hx, hb, hml, hown, ht⟩ (c_X1_has l D ci cz tr q0 q1 H.size u0 zwinners (1 : Int32) a1 x5_3 _ hw) (cwV 3 ht (gi_V mM_X1_30 mI_X1_has mS_X1_has mN_X1 mC_X1_has) rfl rfl rfl (by decide +kernel) ⟨Nat.le_trans (Nat.le_of_ble_eq_true rfl) hfr, Nat.le_trans (Nat.le_of_ble_eq_true rfl) hlc⟩) (gpreV (wc := [(q0, .inr (1, [u0, .ref q1])), (q1, .inl (ci, 19, .inl zwinners))]) (k := 1) (q0 := 0) hK hZ hP hD hS hA [0, 1] rfl rfl rfl rfl rfl) rfl rfl hl.1 rfl (lv_room (Nat.le_of_ble_eq_true rfl)) dX1_bothRest_44 ⟨Nat.zero_le _, Nat.zero_le _⟩) hD hS hA [0, 1] rfl (fun r_5 w9 H locs hw hP9 hk9 hS => ?_)
      obtain ⟨rfl, hw⟩ := hw
      have hP : va_P D vwCl [(q0, .inr (1, [u0, .ref q1])), (q1, .inl (ci, 19, .inl zwinners))] H := gjoin3 hP hD [0, 1] hP9 hk9 rfl rfl [some 0, some 1] rfl rfl
      clear hP9 hk9
      refine lv_iload hx hb dX1_bothRest_47 (lv_at hl 4 rfl) ?_
      refine lv_icmp_le (tgt := 54) hx hb dX1_bothRest_49 (by decide) (fun hc => ?_) (fun hc => ?_)
      · have hw := hw.1 hc
        refine lv_iinc (v := (x5_3 + (1 : Int32))) (lv' := [(5, .int (x5_3 + (1 : Int32))), (0, .ref q0), (1, .int a1), (2, .int a2), (3, .int r_1), (4, .int r_2)]) hx hb dX1_bothRest_54 hl (k := 5) rfl rfl (by decide) rfl (fun ls hl => ?_)
        refine lv_goto (tgt := 20) hx hb dX1_bothRest_57 (by decide) ?_
        exact hG20 _ H locs ls hw hP hS (lv_sub hl [1, 2, 3, 4, 5, 0] rfl)
      · have hw := hw.2 hc
        refine lv_iconst (v := (0 : Int32)) hx hb dX1_bothRest_52 (by decide) ?_
        exact hret _ _ H locs _ _ (by decide) ⟨rfl, hw⟩ hP hS dX1_bothRest_53

def wp_X11_rests (zparish_roll_dogs : Int32) (zparish_roll_halves : Nat → Int32) (zparish_roll_likings : Nat → Int32) (zparish_roll_fears : Nat → Int32) (zbargain_ballot_left : Int32) (zbargain_ballot_right : Int32) (zbargain_ballot_leftDogs : Int32) (zbargain_ballot_rightDogs : Int32) (zbargain_winners : Nat → Int32) (a1 : Int32) (post : Int32 → Int32 → Int32 → Int32 → Int32 → (Nat → Int32) → Prop) : Prop :=
  (((-1 : Int32) ≤ a1 → wp_X1_learn zbargain_ballot_left zbargain_ballot_right zbargain_ballot_leftDogs zbargain_ballot_rightDogs zbargain_winners zparish_roll_dogs zparish_roll_halves zparish_roll_likings zparish_roll_fears (fun (zbargain_ballot_left_2 : Int32) (zbargain_ballot_right_3 : Int32) (zbargain_ballot_leftDogs_4 : Int32) (zbargain_ballot_rightDogs_5 : Int32) (zbargain_winners_6 : Nat → Int32) => jn (fun (x2_7 : Int32) => ((¬ a1 = (-1 : Int32) → post (-6 : Int32) zbargain_ballot_left_2 zbargain_ballot_right_3 zbargain_ballot_leftDogs_4 zbargain_ballot_rightDogs_5 zbargain_winners_6) ∧ (a1 = (-1 : Int32) → post x2_7 zbargain_ballot_left_2 zbargain_ballot_right_3 zbargain_ballot_leftDogs_4 zbargain_ballot_rightDogs_5 zbargain_winners_6))) (fun (J66 : Int32 → Prop) => lo (fun _ _ => False) (fun (G26 : Int32 → Int32 → Prop) (x2_8 : Int32) (x3_9 : Int32) => (((100 : Int32) ≤ x3_9 → J66 x2_8) ∧ (¬ (100 : Int32) ≤ x3_9 → wp_X1_bothRest zbargain_winners_6 (x3_9 / (10 : Int32)) (x3_9 - x3_9 / (10 : Int32) * (10 : Int32)) (fun (r_10 : Int32) => ((r_10 = 0 → G26 x2_8 (x3_9 + (1 : Int32))) ∧ (¬ r_10 = 0 → ((¬ x2_8 = a1 → G26 (x2_8 + (1 : Int32)) (x3_9 + (1 : Int32))) ∧ (x2_8 = a1 → post x3_9 zbargain_ballot_left_2 zbargain_ballot_right_3 zbargain_ballot_leftDogs_4 zbargain_ballot_rightDogs_5 zbargain_winners_6)))))))) (fun G26 => G26 (0 : Int32) (0 : Int32))))) ∧ (¬ (-1 : Int32) ≤ a1 → post (-6 : Int32) zbargain_ballot_left zbargain_ballot_right zbargain_ballot_leftDogs zbargain_ballot_rightDogs zbargain_winners))
set_option maxHeartbeats 4000000 in
set_option maxRecDepth 100000 in
theorem c_X11_rests (l : Launch) (D : va_G) (ci cz : ClassId) (tr : List (ClassId × FieldType)) (q0 q1 q2 q3 q4 q5 q6 q7 q8 : Nat) (sz : Nat) (u0 u1 u2 u3 u4 u5 u6 u7 u8 u9 u10 u11 : Value) (zparish_roll_dogs : Int32) (zparish_roll_halves : Nat → Int32) (zparish_roll_likings : Nat → Int32) (zparish_roll_fears : Nat → Int32) (zbargain_ballot_left : Int32) (zbargain_ballot_right : Int32) (zbargain_ballot_leftDogs : Int32) (zbargain_ballot_rightDogs : Int32) (zbargain_winners : Nat → Int32) (a1 : Int32) (post : Int32 → Int32 → Int32 → Int32 → Int32 → (Nat → Int32) → Prop) (hw : wp_X11_rests zparish_roll_dogs zparish_roll_halves zparish_roll_likings zparish_roll_fears zbargain_ballot_left zbargain_ballot_right zbargain_ballot_leftDogs zbargain_ballot_rightDogs zbargain_winners a1 post) : gM l yX11_rests cX11_rests 4 (some .int) 4 95 D ci cz tr [(q0, .inr (10, [u0, .ref q1, u1, u2, u3, .ref q6, u4, u5, u6])), (q1, .inr (7, [.ref q2, u7, u8, u9])), (q2, .inr (8, [.int zparish_roll_dogs, u10, .ref q3, .ref q4, .ref q5, u11])), (q3, .inl (ci, 7, .inl zparish_roll_halves)), (q4, .inl (ci, 7, .inl zparish_roll_likings)), (q5, .inl (ci, 7, .inl zparish_roll_fears)), (q6, .inr (1, [.ref q7, .ref q8])), (q7, .inr (0, [.int zbargain_ballot_left, .int zbargain_ballot_right, .int zbargain_ballot_leftDogs, .int zbargain_ballot_rightDogs])), (q8, .inl (ci, 19, .inl zbargain_winners))] sz [.ref q0, .int a1] (gQi D [(q0, .inr (10, [u0, .ref q1, u1, u2, u3, .ref q6, u4, u5, u6])), (q1, .inr (7, [.ref q2, u7, u8, u9])), (q2, .inr (8, [.int zparish_roll_dogs, u10, .ref q3, .ref q4, .ref q5, u11])), (q3, .inl (ci, 7, .inl zparish_roll_halves)), (q4, .inl (ci, 7, .inl zparish_roll_likings)), (q5, .inl (ci, 7, .inl zparish_roll_fears)), (q6, .inr (1, [.ref q7, .ref q8])), (q7, .inr (0, [.int zbargain_ballot_left, .int zbargain_ballot_right, .int zbargain_ballot_leftDogs, .int zbargain_ballot_rightDogs])), (q8, .inl (ci, 19, .inl zbargain_winners))] sz (fun (r : Int32) w => ∃ (o_zbargain_ballot_left : Int32) (o_zbargain_ballot_right : Int32) (o_zbargain_ballot_leftDogs : Int32) (o_zbargain_ballot_rightDogs : Int32) (o_zbargain_winners : Nat → Int32), w = [(q0, .inr (10, [u0, .ref q1, u1, u2, u3, .ref q6, u4, u5, u6])), (q1, .inr (7, [.ref q2, u7, u8, u9])), (q2, .inr (8, [.int zparish_roll_dogs, u10, .ref q3, .ref q4, .ref q5, u11])), (q3, .inl (ci, 7, .inl zparish_roll_halves)), (q4, .inl (ci, 7, .inl zparish_roll_likings)), (q5, .inl (ci, 7, .inl zparish_roll_fears)), (q6, .inr (1, [.ref q7, .ref q8])), (q7, .inr (0, [.int o_zbargain_ballot_left, .int o_zbargain_ballot_right, .int o_zbargain_ballot_leftDogs, .int o_zbargain_ballot_rightDogs])), (q8, .inl (ci, 19, .inl o_zbargain_winners))] ∧ post r o_zbargain_ballot_left o_zbargain_ballot_right o_zbargain_ballot_leftDogs o_zbargain_ballot_rightDogs o_zbargain_winners)) := by
  refine gmet_i RX11 (by decide +kernel) rfl (Nat.le_of_ble_eq_true rfl) ?_
  intro p e s m args below meth c A R Q C hfr hlc hP hD hret ls hl
  obtain ⟨hx, hb, hml, hown, ht, hK, hZ, hA⟩ := C
  have hl : lv_has ls 4 [(0, .ref q0), (1, .int a1)] := hl
  unfold wp_X11_rests at hw
  refine g_in (fun H locs => W p l e R s m args below meth c H locs 0 0 Q (F0 m 0 ls [])) (fun H locs hS0 hP => ?_) hP (va_S.rf (A := A) (H0 := s.heap))
  have hS : va_S A s.heap H locs := hS0
  clear hS0
  refine lv_iload_n hx hb dX11_rests_0 rfl (lv_at hl 1 rfl) ?_
  refine lv_iconst (v := (-1 : Int32)) hx hb dX11_rests_1 (by decide) ?_
  refine lv_icmp_ge (tgt := 8) hx hb dX11_rests_2 (by decide) (fun hc => ?_) (fun hc => ?_)
  · have hw := hw.1 hc
    refine lv_aload_n hx hb dX11_rests_8 rfl (lv_at hl 0 rfl) ?_
    refine va_get (D := D) (ci := 10) (v := .ref q6) (C := RX11) (T := TX11) (N := 9) hx hb ht in_X11 hown hK.1 hP 0 rfl rfl 5 (by decide) (ht _ mF_X11_37) (fun _ h9 => h9) rfl dX11_rests_9 ?_
    refine lv_aload_n hx hb dX11_rests_12 rfl (lv_at hl 0 rfl) ?_
    refine va_get (D := D) (ci := 10) (v := .ref q1) (C := RX11) (T := TX11) (N := 9) hx hb ht in_X11 hown hK.1 hP 0 rfl rfl 1 (by decide) (ht _ mF_X11_19) (fun _ h9 => h9) rfl dX11_rests_13 ?_
    refine va_get (D := D) (ci := 7) (v := .ref q2) (C := RX8) (T := TX8) (N := 4) hx hb ht in_X8 hown hK.1 hP 1 rfl rfl 0 (by decide) (ht _ mF_X11_74) (fun _ h9 => h9) rfl dX11_rests_16 ?_
    refine gcallv (va_runV (As := [.ref q2]) (rest := []) ⟨hx, hb, hml, hown, ht⟩ (c_X1_learn l D ci cz tr q6 q7 q8 q2 q3 q4 q5 H.size u10 u11 zbargain_ballot_left zbargain_ballot_right zbargain_ballot_leftDogs zbargain_ballot_rightDogs zbargain_winners zparish_roll_dogs zparish_roll_halves zparish_roll_likings zparish_roll_fears _ hw) (cwV 1 ht (gi_V mM_X11_152 mI_X1_learn mS_X1_learn mN_X1 mC_X1_learn) rfl rfl rfl (by decide +kernel) ⟨Nat.le_trans (Nat.le_of_ble_eq_true rfl) hfr, Nat.le_trans (Nat.le_of_ble_eq_true rfl) hlc⟩) (gpreV (wc := [(q6, .inr (1, [.ref q7, .ref q8])), (q7, .inr (0, [.int zbargain_ballot_left, .int zbargain_ballot_right, .int zbargain_ballot_leftDogs, .int zbargain_ballot_rightDogs])), (q8, .inl (ci, 19, .inl zbargain_winners)), (q2, .inr (8, [.int zparish_roll_dogs, u10, .ref q3, .ref q4, .ref q5, u11])), (q3, .inl (ci, 7, .inl zparish_roll_halves)), (q4, .inl (ci, 7, .inl zparish_roll_likings)), (q5, .inl (ci, 7, .inl zparish_roll_fears))]) (k := 1) (q0 := 6) hK hZ hP hD hS hA [6, 7, 8, 2, 3, 4, 5] rfl rfl rfl rfl rfl) rfl rfl hl.1 rfl (lv_room (Nat.le_of_ble_eq_true rfl)) dX11_rests_19 ⟨Nat.zero_le _, Nat.zero_le _⟩) hD hS hA [6, 7, 8, 2, 3, 4, 5] rfl (fun w9 H locs hw hP9 hk9 hS => ?_)
    obtain ⟨zbargain_ballot_left_2, zbargain_ballot_right_3, zbargain_ballot_leftDogs_4, zbargain_ballot_rightDogs_5, zbargain_winners_6, rfl, hw⟩ := hw
    have hP : va_P D vwCl [(q0, .inr (10, [u0, .ref q1, u1, u2, u3, .ref q6, u4, u5, u6])), (q1, .inr (7, [.ref q2, u7, u8, u9])), (q2, .inr (8, [.int zparish_roll_dogs, u10, .ref q3, .ref q4, .ref q5, u11])), (q3, .inl (ci, 7, .inl zparish_roll_halves)), (q4, .inl (ci, 7, .inl zparish_roll_likings)), (q5, .inl (ci, 7, .inl zparish_roll_fears)), (q6, .inr (1, [.ref q7, .ref q8])), (q7, .inr (0, [.int zbargain_ballot_left_2, .int zbargain_ballot_right_3, .int zbargain_ballot_leftDogs_4, .int zbargain_ballot_rightDogs_5])), (q8, .inl (ci, 19, .inl zbargain_winners_6))] H := gjoin3 hP hD [6, 7, 8, 2, 3, 4, 5] hP9 hk9 rfl rfl [none, none, some 3, some 4, some 5, some 6, some 0, some 1, some 2] rfl rfl
    have hD : va_D A [(q0, .inr (10, [u0, .ref q1, u1, u2, u3, .ref q6, u4, u5, u6])), (q1, .inr (7, [.ref q2, u7, u8, u9])), (q2, .inr (8, [.int zparish_roll_dogs, u10, .ref q3, .ref q4, .ref q5, u11])), (q3, .inl (ci, 7, .inl zparish_roll_halves)), (q4, .inl (ci, 7, .inl zparish_roll_likings)), (q5, .inl (ci, 7, .inl zparish_roll_fears)), (q6, .inr (1, [.ref q7, .ref q8])), (q7, .inr (0, [.int zbargain_ballot_left_2, .int zbargain_ballot_right_3, .int zbargain_ballot_leftDogs_4, .int zbargain_ballot_rightDogs_5])), (q8, .inl (ci, 19, .inl zbargain_winners_6))] := gD_re hD rfl
    clear hP9 hk9
    refine lv_iconst (v := (0 : Int32)) hx hb dX11_rests_22 (by decide) ?_
    refine lv_istore_n (lv' := [(2, .int (0 : Int32)), (0, .ref q0), (1, .int a1)]) hx hb dX11_rests_23 rfl hl (by decide) rfl (fun ls hl => ?_)
    refine lv_iconst (v := (0 : Int32)) hx hb dX11_rests_24 (by decide) ?_
    refine lv_istore_n (lv' := [(3, .int (0 : Int32)), (2, .int (0 : Int32)), (0, .ref q0), (1, .int a1)]) hx hb dX11_rests_25 rfl hl (by decide) rfl (fun ls hl => ?_)
    refine jn_walk hw (fun J66 => ∀ (x2_7 : Int32) (H : Heap) (locs : List Loc) (ls : Array Slot), J66 x2_7 → va_P D vwCl [(q0, .inr (10, [u0, .ref q1, u1, u2, u3, .ref q6, u4, u5, u6])), (q1, .inr (7, [.ref q2, u7, u8, u9])), (q2, .inr (8, [.int zparish_roll_dogs, u10, .ref q3, .ref q4, .ref q5, u11])), (q3, .inl (ci, 7, .inl zparish_roll_halves)), (q4, .inl (ci, 7, .inl zparish_roll_likings)), (q5, .inl (ci, 7, .inl zparish_roll_fears)), (q6, .inr (1, [.ref q7, .ref q8])), (q7, .inr (0, [.int zbargain_ballot_left_2, .int zbargain_ballot_right_3, .int zbargain_ballot_leftDogs_4, .int zbargain_ballot_rightDogs_5])), (q8, .inl (ci, 19, .inl zbargain_winners_6))] H → va_S A s.heap H locs → lv_has ls 4 [(1, .int a1), (2, .int x2_7)] → W p l e R s m args below meth c H locs 0 0 Q (F0 m 66 ls [])) ?_ ?_
    · intro x2_7 H locs ls hw hP hS hl
      have hD : va_D A [(q0, .inr (10, [u0, .ref q1, u1, u2, u3, .ref q6, u4, u5, u6])), (q1, .inr (7, [.ref q2, u7, u8, u9])), (q2, .inr (8, [.int zparish_roll_dogs, u10, .ref q3, .ref q4, .ref q5, u11])), (q3, .inl (ci, 7, .inl zparish_roll_halves)), (q4, .inl (ci, 7, .inl zparish_roll_likings)), (q5, .inl (ci, 7, .inl zparish_roll_fears)), (q6, .inr (1, [.ref q7, .ref q8])), (q7, .inr (0, [.int zbargain_ballot_left_2, .int zbargain_ballot_right_3, .int zbargain_ballot_leftDogs_4, .int zbargain_ballot_rightDogs_5])), (q8, .inl (ci, 19, .inl zbargain_winners_6))] := gD_re hD rfl
      refine lv_iload_n hx hb dX11_rests_66 rfl (lv_at hl 0 rfl) ?_
      refine lv_iconst (v := (-1 : Int32)) hx hb dX11_rests_67 (by decide) ?_
      refine lv_icmp_ne (tgt := 75) hx hb dX11_rests_68 (by decide) (fun hc => ?_) (fun hc => ?_)
      · have hw := hw.1 hc
        refine lv_bipush (v := (-6 : Int32)) hx hb dX11_rests_75 (by decide) ?_
        exact hret _ _ H locs _ _ ⟨_, _, _, _, _, rfl, hw⟩ hP hS dX11_rests_77
      · have hw := hw.2 hc
        refine lv_iload_n hx hb dX11_rests_71 rfl (lv_at hl 1 rfl) ?_
        refine lv_goto (tgt := 77) hx hb dX11_rests_72 (by decide) ?_
        exact hret _ _ H locs _ _ ⟨_, _, _, _, _, rfl, hw⟩ hP hS dX11_rests_77
    · intro J66 hJ66 hw
      refine lo_walk hw (fun G26 => ∀ (x2_8 : Int32) (x3_9 : Int32) (H : Heap) (locs : List Loc) (ls : Array Slot), G26 x2_8 x3_9 → va_P D vwCl [(q0, .inr (10, [u0, .ref q1, u1, u2, u3, .ref q6, u4, u5, u6])), (q1, .inr (7, [.ref q2, u7, u8, u9])), (q2, .inr (8, [.int zparish_roll_dogs, u10, .ref q3, .ref q4, .ref q5, u11])), (q3, .inl (ci, 7, .inl zparish_roll_halves)), (q4, .inl (ci, 7, .inl zparish_roll_likings)), (q5, .inl (ci, 7, .inl zparish_roll_fears)), (q6, .inr (1, [.ref q7, .ref q8])), (q7, .inr (0, [.int zbargain_ballot_left_2, .int zbargain_ballot_right_3, .int zbargain_ballot_leftDogs_4, .int zbargain_ballot_rightDogs_5])), (q8, .inl (ci, 19, .inl zbargain_winners_6))] H → va_S A s.heap H locs → lv_has ls 4 [(0, .ref q0), (1, .int a1), (2, .int x2_8), (3, .int x3_9)] → W p l e R s m args below meth c H locs 0 0 Q (F0 m 26 ls [])) (fun _ _ _ _ _ hw _ _ _ => False.elim hw) (fun G26 hG26 x2_8 x3_9 H locs ls hw hP hS hl => ?_) (fun G26 hG26 hw => hG26 _ _ H locs ls hw hP hS (lv_sub hl [2, 3, 1, 0] rfl))
      have hD : va_D A [(q0, .inr (10, [u0, .ref q1, u1, u2, u3, .ref q6, u4, u5, u6])), (q1, .inr (7, [.ref q2, u7, u8, u9])), (q2, .inr (8, [.int zparish_roll_dogs, u10, .ref q3, .ref q4, .ref q5, u11])), (q3, .inl (ci, 7, .inl zparish_roll_halves)), (q4, .inl (ci, 7, .inl zparish_roll_likings)), (q5, .inl (ci, 7, .inl zparish_roll_fears)), (q6, .inr (1, [.ref q7, .ref q8])), (q7, .inr (0, [.int zbargain_ballot_left_2, .int zbargain_ballot_right_3, .int zbargain_ballot_leftDogs_4, .int zbargain_ballot_rightDogs_5])), (q8, .inl (ci, 19, .inl zbargain_winners_6))] := gD_re hD rfl
      refine lv_iload_n hx hb dX11_rests_26 rfl (lv_at hl 3 rfl) ?_
      refine lv_bipush (v := (100 : Int32)) hx hb dX11_rests_27 (by decide) ?_
      refine lv_icmp_ge (tgt := 66) hx hb dX11_rests_29 (by decide) (fun hc => ?_) (fun hc => ?_)
      · have hw := hw.1 hc
        exact hJ66 _ H locs ls hw hP hS (lv_sub hl [1, 2] rfl)
      · have hw := hw.2 hc
        refine lv_aload_n hx hb dX11_rests_32 rfl (lv_at hl 0 rfl) ?_
        refine va_get (D := D) (ci := 10) (v := .ref q6) (C := RX11) (T := TX11) (N := 9) hx hb ht in_X11 hown hK.1 hP 0 rfl rfl 5 (by decide) (ht _ mF_X11_37) (fun _ h9 => h9) rfl dX11_rests_33 ?_
        refine lv_iload_n hx hb dX11_rests_36 rfl (lv_at hl 3 rfl) ?_
        refine lv_bipush (v := (10 : Int32)) hx hb dX11_rests_37 (by decide) ?_
        refine lv_idiv hx hb dX11_rests_39 (by decide) ?_
        refine lv_iload_n hx hb dX11_rests_40 rfl (lv_at hl 3 rfl) ?_
        refine lv_bipush (v := (10 : Int32)) hx hb dX11_rests_41 (by decide) ?_
        refine lv_irem hx hb dX11_rests_43 (by decide) ?_
        refine gcalli (va_runV (As := [.int (x3_9 / (10 : Int32)), .int (x3_9 - x3_9 / (10 : Int32) * (10 : Int32))]) (rest := []) ⟨hx, hb, hml, hown, ht⟩ (c_X1_bothRest l D ci cz tr q6 q8 H.size (.ref q7) zbargain_winners_6 (x3_9 / (10 : Int32)) (x3_9 - x3_9 / (10 : Int32) * (10 : Int32)) _ hw) (cwV 2 ht (gi_V mM_X11_155 mI_X1_bothRest mS_X1_bothRest mN_X1 mC_X1_bothRest) rfl rfl rfl (by decide +kernel) ⟨Nat.le_trans (Nat.le_of_ble_eq_true rfl) hfr, Nat.le_trans (Nat.le_of_ble_eq_true rfl) hlc⟩) (gpreV (wc := [(q6, .inr (1, [.ref q7, .ref q8])), (q8, .inl (ci, 19, .inl zbargain_winners_6))]) (k := 1) (q0 := 6) hK hZ hP hD hS hA [6, 8] rfl rfl rfl rfl rfl) rfl rfl hl.1 rfl (lv_room (Nat.le_of_ble_eq_true rfl)) dX11_rests_44 ⟨Nat.zero_le _, Nat.zero_le _⟩) hD hS hA [6, 8] rfl (fun r_10 w9 H locs hw hP9 hk9 hS => ?_)
        obtain ⟨rfl, hw⟩ := hw
        have hP : va_P D vwCl [(q0, .inr (10, [u0, .ref q1, u1, u2, u3, .ref q6, u4, u5, u6])), (q1, .inr (7, [.ref q2, u7, u8, u9])), (q2, .inr (8, [.int zparish_roll_dogs, u10, .ref q3, .ref q4, .ref q5, u11])), (q3, .inl (ci, 7, .inl zparish_roll_halves)), (q4, .inl (ci, 7, .inl zparish_roll_likings)), (q5, .inl (ci, 7, .inl zparish_roll_fears)), (q6, .inr (1, [.ref q7, .ref q8])), (q7, .inr (0, [.int zbargain_ballot_left_2, .int zbargain_ballot_right_3, .int zbargain_ballot_leftDogs_4, .int zbargain_ballot_rightDogs_5])), (q8, .inl (ci, 19, .inl zbargain_winners_6))] H := gjoin3 hP hD [6, 8] hP9 hk9 rfl rfl [none, none, none, none, none, none, some 0, none, some 1] rfl rfl
        clear hP9 hk9
        refine lv_if_eq (tgt := 60) hx hb dX11_rests_47 (by decide) (fun hc => ?_) (fun hc => ?_)
        · have hw := hw.1 hc
          refine lv_iinc (v := (x3_9 + (1 : Int32))) (lv' := [(3, .int (x3_9 + (1 : Int32))), (0, .ref q0), (1, .int a1), (2, .int x2_8)]) hx hb dX11_rests_60 hl (k := 3) rfl rfl (by decide) rfl (fun ls hl => ?_)
          refine lv_goto (tgt := 26) hx hb dX11_rests_63 (by decide) ?_
          exact hG26 _ _ H locs ls hw hP hS (lv_sub hl [1, 2, 3, 0] rfl)
        · have hw := hw.2 hc
          refine lv_iload_n hx hb dX11_rests_50 rfl (lv_at hl 2 rfl) ?_
          refine lv_iload_n hx hb dX11_rests_51 rfl (lv_at hl 1 rfl) ?_
          refine lv_icmp_ne (tgt := 57) hx hb dX11_rests_52 (by decide) (fun hc => ?_) (fun hc => ?_)
          · have hw := hw.1 hc
            refine lv_iinc (v := (x2_8 + (1 : Int32))) (lv' := [(2, .int (x2_8 + (1 : Int32))), (0, .ref q0), (1, .int a1), (3, .int x3_9)]) hx hb dX11_rests_57 hl (k := 2) rfl rfl (by decide) rfl (fun ls hl => ?_)
            refine lv_iinc (v := (x3_9 + (1 : Int32))) (lv' := [(3, .int (x3_9 + (1 : Int32))), (2, .int (x2_8 + (1 : Int32))), (0, .ref q0), (1, .int a1)]) hx hb dX11_rests_60 hl (k := 3) rfl rfl (by decide) rfl (fun ls hl => ?_)
            refine lv_goto (tgt := 26) hx hb dX11_rests_63 (by decide) ?_
            exact hG26 _ _ H locs ls hw hP hS (lv_sub hl [2, 3, 1, 0] rfl)
          · have hw := hw.2 hc
            refine lv_iload_n hx hb dX11_rests_55 rfl (lv_at hl 3 rfl) ?_
            exact hret _ _ H locs _ _ ⟨_, _, _, _, _, rfl, hw⟩ hP hS dX11_rests_56
  · have hw := hw.2 hc
    refine lv_bipush (v := (-6 : Int32)) hx hb dX11_rests_5 (by decide) ?_
    exact hret _ _ H locs _ _ ⟨_, _, _, _, _, rfl, hw⟩ hP hS dX11_rests_7

def wp_X11_roll (zpad_size : Int32) (zpad_expected : Int32) (zpad_isLess : Int32) (zpad_lastFeared : Int32) (zpad_signs : Nat → Int32) (zpad_draft_dogs : Int32) (zpad_draft_untold : Int32) (zpad_draft_halves : Nat → Int32) (zpad_draft_likings : Nat → Int32) (zpad_draft_fears : Nat → Int32) (zpad_draft_heirs : Nat → Int32) (zparish_roll_dogs : Int32) (zparish_roll_untold : Int32) (zparish_roll_halves : Nat → Int32) (zparish_roll_likings : Nat → Int32) (zparish_roll_fears : Nat → Int32) (zparish_roll_heirs : Nat → Int32) (zparish_counts_size : Int32) (zgate_known : Int32) (zguesses_known : Int32) (zevenings_known : Int32)  (post : Int32 → Int32 → Int32 → Int32 → Int32 → Int32 → Int32 → (Nat → Int32) → (Nat → Int32) → (Nat → Int32) → (Nat → Int32) → Int32 → Int32 → (Nat → Int32) → (Nat → Int32) → (Nat → Int32) → (Nat → Int32) → Int32 → Int32 → Int32 → Int32 → Prop) : Prop :=
  wp_X7_firstFault zpad_size zpad_expected zpad_isLess zpad_lastFeared zpad_signs zpad_draft_dogs zpad_draft_untold zpad_draft_halves zpad_draft_likings zpad_draft_fears zpad_draft_heirs (fun (r_1 : Int32) (zpad_expected_2 : Int32) (zpad_isLess_3 : Int32) (zpad_lastFeared_4 : Int32) (zpad_draft_dogs_5 : Int32) (zpad_draft_untold_6 : Int32) (zpad_draft_halves_7 : Nat → Int32) (zpad_draft_likings_8 : Nat → Int32) (zpad_draft_fears_9 : Nat → Int32) (zpad_draft_heirs_10 : Nat → Int32) => ((r_1 = (-6 : Int32) → wp_X9_copyFrom zparish_roll_dogs zparish_roll_untold zparish_roll_halves zparish_roll_likings zparish_roll_fears zparish_roll_heirs zpad_draft_dogs_5 zpad_draft_untold_6 zpad_draft_halves_7 zpad_draft_likings_8 zpad_draft_fears_9 zpad_draft_heirs_10 (fun (zparish_roll_dogs_12 : Int32) (zparish_roll_untold_13 : Int32) (zparish_roll_halves_14 : Nat → Int32) (zparish_roll_likings_15 : Nat → Int32) (zparish_roll_fears_16 : Nat → Int32) (zparish_roll_heirs_17 : Nat → Int32) => wp_X11_changed zgate_known zguesses_known zevenings_known (fun (zgate_known_19 : Int32) (zguesses_known_20 : Int32) (zevenings_known_21 : Int32) => post zparish_roll_dogs_12 (0 : Int32) zpad_expected_2 zpad_isLess_3 zpad_lastFeared_4 zpad_draft_dogs_5 zpad_draft_untold_6 zpad_draft_halves_7 zpad_draft_likings_8 zpad_draft_fears_9 zpad_draft_heirs_10 zparish_roll_dogs_12 zparish_roll_untold_13 zparish_roll_halves_14 zparish_roll_likings_15 zparish_roll_fears_16 zparish_roll_heirs_17 (0 : Int32) zgate_known_19 zguesses_known_20 zevenings_known_21))) ∧ (¬ r_1 = (-6 : Int32) → post (-5 : Int32) zpad_size zpad_expected_2 zpad_isLess_3 zpad_lastFeared_4 zpad_draft_dogs_5 zpad_draft_untold_6 zpad_draft_halves_7 zpad_draft_likings_8 zpad_draft_fears_9 zpad_draft_heirs_10 zparish_roll_dogs zparish_roll_untold zparish_roll_halves zparish_roll_likings zparish_roll_fears zparish_roll_heirs zparish_counts_size zgate_known zguesses_known zevenings_known)))
set_option maxHeartbeats 4000000 in
set_option maxRecDepth 100000 in
theorem c_X11_roll (l : Launch) (D : va_G) (ci cz : ClassId) (tr : List (ClassId × FieldType)) (q0 q1 q2 q3 q4 q5 q6 q7 q8 q9 q10 q11 q12 q13 q14 q15 q16 q17 : Nat) (sz : Nat) (u0 u1 u2 u3 u4 u5 u6 u7 u8 u9 u10 u11 u12 u13 u14 u15 u16 u17 u18 u19 u20 u21 u22 u23 u24 u25 u26 u27 : Value) (zpad_size : Int32) (zpad_expected : Int32) (zpad_isLess : Int32) (zpad_lastFeared : Int32) (zpad_signs : Nat → Int32) (zpad_draft_dogs : Int32) (zpad_draft_untold : Int32) (zpad_draft_halves : Nat → Int32) (zpad_draft_likings : Nat → Int32) (zpad_draft_fears : Nat → Int32) (zpad_draft_heirs : Nat → Int32) (zparish_roll_dogs : Int32) (zparish_roll_untold : Int32) (zparish_roll_halves : Nat → Int32) (zparish_roll_likings : Nat → Int32) (zparish_roll_fears : Nat → Int32) (zparish_roll_heirs : Nat → Int32) (zparish_counts_size : Int32) (zgate_known : Int32) (zguesses_known : Int32) (zevenings_known : Int32)  (post : Int32 → Int32 → Int32 → Int32 → Int32 → Int32 → Int32 → (Nat → Int32) → (Nat → Int32) → (Nat → Int32) → (Nat → Int32) → Int32 → Int32 → (Nat → Int32) → (Nat → Int32) → (Nat → Int32) → (Nat → Int32) → Int32 → Int32 → Int32 → Int32 → Prop) (hw : wp_X11_roll zpad_size zpad_expected zpad_isLess zpad_lastFeared zpad_signs zpad_draft_dogs zpad_draft_untold zpad_draft_halves zpad_draft_likings zpad_draft_fears zpad_draft_heirs zparish_roll_dogs zparish_roll_untold zparish_roll_halves zparish_roll_likings zparish_roll_fears zparish_roll_heirs zparish_counts_size zgate_known zguesses_known zevenings_known post) : gM l yX11_roll cX11_roll 1 (some .int) 4 83 D ci cz tr [(q0, .inr (10, [.ref q1, .ref q8, u0, u1, u2, u3, .ref q15, .ref q16, .ref q17])), (q1, .inr (6, [.ref q2, .int zpad_size, .ref q3, .int zpad_expected, .int zpad_isLess, .int zpad_lastFeared])), (q2, .inl (ci, 60, .inl zpad_signs)), (q3, .inr (8, [.int zpad_draft_dogs, .int zpad_draft_untold, .ref q4, .ref q5, .ref q6, .ref q7])), (q4, .inl (ci, 7, .inl zpad_draft_halves)), (q5, .inl (ci, 7, .inl zpad_draft_likings)), (q6, .inl (ci, 7, .inl zpad_draft_fears)), (q7, .inl (ci, 7, .inl zpad_draft_heirs)), (q8, .inr (7, [.ref q9, .ref q14, u4, u5])), (q9, .inr (8, [.int zparish_roll_dogs, .int zparish_roll_untold, .ref q10, .ref q11, .ref q12, .ref q13])), (q10, .inl (ci, 7, .inl zparish_roll_halves)), (q11, .inl (ci, 7, .inl zparish_roll_likings)), (q12, .inl (ci, 7, .inl zparish_roll_fears)), (q13, .inl (ci, 7, .inl zparish_roll_heirs)), (q14, .inr (9, [.int zparish_counts_size, u6, u7, u8])), (q15, .inr (3, [.int zgate_known, u9, u10, u11, u12, u13])), (q16, .inr (4, [.int zguesses_known, u14, u15, u16, u17, u18, u19, u20, u21])), (q17, .inr (2, [.int zevenings_known, u22, u23, u24, u25, u26, u27]))] sz [.ref q0] (gQi D [(q0, .inr (10, [.ref q1, .ref q8, u0, u1, u2, u3, .ref q15, .ref q16, .ref q17])), (q1, .inr (6, [.ref q2, .int zpad_size, .ref q3, .int zpad_expected, .int zpad_isLess, .int zpad_lastFeared])), (q2, .inl (ci, 60, .inl zpad_signs)), (q3, .inr (8, [.int zpad_draft_dogs, .int zpad_draft_untold, .ref q4, .ref q5, .ref q6, .ref q7])), (q4, .inl (ci, 7, .inl zpad_draft_halves)), (q5, .inl (ci, 7, .inl zpad_draft_likings)), (q6, .inl (ci, 7, .inl zpad_draft_fears)), (q7, .inl (ci, 7, .inl zpad_draft_heirs)), (q8, .inr (7, [.ref q9, .ref q14, u4, u5])), (q9, .inr (8, [.int zparish_roll_dogs, .int zparish_roll_untold, .ref q10, .ref q11, .ref q12, .ref q13])), (q10, .inl (ci, 7, .inl zparish_roll_halves)), (q11, .inl (ci, 7, .inl zparish_roll_likings)), (q12, .inl (ci, 7, .inl zparish_roll_fears)), (q13, .inl (ci, 7, .inl zparish_roll_heirs)), (q14, .inr (9, [.int zparish_counts_size, u6, u7, u8])), (q15, .inr (3, [.int zgate_known, u9, u10, u11, u12, u13])), (q16, .inr (4, [.int zguesses_known, u14, u15, u16, u17, u18, u19, u20, u21])), (q17, .inr (2, [.int zevenings_known, u22, u23, u24, u25, u26, u27]))] sz (fun (r : Int32) w => ∃ (o_zpad_size : Int32) (o_zpad_expected : Int32) (o_zpad_isLess : Int32) (o_zpad_lastFeared : Int32) (o_zpad_draft_dogs : Int32) (o_zpad_draft_untold : Int32) (o_zpad_draft_halves : Nat → Int32) (o_zpad_draft_likings : Nat → Int32) (o_zpad_draft_fears : Nat → Int32) (o_zpad_draft_heirs : Nat → Int32) (o_zparish_roll_dogs : Int32) (o_zparish_roll_untold : Int32) (o_zparish_roll_halves : Nat → Int32) (o_zparish_roll_likings : Nat → Int32) (o_zparish_roll_fears : Nat → Int32) (o_zparish_roll_heirs : Nat → Int32) (o_zparish_counts_size : Int32) (o_zgate_known : Int32) (o_zguesses_known : Int32) (o_zevenings_known : Int32), w = [(q0, .inr (10, [.ref q1, .ref q8, u0, u1, u2, u3, .ref q15, .ref q16, .ref q17])), (q1, .inr (6, [.ref q2, .int o_zpad_size, .ref q3, .int o_zpad_expected, .int o_zpad_isLess, .int o_zpad_lastFeared])), (q2, .inl (ci, 60, .inl zpad_signs)), (q3, .inr (8, [.int o_zpad_draft_dogs, .int o_zpad_draft_untold, .ref q4, .ref q5, .ref q6, .ref q7])), (q4, .inl (ci, 7, .inl o_zpad_draft_halves)), (q5, .inl (ci, 7, .inl o_zpad_draft_likings)), (q6, .inl (ci, 7, .inl o_zpad_draft_fears)), (q7, .inl (ci, 7, .inl o_zpad_draft_heirs)), (q8, .inr (7, [.ref q9, .ref q14, u4, u5])), (q9, .inr (8, [.int o_zparish_roll_dogs, .int o_zparish_roll_untold, .ref q10, .ref q11, .ref q12, .ref q13])), (q10, .inl (ci, 7, .inl o_zparish_roll_halves)), (q11, .inl (ci, 7, .inl o_zparish_roll_likings)), (q12, .inl (ci, 7, .inl o_zparish_roll_fears)), (q13, .inl (ci, 7, .inl o_zparish_roll_heirs)), (q14, .inr (9, [.int o_zparish_counts_size, u6, u7, u8])), (q15, .inr (3, [.int o_zgate_known, u9, u10, u11, u12, u13])), (q16, .inr (4, [.int o_zguesses_known, u14, u15, u16, u17, u18, u19, u20, u21])), (q17, .inr (2, [.int o_zevenings_known, u22, u23, u24, u25, u26, u27]))] ∧ post r o_zpad_size o_zpad_expected o_zpad_isLess o_zpad_lastFeared o_zpad_draft_dogs o_zpad_draft_untold o_zpad_draft_halves o_zpad_draft_likings o_zpad_draft_fears o_zpad_draft_heirs o_zparish_roll_dogs o_zparish_roll_untold o_zparish_roll_halves o_zparish_roll_likings o_zparish_roll_fears o_zparish_roll_heirs o_zparish_counts_size o_zgate_known o_zguesses_known o_zevenings_known)) := by
  refine gmet_i RX11 (by decide +kernel) rfl (Nat.le_of_ble_eq_true rfl) ?_
  intro p e s m args below meth c A R Q C hfr hlc hP hD hret ls hl
  obtain ⟨hx, hb, hml, hown, ht, hK, hZ, hA⟩ := C
  have hl : lv_has ls 1 [(0, .ref q0)] := hl
  unfold wp_X11_roll at hw
  refine g_in (fun H locs => W p l e R s m args below meth c H locs 0 0 Q (F0 m 0 ls [])) (fun H locs hS0 hP => ?_) hP (va_S.rf (A := A) (H0 := s.heap))
  have hS : va_S A s.heap H locs := hS0
  clear hS0
  refine lv_aload_n hx hb dX11_roll_0 rfl (lv_at hl 0 rfl) ?_
  refine va_get (D := D) (ci := 10) (v := .ref q1) (C := RX11) (T := TX11) (N := 9) hx hb ht in_X11 hown hK.1 hP 0 rfl rfl 0 (by decide) (ht _ mF_X11_12) (fun _ h9 => h9) rfl dX11_roll_1 ?_
  refine gcalli (va_runV (As := []) (rest := []) ⟨hx, hb, hml, hown, ht⟩ (c_X7_firstFault l D ci cz tr q1 q2 q3 q4 q5 q6 q7 H.size zpad_size zpad_expected zpad_isLess zpad_lastFeared zpad_signs zpad_draft_dogs zpad_draft_untold zpad_draft_halves zpad_draft_likings zpad_draft_fears zpad_draft_heirs _ hw) (cwV 0 ht (gi_V mM_X11_70 mI_X7_firstFault mS_X7_firstFault mN_X7 mC_X7_firstFault) rfl rfl rfl (by decide +kernel) ⟨Nat.le_trans (Nat.le_of_ble_eq_true rfl) hfr, Nat.le_trans (Nat.le_of_ble_eq_true rfl) hlc⟩) (gpreV (wc := [(q1, .inr (6, [.ref q2, .int zpad_size, .ref q3, .int zpad_expected, .int zpad_isLess, .int zpad_lastFeared])), (q2, .inl (ci, 60, .inl zpad_signs)), (q3, .inr (8, [.int zpad_draft_dogs, .int zpad_draft_untold, .ref q4, .ref q5, .ref q6, .ref q7])), (q4, .inl (ci, 7, .inl zpad_draft_halves)), (q5, .inl (ci, 7, .inl zpad_draft_likings)), (q6, .inl (ci, 7, .inl zpad_draft_fears)), (q7, .inl (ci, 7, .inl zpad_draft_heirs))]) (k := 6) (q0 := 1) hK hZ hP hD hS hA [1, 2, 3, 4, 5, 6, 7] rfl rfl rfl rfl rfl) rfl rfl hl.1 rfl (lv_room (Nat.le_of_ble_eq_true rfl)) dX11_roll_4 ⟨Nat.zero_le _, Nat.zero_le _⟩) hD hS hA [1, 2, 3, 4, 5, 6, 7] rfl (fun r_1 w9 H locs hw hP9 hk9 hS => ?_)
  obtain ⟨zpad_expected_2, zpad_isLess_3, zpad_lastFeared_4, zpad_draft_dogs_5, zpad_draft_untold_6, zpad_draft_halves_7, zpad_draft_likings_8, zpad_draft_fears_9, zpad_draft_heirs_10, rfl, hw⟩ := hw
  have hP : va_P D vwCl [(q0, .inr (10, [.ref q1, .ref q8, u0, u1, u2, u3, .ref q15, .ref q16, .ref q17])), (q1, .inr (6, [.ref q2, .int zpad_size, .ref q3, .int zpad_expected_2, .int zpad_isLess_3, .int zpad_lastFeared_4])), (q2, .inl (ci, 60, .inl zpad_signs)), (q3, .inr (8, [.int zpad_draft_dogs_5, .int zpad_draft_untold_6, .ref q4, .ref q5, .ref q6, .ref q7])), (q4, .inl (ci, 7, .inl zpad_draft_halves_7)), (q5, .inl (ci, 7, .inl zpad_draft_likings_8)), (q6, .inl (ci, 7, .inl zpad_draft_fears_9)), (q7, .inl (ci, 7, .inl zpad_draft_heirs_10)), (q8, .inr (7, [.ref q9, .ref q14, u4, u5])), (q9, .inr (8, [.int zparish_roll_dogs, .int zparish_roll_untold, .ref q10, .ref q11, .ref q12, .ref q13])), (q10, .inl (ci, 7, .inl zparish_roll_halves)), (q11, .inl (ci, 7, .inl zparish_roll_likings)), (q12, .inl (ci, 7, .inl zparish_roll_fears)), (q13, .inl (ci, 7, .inl zparish_roll_heirs)), (q14, .inr (9, [.int zparish_counts_size, u6, u7, u8])), (q15, .inr (3, [.int zgate_known, u9, u10, u11, u12, u13])), (q16, .inr (4, [.int zguesses_known, u14, u15, u16, u17, u18, u19, u20, u21])), (q17, .inr (2, [.int zevenings_known, u22, u23, u24, u25, u26, u27]))] H := gjoin3 hP hD [1, 2, 3, 4, 5, 6, 7] hP9 hk9 rfl rfl [none, some 0, some 1, some 2, some 3, some 4, some 5, some 6, none, none, none, none, none, none, none, none, none, none] rfl rfl
  have hD : va_D A [(q0, .inr (10, [.ref q1, .ref q8, u0, u1, u2, u3, .ref q15, .ref q16, .ref q17])), (q1, .inr (6, [.ref q2, .int zpad_size, .ref q3, .int zpad_expected_2, .int zpad_isLess_3, .int zpad_lastFeared_4])), (q2, .inl (ci, 60, .inl zpad_signs)), (q3, .inr (8, [.int zpad_draft_dogs_5, .int zpad_draft_untold_6, .ref q4, .ref q5, .ref q6, .ref q7])), (q4, .inl (ci, 7, .inl zpad_draft_halves_7)), (q5, .inl (ci, 7, .inl zpad_draft_likings_8)), (q6, .inl (ci, 7, .inl zpad_draft_fears_9)), (q7, .inl (ci, 7, .inl zpad_draft_heirs_10)), (q8, .inr (7, [.ref q9, .ref q14, u4, u5])), (q9, .inr (8, [.int zparish_roll_dogs, .int zparish_roll_untold, .ref q10, .ref q11, .ref q12, .ref q13])), (q10, .inl (ci, 7, .inl zparish_roll_halves)), (q11, .inl (ci, 7, .inl zparish_roll_likings)), (q12, .inl (ci, 7, .inl zparish_roll_fears)), (q13, .inl (ci, 7, .inl zparish_roll_heirs)), (q14, .inr (9, [.int zparish_counts_size, u6, u7, u8])), (q15, .inr (3, [.int zgate_known, u9, u10, u11, u12, u13])), (q16, .inr (4, [.int zguesses_known, u14, u15, u16, u17, u18, u19, u20, u21])), (q17, .inr (2, [.int zevenings_known, u22, u23, u24, u25, u26, u27]))] := gD_re hD rfl
  clear hP9 hk9
  refine lv_bipush (v := (-6 : Int32)) hx hb dX11_roll_7 (by decide) ?_
  refine lv_icmp_eq (tgt := 15) hx hb dX11_roll_9 (by decide) (fun hc => ?_) (fun hc => ?_)
  · have hw := hw.1 hc
    refine lv_aload_n hx hb dX11_roll_15 rfl (lv_at hl 0 rfl) ?_
    refine va_get (D := D) (ci := 10) (v := .ref q8) (C := RX11) (T := TX11) (N := 9) hx hb ht in_X11 hown hK.1 hP 0 rfl rfl 1 (by decide) (ht _ mF_X11_19) (fun _ h9 => h9) rfl dX11_roll_16 ?_
    refine va_get (D := D) (ci := 7) (v := .ref q9) (C := RX8) (T := TX8) (N := 4) hx hb ht in_X8 hown hK.1 hP 8 rfl rfl 0 (by decide) (ht _ mF_X11_74) (fun _ h9 => h9) rfl dX11_roll_19 ?_
    refine lv_aload_n hx hb dX11_roll_22 rfl (lv_at hl 0 rfl) ?_
    refine va_get (D := D) (ci := 10) (v := .ref q1) (C := RX11) (T := TX11) (N := 9) hx hb ht in_X11 hown hK.1 hP 0 rfl rfl 0 (by decide) (ht _ mF_X11_12) (fun _ h9 => h9) rfl dX11_roll_23 ?_
    refine va_get (D := D) (ci := 6) (v := .ref q3) (C := RX7) (T := TX7) (N := 6) hx hb ht in_X7 hown hK.1 hP 1 rfl rfl 2 (by decide) (ht _ mF_X11_78) (fun _ h9 => h9) rfl dX11_roll_26 ?_
    refine gcallv (va_runV (As := [.ref q3]) (rest := []) ⟨hx, hb, hml, hown, ht⟩ (c_X9_copyFrom l D ci cz tr q9 q10 q11 q12 q13 q3 q4 q5 q6 q7 H.size zparish_roll_dogs zparish_roll_untold zparish_roll_halves zparish_roll_likings zparish_roll_fears zparish_roll_heirs zpad_draft_dogs_5 zpad_draft_untold_6 zpad_draft_halves_7 zpad_draft_likings_8 zpad_draft_fears_9 zpad_draft_heirs_10 _ hw) (cwV 1 ht (gi_V mM_X11_81 mI_X9_copyFrom mS_X9_copyFrom mN_X9 mC_X9_copyFrom) rfl rfl rfl (by decide +kernel) ⟨Nat.le_trans (Nat.le_of_ble_eq_true rfl) hfr, Nat.le_trans (Nat.le_of_ble_eq_true rfl) hlc⟩) (gpreV (wc := [(q9, .inr (8, [.int zparish_roll_dogs, .int zparish_roll_untold, .ref q10, .ref q11, .ref q12, .ref q13])), (q10, .inl (ci, 7, .inl zparish_roll_halves)), (q11, .inl (ci, 7, .inl zparish_roll_likings)), (q12, .inl (ci, 7, .inl zparish_roll_fears)), (q13, .inl (ci, 7, .inl zparish_roll_heirs)), (q3, .inr (8, [.int zpad_draft_dogs_5, .int zpad_draft_untold_6, .ref q4, .ref q5, .ref q6, .ref q7])), (q4, .inl (ci, 7, .inl zpad_draft_halves_7)), (q5, .inl (ci, 7, .inl zpad_draft_likings_8)), (q6, .inl (ci, 7, .inl zpad_draft_fears_9)), (q7, .inl (ci, 7, .inl zpad_draft_heirs_10))]) (k := 8) (q0 := 9) hK hZ hP hD hS hA [9, 10, 11, 12, 13, 3, 4, 5, 6, 7] rfl rfl rfl rfl rfl) rfl rfl hl.1 rfl (lv_room (Nat.le_of_ble_eq_true rfl)) dX11_roll_29 ⟨Nat.zero_le _, Nat.zero_le _⟩) hD hS hA [9, 10, 11, 12, 13, 3, 4, 5, 6, 7] rfl (fun w9 H locs hw hP9 hk9 hS => ?_)
    obtain ⟨zparish_roll_dogs_12, zparish_roll_untold_13, zparish_roll_halves_14, zparish_roll_likings_15, zparish_roll_fears_16, zparish_roll_heirs_17, rfl, hw⟩ := hw
    have hP : va_P D vwCl [(q0, .inr (10, [.ref q1, .ref q8, u0, u1, u2, u3, .ref q15, .ref q16, .ref q17])), (q1, .inr (6, [.ref q2, .int zpad_size, .ref q3, .int zpad_expected_2, .int zpad_isLess_3, .int zpad_lastFeared_4])), (q2, .inl (ci, 60, .inl zpad_signs)), (q3, .inr (8, [.int zpad_draft_dogs_5, .int zpad_draft_untold_6, .ref q4, .ref q5, .ref q6, .ref q7])), (q4, .inl (ci, 7, .inl zpad_draft_halves_7)), (q5, .inl (ci, 7, .inl zpad_draft_likings_8)), (q6, .inl (ci, 7, .inl zpad_draft_fears_9)), (q7, .inl (ci, 7, .inl zpad_draft_heirs_10)), (q8, .inr (7, [.ref q9, .ref q14, u4, u5])), (q9, .inr (8, [.int zparish_roll_dogs_12, .int zparish_roll_untold_13, .ref q10, .ref q11, .ref q12, .ref q13])), (q10, .inl (ci, 7, .inl zparish_roll_halves_14)), (q11, .inl (ci, 7, .inl zparish_roll_likings_15)), (q12, .inl (ci, 7, .inl zparish_roll_fears_16)), (q13, .inl (ci, 7, .inl zparish_roll_heirs_17)), (q14, .inr (9, [.int zparish_counts_size, u6, u7, u8])), (q15, .inr (3, [.int zgate_known, u9, u10, u11, u12, u13])), (q16, .inr (4, [.int zguesses_known, u14, u15, u16, u17, u18, u19, u20, u21])), (q17, .inr (2, [.int zevenings_known, u22, u23, u24, u25, u26, u27]))] H := gjoin3 hP hD [9, 10, 11, 12, 13, 3, 4, 5, 6, 7] hP9 hk9 rfl rfl [none, none, none, some 5, some 6, some 7, some 8, some 9, none, some 0, some 1, some 2, some 3, some 4, none, none, none, none] rfl rfl
    have hD : va_D A [(q0, .inr (10, [.ref q1, .ref q8, u0, u1, u2, u3, .ref q15, .ref q16, .ref q17])), (q1, .inr (6, [.ref q2, .int zpad_size, .ref q3, .int zpad_expected_2, .int zpad_isLess_3, .int zpad_lastFeared_4])), (q2, .inl (ci, 60, .inl zpad_signs)), (q3, .inr (8, [.int zpad_draft_dogs_5, .int zpad_draft_untold_6, .ref q4, .ref q5, .ref q6, .ref q7])), (q4, .inl (ci, 7, .inl zpad_draft_halves_7)), (q5, .inl (ci, 7, .inl zpad_draft_likings_8)), (q6, .inl (ci, 7, .inl zpad_draft_fears_9)), (q7, .inl (ci, 7, .inl zpad_draft_heirs_10)), (q8, .inr (7, [.ref q9, .ref q14, u4, u5])), (q9, .inr (8, [.int zparish_roll_dogs_12, .int zparish_roll_untold_13, .ref q10, .ref q11, .ref q12, .ref q13])), (q10, .inl (ci, 7, .inl zparish_roll_halves_14)), (q11, .inl (ci, 7, .inl zparish_roll_likings_15)), (q12, .inl (ci, 7, .inl zparish_roll_fears_16)), (q13, .inl (ci, 7, .inl zparish_roll_heirs_17)), (q14, .inr (9, [.int zparish_counts_size, u6, u7, u8])), (q15, .inr (3, [.int zgate_known, u9, u10, u11, u12, u13])), (q16, .inr (4, [.int zguesses_known, u14, u15, u16, u17, u18, u19, u20, u21])), (q17, .inr (2, [.int zevenings_known, u22, u23, u24, u25, u26, u27]))] := gD_re hD rfl
    clear hP9 hk9
    refine lv_aload_n hx hb dX11_roll_32 rfl (lv_at hl 0 rfl) ?_
    refine va_get (D := D) (ci := 10) (v := .ref q8) (C := RX11) (T := TX11) (N := 9) hx hb ht in_X11 hown hK.1 hP 0 rfl rfl 1 (by decide) (ht _ mF_X11_19) (fun _ h9 => h9) rfl dX11_roll_33 ?_
    refine va_get (D := D) (ci := 7) (v := .ref q14) (C := RX8) (T := TX8) (N := 4) hx hb ht in_X8 hown hK.1 hP 8 rfl rfl 1 (by decide) (ht _ mF_X11_87) (fun _ h9 => h9) rfl dX11_roll_36 ?_
    refine lv_iconst (v := (0 : Int32)) hx hb dX11_roll_39 (by decide) ?_
    refine va_put (D := D) (ci := 9) (v := .int (0 : Int32)) (ty := .int) (C := RX10) (T := TX10) (N := 4) hx hb ht in_X10 tyX10 tyX10_ok nmX10 hown hK.1 hP hD hS 14 rfl rfl 0 (by decide) (ht _ mF_X11_91) (fun _ h9 => h9) rfl (by decide +kernel) rfl rfl (Nat.le_of_ble_eq_true rfl) dX11_roll_40 (fun H locs hP hD hS => ?_)
    have hP : va_P D vwCl [(q0, .inr (10, [.ref q1, .ref q8, u0, u1, u2, u3, .ref q15, .ref q16, .ref q17])), (q1, .inr (6, [.ref q2, .int zpad_size, .ref q3, .int zpad_expected_2, .int zpad_isLess_3, .int zpad_lastFeared_4])), (q2, .inl (ci, 60, .inl zpad_signs)), (q3, .inr (8, [.int zpad_draft_dogs_5, .int zpad_draft_untold_6, .ref q4, .ref q5, .ref q6, .ref q7])), (q4, .inl (ci, 7, .inl zpad_draft_halves_7)), (q5, .inl (ci, 7, .inl zpad_draft_likings_8)), (q6, .inl (ci, 7, .inl zpad_draft_fears_9)), (q7, .inl (ci, 7, .inl zpad_draft_heirs_10)), (q8, .inr (7, [.ref q9, .ref q14, u4, u5])), (q9, .inr (8, [.int zparish_roll_dogs_12, .int zparish_roll_untold_13, .ref q10, .ref q11, .ref q12, .ref q13])), (q10, .inl (ci, 7, .inl zparish_roll_halves_14)), (q11, .inl (ci, 7, .inl zparish_roll_likings_15)), (q12, .inl (ci, 7, .inl zparish_roll_fears_16)), (q13, .inl (ci, 7, .inl zparish_roll_heirs_17)), (q14, .inr (9, [.int (0 : Int32), u6, u7, u8])), (q15, .inr (3, [.int zgate_known, u9, u10, u11, u12, u13])), (q16, .inr (4, [.int zguesses_known, u14, u15, u16, u17, u18, u19, u20, u21])), (q17, .inr (2, [.int zevenings_known, u22, u23, u24, u25, u26, u27]))] H := hP
    have hD : va_D A [(q0, .inr (10, [.ref q1, .ref q8, u0, u1, u2, u3, .ref q15, .ref q16, .ref q17])), (q1, .inr (6, [.ref q2, .int zpad_size, .ref q3, .int zpad_expected_2, .int zpad_isLess_3, .int zpad_lastFeared_4])), (q2, .inl (ci, 60, .inl zpad_signs)), (q3, .inr (8, [.int zpad_draft_dogs_5, .int zpad_draft_untold_6, .ref q4, .ref q5, .ref q6, .ref q7])), (q4, .inl (ci, 7, .inl zpad_draft_halves_7)), (q5, .inl (ci, 7, .inl zpad_draft_likings_8)), (q6, .inl (ci, 7, .inl zpad_draft_fears_9)), (q7, .inl (ci, 7, .inl zpad_draft_heirs_10)), (q8, .inr (7, [.ref q9, .ref q14, u4, u5])), (q9, .inr (8, [.int zparish_roll_dogs_12, .int zparish_roll_untold_13, .ref q10, .ref q11, .ref q12, .ref q13])), (q10, .inl (ci, 7, .inl zparish_roll_halves_14)), (q11, .inl (ci, 7, .inl zparish_roll_likings_15)), (q12, .inl (ci, 7, .inl zparish_roll_fears_16)), (q13, .inl (ci, 7, .inl zparish_roll_heirs_17)), (q14, .inr (9, [.int (0 : Int32), u6, u7, u8])), (q15, .inr (3, [.int zgate_known, u9, u10, u11, u12, u13])), (q16, .inr (4, [.int zguesses_known, u14, u15, u16, u17, u18, u19, u20, u21])), (q17, .inr (2, [.int zevenings_known, u22, u23, u24, u25, u26, u27]))] := hD
    refine lv_aload_n hx hb dX11_roll_43 rfl (lv_at hl 0 rfl) ?_
    refine va_get (D := D) (ci := 10) (v := .ref q1) (C := RX11) (T := TX11) (N := 9) hx hb ht in_X11 hown hK.1 hP 0 rfl rfl 0 (by decide) (ht _ mF_X11_12) (fun _ h9 => h9) rfl dX11_roll_44 ?_
    refine lv_iconst (v := (0 : Int32)) hx hb dX11_roll_47 (by decide) ?_
    refine va_put (D := D) (ci := 6) (v := .int (0 : Int32)) (ty := .int) (C := RX7) (T := TX7) (N := 6) hx hb ht in_X7 tyX7 tyX7_ok nmX7 hown hK.1 hP hD hS 1 rfl rfl 1 (by decide) (ht _ mF_X11_66) (fun _ h9 => h9) rfl (by decide +kernel) rfl rfl (Nat.le_of_ble_eq_true rfl) dX11_roll_48 (fun H locs hP hD hS => ?_)
    have hP : va_P D vwCl [(q0, .inr (10, [.ref q1, .ref q8, u0, u1, u2, u3, .ref q15, .ref q16, .ref q17])), (q1, .inr (6, [.ref q2, .int (0 : Int32), .ref q3, .int zpad_expected_2, .int zpad_isLess_3, .int zpad_lastFeared_4])), (q2, .inl (ci, 60, .inl zpad_signs)), (q3, .inr (8, [.int zpad_draft_dogs_5, .int zpad_draft_untold_6, .ref q4, .ref q5, .ref q6, .ref q7])), (q4, .inl (ci, 7, .inl zpad_draft_halves_7)), (q5, .inl (ci, 7, .inl zpad_draft_likings_8)), (q6, .inl (ci, 7, .inl zpad_draft_fears_9)), (q7, .inl (ci, 7, .inl zpad_draft_heirs_10)), (q8, .inr (7, [.ref q9, .ref q14, u4, u5])), (q9, .inr (8, [.int zparish_roll_dogs_12, .int zparish_roll_untold_13, .ref q10, .ref q11, .ref q12, .ref q13])), (q10, .inl (ci, 7, .inl zparish_roll_halves_14)), (q11, .inl (ci, 7, .inl zparish_roll_likings_15)), (q12, .inl (ci, 7, .inl zparish_roll_fears_16)), (q13, .inl (ci, 7, .inl zparish_roll_heirs_17)), (q14, .inr (9, [.int (0 : Int32), u6, u7, u8])), (q15, .inr (3, [.int zgate_known, u9, u10, u11, u12, u13])), (q16, .inr (4, [.int zguesses_known, u14, u15, u16, u17, u18, u19, u20, u21])), (q17, .inr (2, [.int zevenings_known, u22, u23, u24, u25, u26, u27]))] H := hP
    have hD : va_D A [(q0, .inr (10, [.ref q1, .ref q8, u0, u1, u2, u3, .ref q15, .ref q16, .ref q17])), (q1, .inr (6, [.ref q2, .int (0 : Int32), .ref q3, .int zpad_expected_2, .int zpad_isLess_3, .int zpad_lastFeared_4])), (q2, .inl (ci, 60, .inl zpad_signs)), (q3, .inr (8, [.int zpad_draft_dogs_5, .int zpad_draft_untold_6, .ref q4, .ref q5, .ref q6, .ref q7])), (q4, .inl (ci, 7, .inl zpad_draft_halves_7)), (q5, .inl (ci, 7, .inl zpad_draft_likings_8)), (q6, .inl (ci, 7, .inl zpad_draft_fears_9)), (q7, .inl (ci, 7, .inl zpad_draft_heirs_10)), (q8, .inr (7, [.ref q9, .ref q14, u4, u5])), (q9, .inr (8, [.int zparish_roll_dogs_12, .int zparish_roll_untold_13, .ref q10, .ref q11, .ref q12, .ref q13])), (q10, .inl (ci, 7, .inl zparish_roll_halves_14)), (q11, .inl (ci, 7, .inl zparish_roll_likings_15)), (q12, .inl (ci, 7, .inl zparish_roll_fears_16)), (q13, .inl (ci, 7, .inl zparish_roll_heirs_17)), (q14, .inr (9, [.int (0 : Int32), u6, u7, u8])), (q15, .inr (3, [.int zgate_known, u9, u10, u11, u12, u13])), (q16, .inr (4, [.int zguesses_known, u14, u15, u16, u17, u18, u19, u20, u21])), (q17, .inr (2, [.int zevenings_known, u22, u23, u24, u25, u26, u27]))] := hD
    refine lv_aload_n hx hb dX11_roll_51 rfl (lv_at hl 0 rfl) ?_
    refine gcallv (va_runV (As := []) (rest := []) ⟨hx, hb, hml, hown, ht⟩ (c_X11_changed l D ci cz tr q0 q15 q16 q17 H.size (.ref q1) (.ref q8) u0 u1 u2 u3 u9 u10 u11 u12 u13 u14 u15 u16 u17 u18 u19 u20 u21 u22 u23 u24 u25 u26 u27 zgate_known zguesses_known zevenings_known _ hw) (cwV 0 ht (gi_V mM_X11_94 mI_X11_changed mS_X11_changed mN_X11 mC_X11_changed) rfl rfl rfl (by decide +kernel) ⟨Nat.le_trans (Nat.le_of_ble_eq_true rfl) hfr, Nat.le_trans (Nat.le_of_ble_eq_true rfl) hlc⟩) (gpreV (wc := [(q0, .inr (10, [.ref q1, .ref q8, u0, u1, u2, u3, .ref q15, .ref q16, .ref q17])), (q15, .inr (3, [.int zgate_known, u9, u10, u11, u12, u13])), (q16, .inr (4, [.int zguesses_known, u14, u15, u16, u17, u18, u19, u20, u21])), (q17, .inr (2, [.int zevenings_known, u22, u23, u24, u25, u26, u27]))]) (k := 10) (q0 := 0) hK hZ hP hD hS hA [0, 15, 16, 17] rfl rfl rfl rfl rfl) rfl rfl hl.1 rfl (lv_room (Nat.le_of_ble_eq_true rfl)) dX11_roll_52 ⟨Nat.zero_le _, Nat.zero_le _⟩) hD hS hA [0, 15, 16, 17] rfl (fun w9 H locs hw hP9 hk9 hS => ?_)
    obtain ⟨zgate_known_19, zguesses_known_20, zevenings_known_21, rfl, hw⟩ := hw
    have hP : va_P D vwCl [(q0, .inr (10, [.ref q1, .ref q8, u0, u1, u2, u3, .ref q15, .ref q16, .ref q17])), (q1, .inr (6, [.ref q2, .int (0 : Int32), .ref q3, .int zpad_expected_2, .int zpad_isLess_3, .int zpad_lastFeared_4])), (q2, .inl (ci, 60, .inl zpad_signs)), (q3, .inr (8, [.int zpad_draft_dogs_5, .int zpad_draft_untold_6, .ref q4, .ref q5, .ref q6, .ref q7])), (q4, .inl (ci, 7, .inl zpad_draft_halves_7)), (q5, .inl (ci, 7, .inl zpad_draft_likings_8)), (q6, .inl (ci, 7, .inl zpad_draft_fears_9)), (q7, .inl (ci, 7, .inl zpad_draft_heirs_10)), (q8, .inr (7, [.ref q9, .ref q14, u4, u5])), (q9, .inr (8, [.int zparish_roll_dogs_12, .int zparish_roll_untold_13, .ref q10, .ref q11, .ref q12, .ref q13])), (q10, .inl (ci, 7, .inl zparish_roll_halves_14)), (q11, .inl (ci, 7, .inl zparish_roll_likings_15)), (q12, .inl (ci, 7, .inl zparish_roll_fears_16)), (q13, .inl (ci, 7, .inl zparish_roll_heirs_17)), (q14, .inr (9, [.int (0 : Int32), u6, u7, u8])), (q15, .inr (3, [.int zgate_known_19, u9, u10, u11, u12, u13])), (q16, .inr (4, [.int zguesses_known_20, u14, u15, u16, u17, u18, u19, u20, u21])), (q17, .inr (2, [.int zevenings_known_21, u22, u23, u24, u25, u26, u27]))] H := gjoin3 hP hD [0, 15, 16, 17] hP9 hk9 rfl rfl [some 0, none, none, none, none, none, none, none, none, none, none, none, none, none, none, some 1, some 2, some 3] rfl rfl
    have hD : va_D A [(q0, .inr (10, [.ref q1, .ref q8, u0, u1, u2, u3, .ref q15, .ref q16, .ref q17])), (q1, .inr (6, [.ref q2, .int (0 : Int32), .ref q3, .int zpad_expected_2, .int zpad_isLess_3, .int zpad_lastFeared_4])), (q2, .inl (ci, 60, .inl zpad_signs)), (q3, .inr (8, [.int zpad_draft_dogs_5, .int zpad_draft_untold_6, .ref q4, .ref q5, .ref q6, .ref q7])), (q4, .inl (ci, 7, .inl zpad_draft_halves_7)), (q5, .inl (ci, 7, .inl zpad_draft_likings_8)), (q6, .inl (ci, 7, .inl zpad_draft_fears_9)), (q7, .inl (ci, 7, .inl zpad_draft_heirs_10)), (q8, .inr (7, [.ref q9, .ref q14, u4, u5])), (q9, .inr (8, [.int zparish_roll_dogs_12, .int zparish_roll_untold_13, .ref q10, .ref q11, .ref q12, .ref q13])), (q10, .inl (ci, 7, .inl zparish_roll_halves_14)), (q11, .inl (ci, 7, .inl zparish_roll_likings_15)), (q12, .inl (ci, 7, .inl zparish_roll_fears_16)), (q13, .inl (ci, 7, .inl zparish_roll_heirs_17)), (q14, .inr (9, [.int (0 : Int32), u6, u7, u8])), (q15, .inr (3, [.int zgate_known_19, u9, u10, u11, u12, u13])), (q16, .inr (4, [.int zguesses_known_20, u14, u15, u16, u17, u18, u19, u20, u21])), (q17, .inr (2, [.int zevenings_known_21, u22, u23, u24, u25, u26, u27]))] := gD_re hD rfl
    clear hP9 hk9
    refine lv_aload_n hx hb dX11_roll_55 rfl (lv_at hl 0 rfl) ?_
    refine va_get (D := D) (ci := 10) (v := .ref q8) (C := RX11) (T := TX11) (N := 9) hx hb ht in_X11 hown hK.1 hP 0 rfl rfl 1 (by decide) (ht _ mF_X11_19) (fun _ h9 => h9) rfl dX11_roll_56 ?_
    refine va_get (D := D) (ci := 7) (v := .ref q9) (C := RX8) (T := TX8) (N := 4) hx hb ht in_X8 hown hK.1 hP 8 rfl rfl 0 (by decide) (ht _ mF_X11_74) (fun _ h9 => h9) rfl dX11_roll_59 ?_
    refine va_get (D := D) (ci := 8) (v := .int zparish_roll_dogs_12) (C := RX9) (T := TX9) (N := 6) hx hb ht in_X9 hown hK.1 hP 9 rfl rfl 0 (by decide) (ht _ mF_X11_97) (fun _ h9 => h9) rfl dX11_roll_62 ?_
    exact hret _ _ H locs _ _ ⟨_, _, _, _, _, _, _, _, _, _, _, _, _, _, _, _, _, _, _, _, rfl, hw⟩ hP hS dX11_roll_65
  · have hw := hw.2 hc
    refine lv_bipush (v := (-5 : Int32)) hx hb dX11_roll_12 (by decide) ?_
    exact hret _ _ H locs _ _ ⟨_, _, _, _, _, _, _, _, _, _, _, _, _, _, _, _, _, _, _, _, rfl, hw⟩ hP hS dX11_roll_14

def wp_X7_add (zsize : Int32) (zsigns : Nat → Int32) (a1 : Int32) (post : Int32 → Int32 → (Nat → Int32) → Prop) : Prop :=
  ((zsize < (60 : Int32) → (vp_in zsize 60 ∧ post (1 : Int32) (zsize + (1 : Int32)) (upd zsigns (zsize).toNatClampNeg a1))) ∧ (¬ zsize < (60 : Int32) → post (0 : Int32) zsize zsigns))
set_option maxHeartbeats 4000000 in
set_option maxRecDepth 100000 in
theorem c_X7_add (l : Launch) (D : va_G) (ci cz : ClassId) (tr : List (ClassId × FieldType)) (q0 q1 : Nat) (sz : Nat) (u0 u1 u2 u3 : Value) (zsize : Int32) (zsigns : Nat → Int32) (a1 : Int32) (post : Int32 → Int32 → (Nat → Int32) → Prop) (hw : wp_X7_add zsize zsigns a1 post) : gM l yX7_add cX7_add 2 (some .boolean) 0 0 D ci cz tr [(q0, .inr (6, [.ref q1, .int zsize, u0, u1, u2, u3])), (q1, .inl (ci, 60, .inl zsigns))] sz [.ref q0, .int a1] (gQi D [(q0, .inr (6, [.ref q1, .int zsize, u0, u1, u2, u3])), (q1, .inl (ci, 60, .inl zsigns))] sz (fun (r : Int32) w => ∃ (o_zsize : Int32) (o_zsigns : Nat → Int32), w = [(q0, .inr (6, [.ref q1, .int o_zsize, u0, u1, u2, u3])), (q1, .inl (ci, 60, .inl o_zsigns))] ∧ post r o_zsize o_zsigns)) := by
  refine gmet_z RX7 (by decide +kernel) rfl (Nat.le_of_ble_eq_true rfl) ?_
  intro p e s m args below meth c A R Q C hfr hlc hP hD hret ls hl
  obtain ⟨hx, hb, hml, hown, ht, hK, hZ, hA⟩ := C
  have hl : lv_has ls 2 [(0, .ref q0), (1, .int a1)] := hl
  unfold wp_X7_add at hw
  refine g_in (fun H locs => W p l e R s m args below meth c H locs 0 0 Q (F0 m 0 ls [])) (fun H locs hS0 hP => ?_) hP (va_S.rf (A := A) (H0 := s.heap))
  have hS : va_S A s.heap H locs := hS0
  clear hS0
  refine lv_aload_n hx hb dX7_add_0 rfl (lv_at hl 0 rfl) ?_
  refine va_get (D := D) (ci := 6) (v := .int zsize) (C := RX7) (T := TX7) (N := 6) hx hb ht in_X7 hown hK.1 hP 0 rfl rfl 1 (by decide) (ht _ mF_X7_22) (fun _ h9 => h9) rfl dX7_add_1 ?_
  refine lv_bipush (v := (60 : Int32)) hx hb dX7_add_4 (by decide) ?_
  refine lv_icmp_lt (tgt := 11) hx hb dX7_add_6 (by decide) (fun hc => ?_) (fun hc => ?_)
  · have hw := hw.1 hc
    refine lv_aload_n hx hb dX7_add_11 rfl (lv_at hl 0 rfl) ?_
    refine va_get (D := D) (ci := 6) (v := .ref q1) (C := RX7) (T := TX7) (N := 6) hx hb ht in_X7 hown hK.1 hP 0 rfl rfl 0 (by decide) (ht _ mF_X7_9) (fun _ h9 => h9) rfl dX7_add_12 ?_
    refine lv_aload_n hx hb dX7_add_15 rfl (lv_at hl 0 rfl) ?_
    refine va_get (D := D) (ci := 6) (v := .int zsize) (C := RX7) (T := TX7) (N := 6) hx hb ht in_X7 hown hK.1 hP 0 rfl rfl 1 (by decide) (ht _ mF_X7_22) (fun _ h9 => h9) rfl dX7_add_16 ?_
    refine lv_iload_n hx hb dX7_add_19 rfl (lv_at hl 1 rfl) ?_
    obtain ⟨hin, hw⟩ := hw
    refine va_iast (D := D) hx hb hK.1 hP hD hS 1 0 rfl rfl hin dX7_add_20 (fun H locs hP hD hS => ?_)
    have hP : va_P D vwCl [(q0, .inr (6, [.ref q1, .int zsize, u0, u1, u2, u3])), (q1, .inl (ci, 60, .inl (upd zsigns (zsize).toNatClampNeg a1)))] H := hP
    have hD : va_D A [(q0, .inr (6, [.ref q1, .int zsize, u0, u1, u2, u3])), (q1, .inl (ci, 60, .inl (upd zsigns (zsize).toNatClampNeg a1)))] := hD
    refine lv_aload_n hx hb dX7_add_21 rfl (lv_at hl 0 rfl) ?_
    refine lv_dup hx hb dX7_add_22 rfl ?_
    refine va_get (D := D) (ci := 6) (v := .int zsize) (C := RX7) (T := TX7) (N := 6) hx hb ht in_X7 hown hK.1 hP 0 rfl rfl 1 (by decide) (ht _ mF_X7_22) (fun _ h9 => h9) rfl dX7_add_23 ?_
    refine lv_iconst (v := (1 : Int32)) hx hb dX7_add_26 (by decide) ?_
    refine lv_iadd hx hb dX7_add_27 ?_
    refine va_put (D := D) (ci := 6) (v := .int (zsize + (1 : Int32))) (ty := .int) (C := RX7) (T := TX7) (N := 6) hx hb ht in_X7 tyX7 tyX7_ok nmX7 hown hK.1 hP hD hS 0 rfl rfl 1 (by decide) (ht _ mF_X7_22) (fun _ h9 => h9) rfl (by decide +kernel) rfl rfl (Nat.le_of_ble_eq_true rfl) dX7_add_28 (fun H locs hP hD hS => ?_)
    have hP : va_P D vwCl [(q0, .inr (6, [.ref q1, .int (zsize + (1 : Int32)), u0, u1, u2, u3])), (q1, .inl (ci, 60, .inl (upd zsigns (zsize).toNatClampNeg a1)))] H := hP
    have hD : va_D A [(q0, .inr (6, [.ref q1, .int (zsize + (1 : Int32)), u0, u1, u2, u3])), (q1, .inl (ci, 60, .inl (upd zsigns (zsize).toNatClampNeg a1)))] := hD
    refine lv_iconst (v := (1 : Int32)) hx hb dX7_add_31 (by decide) ?_
    exact hret _ _ H locs _ _ (by decide) ⟨_, _, rfl, hw⟩ hP hS dX7_add_32
  · have hw := hw.2 hc
    refine lv_iconst (v := (0 : Int32)) hx hb dX7_add_9 (by decide) ?_
    exact hret _ _ H locs _ _ (by decide) ⟨_, _, rfl, hw⟩ hP hS dX7_add_10

def wp_X11_say (zpad_size : Int32) (zpad_signs : Nat → Int32) (a1 : Int32) (post : Int32 → Int32 → (Nat → Int32) → Prop) : Prop :=
  ((a1 < (33 : Int32) → post (-2 : Int32) zpad_size zpad_signs) ∧ (¬ a1 < (33 : Int32) → ((a1 ≤ (126 : Int32) → wp_X7_add zpad_size zpad_signs a1 (fun (r_1 : Int32) (zpad_size_2 : Int32) (zpad_signs_3 : Nat → Int32) => ((r_1 = 0 → post (-4 : Int32) zpad_size_2 zpad_signs_3) ∧ (¬ r_1 = 0 → post zpad_size_2 zpad_size_2 zpad_signs_3)))) ∧ (¬ a1 ≤ (126 : Int32) → post (-2 : Int32) zpad_size zpad_signs))))
set_option maxHeartbeats 4000000 in
set_option maxRecDepth 100000 in
theorem c_X11_say (l : Launch) (D : va_G) (ci cz : ClassId) (tr : List (ClassId × FieldType)) (q0 q1 q2 : Nat) (sz : Nat) (u0 u1 u2 u3 u4 u5 u6 u7 u8 u9 u10 u11 : Value) (zpad_size : Int32) (zpad_signs : Nat → Int32) (a1 : Int32) (post : Int32 → Int32 → (Nat → Int32) → Prop) (hw : wp_X11_say zpad_size zpad_signs a1 post) : gM l yX11_say cX11_say 2 (some .int) 1 21 D ci cz tr [(q0, .inr (10, [.ref q1, u0, u1, u2, u3, u4, u5, u6, u7])), (q1, .inr (6, [.ref q2, .int zpad_size, u8, u9, u10, u11])), (q2, .inl (ci, 60, .inl zpad_signs))] sz [.ref q0, .int a1] (gQi D [(q0, .inr (10, [.ref q1, u0, u1, u2, u3, u4, u5, u6, u7])), (q1, .inr (6, [.ref q2, .int zpad_size, u8, u9, u10, u11])), (q2, .inl (ci, 60, .inl zpad_signs))] sz (fun (r : Int32) w => ∃ (o_zpad_size : Int32) (o_zpad_signs : Nat → Int32), w = [(q0, .inr (10, [.ref q1, u0, u1, u2, u3, u4, u5, u6, u7])), (q1, .inr (6, [.ref q2, .int o_zpad_size, u8, u9, u10, u11])), (q2, .inl (ci, 60, .inl o_zpad_signs))] ∧ post r o_zpad_size o_zpad_signs)) := by
  refine gmet_i RX11 (by decide +kernel) rfl (Nat.le_of_ble_eq_true rfl) ?_
  intro p e s m args below meth c A R Q C hfr hlc hP hD hret ls hl
  obtain ⟨hx, hb, hml, hown, ht, hK, hZ, hA⟩ := C
  have hl : lv_has ls 2 [(0, .ref q0), (1, .int a1)] := hl
  unfold wp_X11_say at hw
  refine g_in (fun H locs => W p l e R s m args below meth c H locs 0 0 Q (F0 m 0 ls [])) (fun H locs hS0 hP => ?_) hP (va_S.rf (A := A) (H0 := s.heap))
  have hS : va_S A s.heap H locs := hS0
  clear hS0
  refine lv_iload_n hx hb dX11_say_0 rfl (lv_at hl 1 rfl) ?_
  refine lv_bipush (v := (33 : Int32)) hx hb dX11_say_1 (by decide) ?_
  refine lv_icmp_lt (tgt := 12) hx hb dX11_say_3 (by decide) (fun hc => ?_) (fun hc => ?_)
  · have hw := hw.1 hc
    refine lv_bipush (v := (-2 : Int32)) hx hb dX11_say_12 (by decide) ?_
    exact hret _ _ H locs _ _ ⟨_, _, rfl, hw⟩ hP hS dX11_say_14
  · have hw := hw.2 hc
    refine lv_iload_n hx hb dX11_say_6 rfl (lv_at hl 1 rfl) ?_
    refine lv_bipush (v := (126 : Int32)) hx hb dX11_say_7 (by decide) ?_
    refine lv_icmp_le (tgt := 15) hx hb dX11_say_9 (by decide) (fun hc => ?_) (fun hc => ?_)
    · have hw := hw.1 hc
      refine lv_aload_n hx hb dX11_say_15 rfl (lv_at hl 0 rfl) ?_
      refine va_get (D := D) (ci := 10) (v := .ref q1) (C := RX11) (T := TX11) (N := 9) hx hb ht in_X11 hown hK.1 hP 0 rfl rfl 0 (by decide) (ht _ mF_X11_12) (fun _ h9 => h9) rfl dX11_say_16 ?_
      refine lv_iload_n hx hb dX11_say_19 rfl (lv_at hl 1 rfl) ?_
      refine gcalli (va_runV (As := [.int a1]) (rest := []) ⟨hx, hb, hml, hown, ht⟩ (c_X7_add l D ci cz tr q1 q2 H.size u8 u9 u10 u11 zpad_size zpad_signs a1 _ hw) (cwV 1 ht (gi_V mM_X11_62 mI_X7_add mS_X7_add mN_X7 mC_X7_add) rfl rfl rfl (by decide +kernel) ⟨Nat.le_trans (Nat.le_of_ble_eq_true rfl) hfr, Nat.le_trans (Nat.le_of_ble_eq_true rfl) hlc⟩) (gpreV (wc := [(q1, .inr (6, [.ref q2, .int zpad_size, u8, u9, u10, u11])), (q2, .inl (ci, 60, .inl zpad_signs))]) (k := 6) (q0 := 1) hK hZ hP hD hS hA [1, 2] rfl rfl rfl rfl rfl) rfl rfl hl.1 rfl (lv_room (Nat.le_of_ble_eq_true rfl)) dX11_say_20 ⟨Nat.zero_le _, Nat.zero_le _⟩) hD hS hA [1, 2] rfl (fun r_1 w9 H locs hw hP9 hk9 hS => ?_)
      obtain ⟨zpad_size_2, zpad_signs_3, rfl, hw⟩ := hw
      have hP : va_P D vwCl [(q0, .inr (10, [.ref q1, u0, u1, u2, u3, u4, u5, u6, u7])), (q1, .inr (6, [.ref q2, .int zpad_size_2, u8, u9, u10, u11])), (q2, .inl (ci, 60, .inl zpad_signs_3))] H := gjoin3 hP hD [1, 2] hP9 hk9 rfl rfl [none, some 0, some 1] rfl rfl
      have hD : va_D A [(q0, .inr (10, [.ref q1, u0, u1, u2, u3, u4, u5, u6, u7])), (q1, .inr (6, [.ref q2, .int zpad_size_2, u8, u9, u10, u11])), (q2, .inl (ci, 60, .inl zpad_signs_3))] := gD_re hD rfl
      clear hP9 hk9
      refine lv_if_eq (tgt := 36) hx hb dX11_say_23 (by decide) (fun hc => ?_) (fun hc => ?_)
      · have hw := hw.1 hc
        refine lv_bipush (v := (-4 : Int32)) hx hb dX11_say_36 (by decide) ?_
        exact hret _ _ H locs _ _ ⟨_, _, rfl, hw⟩ hP hS dX11_say_38
      · have hw := hw.2 hc
        refine lv_aload_n hx hb dX11_say_26 rfl (lv_at hl 0 rfl) ?_
        refine va_get (D := D) (ci := 10) (v := .ref q1) (C := RX11) (T := TX11) (N := 9) hx hb ht in_X11 hown hK.1 hP 0 rfl rfl 0 (by decide) (ht _ mF_X11_12) (fun _ h9 => h9) rfl dX11_say_27 ?_
        refine va_get (D := D) (ci := 6) (v := .int zpad_size_2) (C := RX7) (T := TX7) (N := 6) hx hb ht in_X7 hown hK.1 hP 1 rfl rfl 1 (by decide) (ht _ mF_X11_66) (fun _ h9 => h9) rfl dX11_say_30 ?_
        refine lv_goto (tgt := 38) hx hb dX11_say_33 (by decide) ?_
        exact hret _ _ H locs _ _ ⟨_, _, rfl, hw⟩ hP hS dX11_say_38
    · have hw := hw.2 hc
      refine lv_bipush (v := (-2 : Int32)) hx hb dX11_say_12 (by decide) ?_
      exact hret _ _ H locs _ _ ⟨_, _, rfl, hw⟩ hP hS dX11_say_14

def wp_X11_stolen (zparish_roll_dogs : Int32) (zparish_roll_halves : Nat → Int32) (zparish_roll_likings : Nat → Int32) (zparish_roll_fears : Nat → Int32) (zballot_left : Int32) (zballot_right : Int32) (zballot_leftDogs : Int32) (zballot_rightDogs : Int32) (a1 : Int32) (a2 : Int32) (post : Int32 → Int32 → Int32 → Int32 → Int32 → Prop) : Prop :=
  wp_X11_areLivers a1 a2 (fun (r_1 : Int32) => ((¬ r_1 = 0 → wp_X0_hold zballot_left zballot_right zballot_leftDogs zballot_rightDogs zparish_roll_dogs zparish_roll_halves zparish_roll_likings zparish_roll_fears (a1 - a2) (0 : Int32) (0 : Int32) (fun (zballot_left_3 : Int32) (zballot_right_4 : Int32) (zballot_leftDogs_5 : Int32) (zballot_rightDogs_6 : Int32) => wp_X0_winner zballot_left_3 zballot_right_4 (fun (r_7 : Int32) => lo (fun _ _ _ _ _ _ => False) (fun (G44 : Int32 → Int32 → Int32 → Int32 → Int32 → Int32 → Prop) (x4_8 : Int32) (x5_9 : Int32) (zballot_left_10 : Int32) (zballot_right_11 : Int32) (zballot_leftDogs_12 : Int32) (zballot_rightDogs_13 : Int32) => ((zparish_roll_dogs ≤ x5_9 → post x4_8 zballot_left_10 zballot_right_11 zballot_leftDogs_12 zballot_rightDogs_13) ∧ (¬ zparish_roll_dogs ≤ x5_9 → wp_X0_hold zballot_left_10 zballot_right_11 zballot_leftDogs_12 zballot_rightDogs_13 zparish_roll_dogs zparish_roll_halves zparish_roll_likings zparish_roll_fears (a1 - a2) ((1 : Int32) <<< (x5_9 &&& 31)) (0 : Int32) (fun (zballot_left_15 : Int32) (zballot_right_16 : Int32) (zballot_leftDogs_17 : Int32) (zballot_rightDogs_18 : Int32) => wp_X0_winner zballot_left_15 zballot_right_16 (fun (r_19 : Int32) => ((r_19 = r_7 → G44 x4_8 (x5_9 + (1 : Int32)) zballot_left_15 zballot_right_16 zballot_leftDogs_17 zballot_rightDogs_18) ∧ (¬ r_19 = r_7 → G44 (x4_8 ||| ((1 : Int32) <<< (x5_9 &&& 31))) (x5_9 + (1 : Int32)) zballot_left_15 zballot_right_16 zballot_leftDogs_17 zballot_rightDogs_18))))))) (fun G44 => G44 (0 : Int32) (0 : Int32) zballot_left_3 zballot_right_4 zballot_leftDogs_5 zballot_rightDogs_6)))) ∧ (r_1 = 0 → post (-2 : Int32) zballot_left zballot_right zballot_leftDogs zballot_rightDogs)))
set_option maxHeartbeats 4000000 in
set_option maxRecDepth 100000 in
theorem c_X11_stolen (l : Launch) (D : va_G) (ci cz : ClassId) (tr : List (ClassId × FieldType)) (q0 q1 q2 q3 q4 q5 q6 : Nat) (sz : Nat) (u0 u1 u2 u3 u4 u5 u6 u7 u8 u9 u10 u11 : Value) (zparish_roll_dogs : Int32) (zparish_roll_halves : Nat → Int32) (zparish_roll_likings : Nat → Int32) (zparish_roll_fears : Nat → Int32) (zballot_left : Int32) (zballot_right : Int32) (zballot_leftDogs : Int32) (zballot_rightDogs : Int32) (a1 : Int32) (a2 : Int32) (post : Int32 → Int32 → Int32 → Int32 → Int32 → Prop) (hw : wp_X11_stolen zparish_roll_dogs zparish_roll_halves zparish_roll_likings zparish_roll_fears zballot_left zballot_right zballot_leftDogs zballot_rightDogs a1 a2 post) : gM l yX11_stolen cX11_stolen 6 (some .int) 3 73 D ci cz tr [(q0, .inr (10, [u0, .ref q1, u1, u2, .ref q6, u3, u4, u5, u6])), (q1, .inr (7, [.ref q2, u7, u8, u9])), (q2, .inr (8, [.int zparish_roll_dogs, u10, .ref q3, .ref q4, .ref q5, u11])), (q3, .inl (ci, 7, .inl zparish_roll_halves)), (q4, .inl (ci, 7, .inl zparish_roll_likings)), (q5, .inl (ci, 7, .inl zparish_roll_fears)), (q6, .inr (0, [.int zballot_left, .int zballot_right, .int zballot_leftDogs, .int zballot_rightDogs]))] sz [.ref q0, .int a1, .int a2] (gQi D [(q0, .inr (10, [u0, .ref q1, u1, u2, .ref q6, u3, u4, u5, u6])), (q1, .inr (7, [.ref q2, u7, u8, u9])), (q2, .inr (8, [.int zparish_roll_dogs, u10, .ref q3, .ref q4, .ref q5, u11])), (q3, .inl (ci, 7, .inl zparish_roll_halves)), (q4, .inl (ci, 7, .inl zparish_roll_likings)), (q5, .inl (ci, 7, .inl zparish_roll_fears)), (q6, .inr (0, [.int zballot_left, .int zballot_right, .int zballot_leftDogs, .int zballot_rightDogs]))] sz (fun (r : Int32) w => ∃ (o_zballot_left : Int32) (o_zballot_right : Int32) (o_zballot_leftDogs : Int32) (o_zballot_rightDogs : Int32), w = [(q0, .inr (10, [u0, .ref q1, u1, u2, .ref q6, u3, u4, u5, u6])), (q1, .inr (7, [.ref q2, u7, u8, u9])), (q2, .inr (8, [.int zparish_roll_dogs, u10, .ref q3, .ref q4, .ref q5, u11])), (q3, .inl (ci, 7, .inl zparish_roll_halves)), (q4, .inl (ci, 7, .inl zparish_roll_likings)), (q5, .inl (ci, 7, .inl zparish_roll_fears)), (q6, .inr (0, [.int o_zballot_left, .int o_zballot_right, .int o_zballot_leftDogs, .int o_zballot_rightDogs]))] ∧ post r o_zballot_left o_zballot_right o_zballot_leftDogs o_zballot_rightDogs)) := by
  refine gmet_i RX11 (by decide +kernel) rfl (Nat.le_of_ble_eq_true rfl) ?_
  intro p e s m args below meth c A R Q C hfr hlc hP hD hret ls hl
  obtain ⟨hx, hb, hml, hown, ht, hK, hZ, hA⟩ := C
  have hl : lv_has ls 6 [(0, .ref q0), (1, .int a1), (2, .int a2)] := hl
  unfold wp_X11_stolen at hw
  refine g_in (fun H locs => W p l e R s m args below meth c H locs 0 0 Q (F0 m 0 ls [])) (fun H locs hS0 hP => ?_) hP (va_S.rf (A := A) (H0 := s.heap))
  have hS : va_S A s.heap H locs := hS0
  clear hS0
  refine lv_iload_n hx hb dX11_stolen_0 rfl (lv_at hl 1 rfl) ?_
  refine lv_iload_n hx hb dX11_stolen_1 rfl (lv_at hl 2 rfl) ?_
  refine gcalli (va_runS (As := [.int a1, .int a2]) (rest := []) ⟨hx, hb, hml, hown, ht⟩ (c_X11_areLivers l D ci cz tr  H.size a1 a2 _ hw) (va_cwS 2 ht (gi_S mM_X11_129 mT_X11_areLivers mN_X11 mC_X11_areLivers) rfl rfl rfl (by decide +kernel) ⟨Nat.le_trans (Nat.le_of_ble_eq_true rfl) hfr, Nat.le_trans (Nat.le_of_ble_eq_true rfl) hlc⟩) (gpre (wc := []) hK hZ hP hD hS hA [] rfl rfl) rfl rfl hl.1 rfl (lv_room (Nat.le_of_ble_eq_true rfl)) dX11_stolen_2 ⟨Nat.zero_le _, Nat.zero_le _⟩) hD hS hA [] rfl (fun r_1 w9 H locs hw hP9 hk9 hS => ?_)
  obtain ⟨rfl, hw⟩ := hw
  have hP : va_P D vwCl [(q0, .inr (10, [u0, .ref q1, u1, u2, .ref q6, u3, u4, u5, u6])), (q1, .inr (7, [.ref q2, u7, u8, u9])), (q2, .inr (8, [.int zparish_roll_dogs, u10, .ref q3, .ref q4, .ref q5, u11])), (q3, .inl (ci, 7, .inl zparish_roll_halves)), (q4, .inl (ci, 7, .inl zparish_roll_likings)), (q5, .inl (ci, 7, .inl zparish_roll_fears)), (q6, .inr (0, [.int zballot_left, .int zballot_right, .int zballot_leftDogs, .int zballot_rightDogs]))] H := gjoin3 hP hD [] hP9 hk9 rfl rfl [none, none, none, none, none, none, none] rfl rfl
  clear hP9 hk9
  refine lv_if_ne (tgt := 11) hx hb dX11_stolen_5 (by decide) (fun hc => ?_) (fun hc => ?_)
  · have hw := hw.1 hc
    refine lv_aload_n hx hb dX11_stolen_11 rfl (lv_at hl 0 rfl) ?_
    refine va_get (D := D) (ci := 10) (v := .ref q6) (C := RX11) (T := TX11) (N := 9) hx hb ht in_X11 hown hK.1 hP 0 rfl rfl 4 (by decide) (ht _ mF_X11_30) (fun _ h9 => h9) rfl dX11_stolen_12 ?_
    refine lv_aload_n hx hb dX11_stolen_15 rfl (lv_at hl 0 rfl) ?_
    refine va_get (D := D) (ci := 10) (v := .ref q1) (C := RX11) (T := TX11) (N := 9) hx hb ht in_X11 hown hK.1 hP 0 rfl rfl 1 (by decide) (ht _ mF_X11_19) (fun _ h9 => h9) rfl dX11_stolen_16 ?_
    refine va_get (D := D) (ci := 7) (v := .ref q2) (C := RX8) (T := TX8) (N := 4) hx hb ht in_X8 hown hK.1 hP 1 rfl rfl 0 (by decide) (ht _ mF_X11_74) (fun _ h9 => h9) rfl dX11_stolen_19 ?_
    refine lv_iload_n hx hb dX11_stolen_22 rfl (lv_at hl 1 rfl) ?_
    refine lv_iload_n hx hb dX11_stolen_23 rfl (lv_at hl 2 rfl) ?_
    refine lv_isub hx hb dX11_stolen_24 ?_
    refine lv_iconst (v := (0 : Int32)) hx hb dX11_stolen_25 (by decide) ?_
    refine lv_iconst (v := (0 : Int32)) hx hb dX11_stolen_26 (by decide) ?_
    refine gcallv (va_runV (As := [.ref q2, .int (a1 - a2), .int (0 : Int32), .int (0 : Int32)]) (rest := []) ⟨hx, hb, hml, hown, ht⟩ (c_X0_hold l D ci cz tr q6 q2 q3 q4 q5 H.size u10 u11 zballot_left zballot_right zballot_leftDogs zballot_rightDogs zparish_roll_dogs zparish_roll_halves zparish_roll_likings zparish_roll_fears (a1 - a2) (0 : Int32) (0 : Int32) _ hw) (cwV 4 ht (gi_V mM_X11_133 mI_X0_hold mS_X0_hold mN_X0 mC_X0_hold) rfl rfl rfl (by decide +kernel) ⟨Nat.le_trans (Nat.le_of_ble_eq_true rfl) hfr, Nat.le_trans (Nat.le_of_ble_eq_true rfl) hlc⟩) (gpreV (wc := [(q6, .inr (0, [.int zballot_left, .int zballot_right, .int zballot_leftDogs, .int zballot_rightDogs])), (q2, .inr (8, [.int zparish_roll_dogs, u10, .ref q3, .ref q4, .ref q5, u11])), (q3, .inl (ci, 7, .inl zparish_roll_halves)), (q4, .inl (ci, 7, .inl zparish_roll_likings)), (q5, .inl (ci, 7, .inl zparish_roll_fears))]) (k := 0) (q0 := 6) hK hZ hP hD hS hA [6, 2, 3, 4, 5] rfl rfl rfl rfl rfl) rfl rfl hl.1 rfl (lv_room (Nat.le_of_ble_eq_true rfl)) dX11_stolen_27 ⟨Nat.zero_le _, Nat.zero_le _⟩) hD hS hA [6, 2, 3, 4, 5] rfl (fun w9 H locs hw hP9 hk9 hS => ?_)
    obtain ⟨zballot_left_3, zballot_right_4, zballot_leftDogs_5, zballot_rightDogs_6, rfl, hw⟩ := hw
    have hP : va_P D vwCl [(q0, .inr (10, [u0, .ref q1, u1, u2, .ref q6, u3, u4, u5, u6])), (q1, .inr (7, [.ref q2, u7, u8, u9])), (q2, .inr (8, [.int zparish_roll_dogs, u10, .ref q3, .ref q4, .ref q5, u11])), (q3, .inl (ci, 7, .inl zparish_roll_halves)), (q4, .inl (ci, 7, .inl zparish_roll_likings)), (q5, .inl (ci, 7, .inl zparish_roll_fears)), (q6, .inr (0, [.int zballot_left_3, .int zballot_right_4, .int zballot_leftDogs_5, .int zballot_rightDogs_6]))] H := gjoin3 hP hD [6, 2, 3, 4, 5] hP9 hk9 rfl rfl [none, none, some 1, some 2, some 3, some 4, some 0] rfl rfl
    have hD : va_D A [(q0, .inr (10, [u0, .ref q1, u1, u2, .ref q6, u3, u4, u5, u6])), (q1, .inr (7, [.ref q2, u7, u8, u9])), (q2, .inr (8, [.int zparish_roll_dogs, u10, .ref q3, .ref q4, .ref q5, u11])), (q3, .inl (ci, 7, .inl zparish_roll_halves)), (q4, .inl (ci, 7, .inl zparish_roll_likings)), (q5, .inl (ci, 7, .inl zparish_roll_fears)), (q6, .inr (0, [.int zballot_left_3, .int zballot_right_4, .int zballot_leftDogs_5, .int zballot_rightDogs_6]))] := gD_re hD rfl
    clear hP9 hk9
    refine lv_aload_n hx hb dX11_stolen_30 rfl (lv_at hl 0 rfl) ?_
    refine va_get (D := D) (ci := 10) (v := .ref q6) (C := RX11) (T := TX11) (N := 9) hx hb ht in_X11 hown hK.1 hP 0 rfl rfl 4 (by decide) (ht _ mF_X11_30) (fun _ h9 => h9) rfl dX11_stolen_31 ?_
    refine gcalli (va_runV (As := []) (rest := []) ⟨hx, hb, hml, hown, ht⟩ (c_X0_winner l D ci cz tr q6 H.size (.int zballot_leftDogs_5) (.int zballot_rightDogs_6) zballot_left_3 zballot_right_4 _ hw) (cwV 0 ht (gi_V mM_X11_149 mI_X0_winner mS_X0_winner mN_X0 mC_X0_winner) rfl rfl rfl (by decide +kernel) ⟨Nat.le_trans (Nat.le_of_ble_eq_true rfl) hfr, Nat.le_trans (Nat.le_of_ble_eq_true rfl) hlc⟩) (gpreV (wc := [(q6, .inr (0, [.int zballot_left_3, .int zballot_right_4, .int zballot_leftDogs_5, .int zballot_rightDogs_6]))]) (k := 0) (q0 := 6) hK hZ hP hD hS hA [6] rfl rfl rfl rfl rfl) rfl rfl hl.1 rfl (lv_room (Nat.le_of_ble_eq_true rfl)) dX11_stolen_34 ⟨Nat.zero_le _, Nat.zero_le _⟩) hD hS hA [6] rfl (fun r_7 w9 H locs hw hP9 hk9 hS => ?_)
    obtain ⟨rfl, hw⟩ := hw
    have hP : va_P D vwCl [(q0, .inr (10, [u0, .ref q1, u1, u2, .ref q6, u3, u4, u5, u6])), (q1, .inr (7, [.ref q2, u7, u8, u9])), (q2, .inr (8, [.int zparish_roll_dogs, u10, .ref q3, .ref q4, .ref q5, u11])), (q3, .inl (ci, 7, .inl zparish_roll_halves)), (q4, .inl (ci, 7, .inl zparish_roll_likings)), (q5, .inl (ci, 7, .inl zparish_roll_fears)), (q6, .inr (0, [.int zballot_left_3, .int zballot_right_4, .int zballot_leftDogs_5, .int zballot_rightDogs_6]))] H := gjoin3 hP hD [6] hP9 hk9 rfl rfl [none, none, none, none, none, none, some 0] rfl rfl
    clear hP9 hk9
    refine lv_istore_n (lv' := [(3, .int r_7), (0, .ref q0), (1, .int a1), (2, .int a2)]) hx hb dX11_stolen_37 rfl hl (by decide) rfl (fun ls hl => ?_)
    refine lv_iconst (v := (0 : Int32)) hx hb dX11_stolen_38 (by decide) ?_
    refine lv_istore (lv' := [(4, .int (0 : Int32)), (3, .int r_7), (0, .ref q0), (1, .int a1), (2, .int a2)]) hx hb dX11_stolen_39 hl (by decide) rfl (fun ls hl => ?_)
    refine lv_iconst (v := (0 : Int32)) hx hb dX11_stolen_41 (by decide) ?_
    refine lv_istore (lv' := [(5, .int (0 : Int32)), (4, .int (0 : Int32)), (3, .int r_7), (0, .ref q0), (1, .int a1), (2, .int a2)]) hx hb dX11_stolen_42 hl (by decide) rfl (fun ls hl => ?_)
    refine lo_walk hw (fun G44 => ∀ (x4_8 : Int32) (x5_9 : Int32) (zballot_left_10 : Int32) (zballot_right_11 : Int32) (zballot_leftDogs_12 : Int32) (zballot_rightDogs_13 : Int32) (H : Heap) (locs : List Loc) (ls : Array Slot), G44 x4_8 x5_9 zballot_left_10 zballot_right_11 zballot_leftDogs_12 zballot_rightDogs_13 → va_P D vwCl [(q0, .inr (10, [u0, .ref q1, u1, u2, .ref q6, u3, u4, u5, u6])), (q1, .inr (7, [.ref q2, u7, u8, u9])), (q2, .inr (8, [.int zparish_roll_dogs, u10, .ref q3, .ref q4, .ref q5, u11])), (q3, .inl (ci, 7, .inl zparish_roll_halves)), (q4, .inl (ci, 7, .inl zparish_roll_likings)), (q5, .inl (ci, 7, .inl zparish_roll_fears)), (q6, .inr (0, [.int zballot_left_10, .int zballot_right_11, .int zballot_leftDogs_12, .int zballot_rightDogs_13]))] H → va_S A s.heap H locs → lv_has ls 6 [(0, .ref q0), (1, .int a1), (2, .int a2), (3, .int r_7), (4, .int x4_8), (5, .int x5_9)] → W p l e R s m args below meth c H locs 0 0 Q (F0 m 44 ls [])) (fun _ _ _ _ _ _ _ _ _ hw _ _ _ => False.elim hw) (fun G44 hG44 x4_8 x5_9 zballot_left_10 zballot_right_11 zballot_leftDogs_12 zballot_rightDogs_13 H locs ls hw hP hS hl => ?_) (fun G44 hG44 hw => hG44 _ _ _ _ _ _ H locs ls hw hP hS (lv_sub hl [3, 4, 5, 2, 1, 0] rfl))
    have hD : va_D A [(q0, .inr (10, [u0, .ref q1, u1, u2, .ref q6, u3, u4, u5, u6])), (q1, .inr (7, [.ref q2, u7, u8, u9])), (q2, .inr (8, [.int zparish_roll_dogs, u10, .ref q3, .ref q4, .ref q5, u11])), (q3, .inl (ci, 7, .inl zparish_roll_halves)), (q4, .inl (ci, 7, .inl zparish_roll_likings)), (q5, .inl (ci, 7, .inl zparish_roll_fears)), (q6, .inr (0, [.int zballot_left_10, .int zballot_right_11, .int zballot_leftDogs_12, .int zballot_rightDogs_13]))] := gD_re hD rfl
    refine lv_iload hx hb dX11_stolen_44 (lv_at hl 5 rfl) ?_
    refine lv_aload_n hx hb dX11_stolen_46 rfl (lv_at hl 0 rfl) ?_
    refine va_get (D := D) (ci := 10) (v := .ref q1) (C := RX11) (T := TX11) (N := 9) hx hb ht in_X11 hown hK.1 hP 0 rfl rfl 1 (by decide) (ht _ mF_X11_19) (fun _ h9 => h9) rfl dX11_stolen_47 ?_
    refine va_get (D := D) (ci := 7) (v := .ref q2) (C := RX8) (T := TX8) (N := 4) hx hb ht in_X8 hown hK.1 hP 1 rfl rfl 0 (by decide) (ht _ mF_X11_74) (fun _ h9 => h9) rfl dX11_stolen_50 ?_
    refine va_get (D := D) (ci := 8) (v := .int zparish_roll_dogs) (C := RX9) (T := TX9) (N := 6) hx hb ht in_X9 hown hK.1 hP 2 rfl rfl 0 (by decide) (ht _ mF_X11_97) (fun _ h9 => h9) rfl dX11_stolen_53 ?_
    refine lv_icmp_ge (tgt := 107) hx hb dX11_stolen_56 (by decide) (fun hc => ?_) (fun hc => ?_)
    · have hw := hw.1 hc
      refine lv_iload hx hb dX11_stolen_107 (lv_at hl 4 rfl) ?_
      exact hret _ _ H locs _ _ ⟨_, _, _, _, rfl, hw⟩ hP hS dX11_stolen_109
    · have hw := hw.2 hc
      refine lv_aload_n hx hb dX11_stolen_59 rfl (lv_at hl 0 rfl) ?_
      refine va_get (D := D) (ci := 10) (v := .ref q6) (C := RX11) (T := TX11) (N := 9) hx hb ht in_X11 hown hK.1 hP 0 rfl rfl 4 (by decide) (ht _ mF_X11_30) (fun _ h9 => h9) rfl dX11_stolen_60 ?_
      refine lv_aload_n hx hb dX11_stolen_63 rfl (lv_at hl 0 rfl) ?_
      refine va_get (D := D) (ci := 10) (v := .ref q1) (C := RX11) (T := TX11) (N := 9) hx hb ht in_X11 hown hK.1 hP 0 rfl rfl 1 (by decide) (ht _ mF_X11_19) (fun _ h9 => h9) rfl dX11_stolen_64 ?_
      refine va_get (D := D) (ci := 7) (v := .ref q2) (C := RX8) (T := TX8) (N := 4) hx hb ht in_X8 hown hK.1 hP 1 rfl rfl 0 (by decide) (ht _ mF_X11_74) (fun _ h9 => h9) rfl dX11_stolen_67 ?_
      refine lv_iload_n hx hb dX11_stolen_70 rfl (lv_at hl 1 rfl) ?_
      refine lv_iload_n hx hb dX11_stolen_71 rfl (lv_at hl 2 rfl) ?_
      refine lv_isub hx hb dX11_stolen_72 ?_
      refine lv_iconst (v := (1 : Int32)) hx hb dX11_stolen_73 (by decide) ?_
      refine lv_iload hx hb dX11_stolen_74 (lv_at hl 5 rfl) ?_
      refine lv_ishl hx hb dX11_stolen_76 ?_
      refine lv_iconst (v := (0 : Int32)) hx hb dX11_stolen_77 (by decide) ?_
      refine gcallv (va_runV (As := [.ref q2, .int (a1 - a2), .int ((1 : Int32) <<< (x5_9 &&& 31)), .int (0 : Int32)]) (rest := []) ⟨hx, hb, hml, hown, ht⟩ (c_X0_hold l D ci cz tr q6 q2 q3 q4 q5 H.size u10 u11 zballot_left_10 zballot_right_11 zballot_leftDogs_12 zballot_rightDogs_13 zparish_roll_dogs zparish_roll_halves zparish_roll_likings zparish_roll_fears (a1 - a2) ((1 : Int32) <<< (x5_9 &&& 31)) (0 : Int32) _ hw) (cwV 4 ht (gi_V mM_X11_133 mI_X0_hold mS_X0_hold mN_X0 mC_X0_hold) rfl rfl rfl (by decide +kernel) ⟨Nat.le_trans (Nat.le_of_ble_eq_true rfl) hfr, Nat.le_trans (Nat.le_of_ble_eq_true rfl) hlc⟩) (gpreV (wc := [(q6, .inr (0, [.int zballot_left_10, .int zballot_right_11, .int zballot_leftDogs_12, .int zballot_rightDogs_13])), (q2, .inr (8, [.int zparish_roll_dogs, u10, .ref q3, .ref q4, .ref q5, u11])), (q3, .inl (ci, 7, .inl zparish_roll_halves)), (q4, .inl (ci, 7, .inl zparish_roll_likings)), (q5, .inl (ci, 7, .inl zparish_roll_fears))]) (k := 0) (q0 := 6) hK hZ hP hD hS hA [6, 2, 3, 4, 5] rfl rfl rfl rfl rfl) rfl rfl hl.1 rfl (lv_room (Nat.le_of_ble_eq_true rfl)) dX11_stolen_78 ⟨Nat.zero_le _, Nat.zero_le _⟩) hD hS hA [6, 2, 3, 4, 5] rfl (fun w9 H locs hw hP9 hk9 hS => ?_)
      obtain ⟨zballot_left_15, zballot_right_16, zballot_leftDogs_17, zballot_rightDogs_18, rfl, hw⟩ := hw
      have hP : va_P D vwCl [(q0, .inr (10, [u0, .ref q1, u1, u2, .ref q6, u3, u4, u5, u6])), (q1, .inr (7, [.ref q2, u7, u8, u9])), (q2, .inr (8, [.int zparish_roll_dogs, u10, .ref q3, .ref q4, .ref q5, u11])), (q3, .inl (ci, 7, .inl zparish_roll_halves)), (q4, .inl (ci, 7, .inl zparish_roll_likings)), (q5, .inl (ci, 7, .inl zparish_roll_fears)), (q6, .inr (0, [.int zballot_left_15, .int zballot_right_16, .int zballot_leftDogs_17, .int zballot_rightDogs_18]))] H := gjoin3 hP hD [6, 2, 3, 4, 5] hP9 hk9 rfl rfl [none, none, some 1, some 2, some 3, some 4, some 0] rfl rfl
      have hD : va_D A [(q0, .inr (10, [u0, .ref q1, u1, u2, .ref q6, u3, u4, u5, u6])), (q1, .inr (7, [.ref q2, u7, u8, u9])), (q2, .inr (8, [.int zparish_roll_dogs, u10, .ref q3, .ref q4, .ref q5, u11])), (q3, .inl (ci, 7, .inl zparish_roll_halves)), (q4, .inl (ci, 7, .inl zparish_roll_likings)), (q5, .inl (ci, 7, .inl zparish_roll_fears)), (q6, .inr (0, [.int zballot_left_15, .int zballot_right_16, .int zballot_leftDogs_17, .int zballot_rightDogs_18]))] := gD_re hD rfl
      clear hP9 hk9
      refine lv_aload_n hx hb dX11_stolen_81 rfl (lv_at hl 0 rfl) ?_
      refine va_get (D := D) (ci := 10) (v := .ref q6) (C := RX11) (T := TX11) (N := 9) hx hb ht in_X11 hown hK.1 hP 0 rfl rfl 4 (by decide) (ht _ mF_X11_30) (fun _ h9 => h9) rfl dX11_stolen_82 ?_
      refine gcalli (va_runV (As := []) (rest := []) ⟨hx, hb, hml, hown, ht⟩ (c_X0_winner l D ci cz tr q6 H.size (.int zballot_leftDogs_17) (.int zballot_rightDogs_18) zballot_left_15 zballot_right_16 _ hw) (cwV 0 ht (gi_V mM_X11_149 mI_X0_winner mS_X0_winner mN_X0 mC_X0_winner) rfl rfl rfl (by decide +kernel) ⟨Nat.le_trans (Nat.le_of_ble_eq_true rfl) hfr, Nat.le_trans (Nat.le_of_ble_eq_true rfl) hlc⟩) (gpreV (wc := [(q6, .inr (0, [.int zballot_left_15, .int zballot_right_16, .int zballot_leftDogs_17, .int zballot_rightDogs_18]))]) (k := 0) (q0 := 6) hK hZ hP hD hS hA [6] rfl rfl rfl rfl rfl) rfl rfl hl.1 rfl (lv_room (Nat.le_of_ble_eq_true rfl)) dX11_stolen_85 ⟨Nat.zero_le _, Nat.zero_le _⟩) hD hS hA [6] rfl (fun r_19 w9 H locs hw hP9 hk9 hS => ?_)
      obtain ⟨rfl, hw⟩ := hw
      have hP : va_P D vwCl [(q0, .inr (10, [u0, .ref q1, u1, u2, .ref q6, u3, u4, u5, u6])), (q1, .inr (7, [.ref q2, u7, u8, u9])), (q2, .inr (8, [.int zparish_roll_dogs, u10, .ref q3, .ref q4, .ref q5, u11])), (q3, .inl (ci, 7, .inl zparish_roll_halves)), (q4, .inl (ci, 7, .inl zparish_roll_likings)), (q5, .inl (ci, 7, .inl zparish_roll_fears)), (q6, .inr (0, [.int zballot_left_15, .int zballot_right_16, .int zballot_leftDogs_17, .int zballot_rightDogs_18]))] H := gjoin3 hP hD [6] hP9 hk9 rfl rfl [none, none, none, none, none, none, some 0] rfl rfl
      clear hP9 hk9
      refine lv_iload_n hx hb dX11_stolen_88 rfl (lv_at hl 3 rfl) ?_
      refine lv_icmp_eq (tgt := 101) hx hb dX11_stolen_89 (by decide) (fun hc => ?_) (fun hc => ?_)
      · have hw := hw.1 hc
        refine lv_iinc (v := (x5_9 + (1 : Int32))) (lv' := [(5, .int (x5_9 + (1 : Int32))), (0, .ref q0), (1, .int a1), (2, .int a2), (3, .int r_7), (4, .int x4_8)]) hx hb dX11_stolen_101 hl (k := 5) rfl rfl (by decide) rfl (fun ls hl => ?_)
        refine lv_goto (tgt := 44) hx hb dX11_stolen_104 (by decide) ?_
        exact hG44 _ _ _ _ _ _ H locs ls hw hP hS (lv_sub hl [1, 2, 3, 4, 5, 0] rfl)
      · have hw := hw.2 hc
        refine lv_iload hx hb dX11_stolen_92 (lv_at hl 4 rfl) ?_
        refine lv_iconst (v := (1 : Int32)) hx hb dX11_stolen_94 (by decide) ?_
        refine lv_iload hx hb dX11_stolen_95 (lv_at hl 5 rfl) ?_
        refine lv_ishl hx hb dX11_stolen_97 ?_
        refine lv_ior hx hb dX11_stolen_98 ?_
        refine lv_istore (lv' := [(4, .int (x4_8 ||| ((1 : Int32) <<< (x5_9 &&& 31)))), (0, .ref q0), (1, .int a1), (2, .int a2), (3, .int r_7), (5, .int x5_9)]) hx hb dX11_stolen_99 hl (by decide) rfl (fun ls hl => ?_)
        refine lv_iinc (v := (x5_9 + (1 : Int32))) (lv' := [(5, .int (x5_9 + (1 : Int32))), (4, .int (x4_8 ||| ((1 : Int32) <<< (x5_9 &&& 31)))), (0, .ref q0), (1, .int a1), (2, .int a2), (3, .int r_7)]) hx hb dX11_stolen_101 hl (k := 5) rfl rfl (by decide) rfl (fun ls hl => ?_)
        refine lv_goto (tgt := 44) hx hb dX11_stolen_104 (by decide) ?_
        exact hG44 _ _ _ _ _ _ H locs ls hw hP hS (lv_sub hl [2, 3, 4, 5, 1, 0] rfl)
  · have hw := hw.2 hc
    refine lv_bipush (v := (-2 : Int32)) hx hb dX11_stolen_8 (by decide) ?_
    exact hret _ _ H locs _ _ ⟨_, _, _, _, rfl, hw⟩ hP hS dX11_stolen_10

def wp_X2_decides  (a0 : Int32) (a1 : Int32) (a2 : Int32) (post : Int32 → Prop) : Prop :=
  ((a2 < ((2 : Int32) * a0) → post (0 : Int32) ) ∧ (¬ a2 < ((2 : Int32) * a0) → ((((2 : Int32) * (a0 + a1)) ≤ a2 → post (0 : Int32) ) ∧ (¬ ((2 : Int32) * (a0 + a1)) ≤ a2 → post (1 : Int32) ))))
set_option maxHeartbeats 4000000 in
set_option maxRecDepth 100000 in
theorem c_X2_decides (l : Launch) (D : va_G) (ci cz : ClassId) (tr : List (ClassId × FieldType)) (sz : Nat)  (a0 : Int32) (a1 : Int32) (a2 : Int32) (post : Int32 → Prop) (hw : wp_X2_decides a0 a1 a2 post) : gM l yX2_decides cX2_decides 3 (some .boolean) 0 0 D ci cz tr [] sz [.int a0, .int a1, .int a2] (gQi D [] sz (fun (r : Int32) w => w = [] ∧ post r )) := by
  refine gmet_z RX2 (by decide +kernel) rfl (Nat.le_of_ble_eq_true rfl) ?_
  intro p e s m args below meth c A R Q C hfr hlc hP hD hret ls hl
  obtain ⟨hx, hb, hml, hown, ht, hK, hZ, hA⟩ := C
  have hl : lv_has ls 3 [(0, .int a0), (1, .int a1), (2, .int a2)] := hl
  unfold wp_X2_decides at hw
  refine g_in (fun H locs => W p l e R s m args below meth c H locs 0 0 Q (F0 m 0 ls [])) (fun H locs hS0 hP => ?_) hP (va_S.rf (A := A) (H0 := s.heap))
  have hS : va_S A s.heap H locs := hS0
  clear hS0
  refine lv_iconst (v := (2 : Int32)) hx hb dX2_decides_0 (by decide) ?_
  refine lv_iload_n hx hb dX2_decides_1 rfl (lv_at hl 0 rfl) ?_
  refine lv_imul hx hb dX2_decides_2 ?_
  refine lv_iload_n hx hb dX2_decides_3 rfl (lv_at hl 2 rfl) ?_
  refine lv_icmp_gt (tgt := 20) hx hb dX2_decides_4 (by decide) (fun hc => ?_) (fun hc => ?_)
  · have hw := hw.1 hc
    refine lv_iconst (v := (0 : Int32)) hx hb dX2_decides_20 (by decide) ?_
    exact hret _ _ H locs _ _ (by decide) ⟨rfl, hw⟩ hP hS dX2_decides_21
  · have hw := hw.2 hc
    refine lv_iconst (v := (2 : Int32)) hx hb dX2_decides_7 (by decide) ?_
    refine lv_iload_n hx hb dX2_decides_8 rfl (lv_at hl 0 rfl) ?_
    refine lv_iload_n hx hb dX2_decides_9 rfl (lv_at hl 1 rfl) ?_
    refine lv_iadd hx hb dX2_decides_10 ?_
    refine lv_imul hx hb dX2_decides_11 ?_
    refine lv_iload_n hx hb dX2_decides_12 rfl (lv_at hl 2 rfl) ?_
    refine lv_icmp_le (tgt := 20) hx hb dX2_decides_13 (by decide) (fun hc => ?_) (fun hc => ?_)
    · have hw := hw.1 hc
      refine lv_iconst (v := (0 : Int32)) hx hb dX2_decides_20 (by decide) ?_
      exact hret _ _ H locs _ _ (by decide) ⟨rfl, hw⟩ hP hS dX2_decides_21
    · have hw := hw.2 hc
      refine lv_iconst (v := (1 : Int32)) hx hb dX2_decides_16 (by decide) ?_
      refine lv_goto (tgt := 21) hx hb dX2_decides_17 (by decide) ?_
      exact hret _ _ H locs _ _ (by decide) ⟨rfl, hw⟩ hP hS dX2_decides_21

def wp_X2_ordersAround  (a0 : Int32) (a1 : Int32) (post : Int32 → Prop) : Prop :=
  wp_J6_bitCount_0f7a4 a0 (fun (r_1 : Int32) => wp_X11_factorial r_1 (fun (r_2 : Int32) => wp_J6_bitCount_0f7a4 a1 (fun (r_3 : Int32) => wp_X11_factorial r_3 (fun (r_4 : Int32) => post (r_2 * r_4) ))))
set_option maxHeartbeats 4000000 in
set_option maxRecDepth 100000 in
theorem c_X2_ordersAround (l : Launch) (D : va_G) (ci cz : ClassId) (tr : List (ClassId × FieldType)) (sz : Nat)  (a0 : Int32) (a1 : Int32) (post : Int32 → Prop) (hw : wp_X2_ordersAround a0 a1 post) : gM l yX2_ordersAround cX2_ordersAround 2 (some .int) 1 20 D ci cz tr [] sz [.int a0, .int a1] (gQi D [] sz (fun (r : Int32) w => w = [] ∧ post r )) := by
  refine gmet_i RX2 (by decide +kernel) rfl (Nat.le_of_ble_eq_true rfl) ?_
  intro p e s m args below meth c A R Q C hfr hlc hP hD hret ls hl
  obtain ⟨hx, hb, hml, hown, ht, hK, hZ, hA⟩ := C
  have hl : lv_has ls 2 [(0, .int a0), (1, .int a1)] := hl
  unfold wp_X2_ordersAround at hw
  refine g_in (fun H locs => W p l e R s m args below meth c H locs 0 0 Q (F0 m 0 ls [])) (fun H locs hS0 hP => ?_) hP (va_S.rf (A := A) (H0 := s.heap))
  have hS : va_S A s.heap H locs := hS0
  clear hS0
  refine lv_iload_n hx hb dX2_ordersAround_0 rfl (lv_at hl 0 rfl) ?_
  refine gcalli (va_runS (As := [.int a0]) (rest := []) ⟨hx, hb, hml, hown, ht⟩ (c_J6_bitCount_0f7a4 l D ci cz tr  H.size a0 _ hw) (va_cwS 1 ht (gi_S mM_X2_35 mT_J6_bitCount_0f7a4 mN_J6 mC_J6_bitCount_0f7a4) rfl rfl rfl (by decide +kernel) ⟨Nat.le_trans (Nat.le_of_ble_eq_true rfl) hfr, Nat.le_trans (Nat.le_of_ble_eq_true rfl) hlc⟩) (gpre (wc := []) hK hZ hP hD hS hA [] rfl rfl) rfl rfl hl.1 rfl (lv_room (Nat.le_of_ble_eq_true rfl)) dX2_ordersAround_1 ⟨Nat.zero_le _, Nat.zero_le _⟩) hD hS hA [] rfl (fun r_1 w9 H locs hw hP9 hk9 hS => ?_)
  obtain ⟨rfl, hw⟩ := hw
  have hP : va_P D vwCl [] H := gjoin3 hP hD [] hP9 hk9 rfl rfl [] rfl rfl
  clear hP9 hk9
  refine gcalli (va_runSN (host := "DogVotes") (As := [.int r_1]) (rest := []) ⟨hx, hb, hml, hown, ht⟩ (c_X11_factorial l D ci cz tr  H.size r_1 _ hw) ⟨va_cnB 1 ht (gi_code mC_X11_factorial) rfl rfl rfl (hK.2.1 _ _ _ _ mQ_X2_40) (ht _ mN_X11) (by decide +kernel) ⟨Nat.le_trans (Nat.le_of_ble_eq_true rfl) hfr, Nat.le_trans (Nat.le_of_ble_eq_true rfl) hlc⟩, ht _ mT_X11_factorial, trivial⟩ (gpre (wc := []) hK hZ hP hD hS hA [] rfl rfl) rfl rfl hl.1 rfl (lv_room (Nat.le_of_ble_eq_true rfl)) dX2_ordersAround_4 ⟨Nat.zero_le _, Nat.zero_le _⟩) hD hS hA [] rfl (fun r_2 w9 H locs hw hP9 hk9 hS => ?_)
  obtain ⟨rfl, hw⟩ := hw
  have hP : va_P D vwCl [] H := gjoin3 hP hD [] hP9 hk9 rfl rfl [] rfl rfl
  clear hP9 hk9
  refine lv_iload_n hx hb dX2_ordersAround_7 rfl (lv_at hl 1 rfl) ?_
  refine gcalli (va_runS (As := [.int a1]) (rest := [.int r_2]) ⟨hx, hb, hml, hown, ht⟩ (c_J6_bitCount_0f7a4 l D ci cz tr  H.size a1 _ hw) (va_cwS 1 ht (gi_S mM_X2_35 mT_J6_bitCount_0f7a4 mN_J6 mC_J6_bitCount_0f7a4) rfl rfl rfl (by decide +kernel) ⟨Nat.le_trans (Nat.le_of_ble_eq_true rfl) hfr, Nat.le_trans (Nat.le_of_ble_eq_true rfl) hlc⟩) (gpre (wc := []) hK hZ hP hD hS hA [] rfl rfl) rfl rfl hl.1 rfl (lv_room (Nat.le_of_ble_eq_true rfl)) dX2_ordersAround_8 ⟨Nat.zero_le _, Nat.zero_le _⟩) hD hS hA [] rfl (fun r_3 w9 H locs hw hP9 hk9 hS => ?_)
  obtain ⟨rfl, hw⟩ := hw
  have hP : va_P D vwCl [] H := gjoin3 hP hD [] hP9 hk9 rfl rfl [] rfl rfl
  clear hP9 hk9
  refine gcalli (va_runSN (host := "DogVotes") (As := [.int r_3]) (rest := [.int r_2]) ⟨hx, hb, hml, hown, ht⟩ (c_X11_factorial l D ci cz tr  H.size r_3 _ hw) ⟨va_cnB 1 ht (gi_code mC_X11_factorial) rfl rfl rfl (hK.2.1 _ _ _ _ mQ_X2_40) (ht _ mN_X11) (by decide +kernel) ⟨Nat.le_trans (Nat.le_of_ble_eq_true rfl) hfr, Nat.le_trans (Nat.le_of_ble_eq_true rfl) hlc⟩, ht _ mT_X11_factorial, trivial⟩ (gpre (wc := []) hK hZ hP hD hS hA [] rfl rfl) rfl rfl hl.1 rfl (lv_room (Nat.le_of_ble_eq_true rfl)) dX2_ordersAround_11 ⟨Nat.zero_le _, Nat.zero_le _⟩) hD hS hA [] rfl (fun r_4 w9 H locs hw hP9 hk9 hS => ?_)
  obtain ⟨rfl, hw⟩ := hw
  have hP : va_P D vwCl [] H := gjoin3 hP hD [] hP9 hk9 rfl rfl [] rfl rfl
  clear hP9 hk9
  refine lv_imul hx hb dX2_ordersAround_14 ?_
  exact hret _ _ H locs _ _ ⟨rfl, hw⟩ hP hS dX2_ordersAround_15

def wp_X2_decisions (zp0_dogs : Int32) (zp0_halves : Nat → Int32) (a1 : Int32) (a2 : Int32) (post : Int32 → Prop) : Prop :=
  wp_X9_living zp0_dogs zp0_halves (fun (r_1 : Int32) => wp_X9_halvesOf zp0_dogs zp0_halves r_1 (fun (r_2 : Int32) => wp_X9_living zp0_dogs zp0_halves (fun (r_3 : Int32) => lo (fun _ _ => False) (fun (G27 : Int32 → Int32 → Prop) (x5_4 : Int32) (x6_5 : Int32) => ((((1 : Int32) <<< (zp0_dogs &&& 31)) ≤ x6_5 → post x5_4 ) ∧ (¬ ((1 : Int32) <<< (zp0_dogs &&& 31)) ≤ x6_5 → ((¬ (x6_5 &&& ((r_3 &&& (((1 : Int32) <<< (a1 &&& 31)) ^^^ (-1 : Int32))) ^^^ (-1 : Int32))) = 0 → G27 x5_4 (x6_5 + (1 : Int32))) ∧ ((x6_5 &&& ((r_3 &&& (((1 : Int32) <<< (a1 &&& 31)) ^^^ (-1 : Int32))) ^^^ (-1 : Int32))) = 0 → wp_X9_halvesOf zp0_dogs zp0_halves x6_5 (fun (r_6 : Int32) => (vp_in a1 7 ∧ wp_X2_decides r_6 (zp0_halves (a1).toNatClampNeg) r_2 (fun (r_7 : Int32) => ((r_7 = 0 → G27 x5_4 (x6_5 + (1 : Int32))) ∧ (¬ r_7 = 0 → jn (fun (t_8 : Int32) => G27 (x5_4 + t_8) (x6_5 + (1 : Int32))) (fun (J89 : Int32 → Prop) => ((a2 = 0 → J89 (1 : Int32)) ∧ (¬ a2 = 0 → wp_X2_ordersAround x6_5 ((r_3 &&& (((1 : Int32) <<< (a1 &&& 31)) ^^^ (-1 : Int32))) &&& (x6_5 ^^^ (-1 : Int32))) (fun (r_9 : Int32) => J89 r_9)))))))))))))) (fun G27 => G27 (0 : Int32) (0 : Int32)))))
set_option maxHeartbeats 4000000 in
set_option maxRecDepth 100000 in
theorem c_X2_decisions (l : Launch) (D : va_G) (ci cz : ClassId) (tr : List (ClassId × FieldType)) (q0 q1 : Nat) (sz : Nat) (u0 u1 u2 u3 : Value) (zp0_dogs : Int32) (zp0_halves : Nat → Int32) (a1 : Int32) (a2 : Int32) (post : Int32 → Prop) (hw : wp_X2_decisions zp0_dogs zp0_halves a1 a2 post) : gM l yX2_decisions cX2_decisions 7 (some .int) 2 43 D ci cz tr [(q0, .inr (8, [.int zp0_dogs, u0, .ref q1, u1, u2, u3])), (q1, .inl (ci, 7, .inl zp0_halves))] sz [.ref q0, .int a1, .int a2] (gQi D [(q0, .inr (8, [.int zp0_dogs, u0, .ref q1, u1, u2, u3])), (q1, .inl (ci, 7, .inl zp0_halves))] sz (fun (r : Int32) w => w = [(q0, .inr (8, [.int zp0_dogs, u0, .ref q1, u1, u2, u3])), (q1, .inl (ci, 7, .inl zp0_halves))] ∧ post r )) := by
  refine gmet_i RX2 (by decide +kernel) rfl (Nat.le_of_ble_eq_true rfl) ?_
  intro p e s m args below meth c A R Q C hfr hlc hP hD hret ls hl
  obtain ⟨hx, hb, hml, hown, ht, hK, hZ, hA⟩ := C
  have hl : lv_has ls 7 [(0, .ref q0), (1, .int a1), (2, .int a2)] := hl
  unfold wp_X2_decisions at hw
  refine g_in (fun H locs => W p l e R s m args below meth c H locs 0 0 Q (F0 m 0 ls [])) (fun H locs hS0 hP => ?_) hP (va_S.rf (A := A) (H0 := s.heap))
  have hS : va_S A s.heap H locs := hS0
  clear hS0
  refine lv_aload_n hx hb dX2_decisions_0 rfl (lv_at hl 0 rfl) ?_
  refine lv_aload_n hx hb dX2_decisions_1 rfl (lv_at hl 0 rfl) ?_
  refine gcalli (va_runV (As := []) (rest := [.ref q0]) ⟨hx, hb, hml, hown, ht⟩ (c_X9_living l D ci cz tr q0 q1 H.size u0 u1 u2 u3 zp0_dogs zp0_halves _ hw) (cwV 0 ht (gi_V mM_X2_7 mI_X9_living mS_X9_living mN_X9 mC_X9_living) rfl rfl rfl (by decide +kernel) ⟨Nat.le_trans (Nat.le_of_ble_eq_true rfl) hfr, Nat.le_trans (Nat.le_of_ble_eq_true rfl) hlc⟩) (gpreV (wc := [(q0, .inr (8, [.int zp0_dogs, u0, .ref q1, u1, u2, u3])), (q1, .inl (ci, 7, .inl zp0_halves))]) (k := 8) (q0 := 0) hK hZ hP hD hS hA [0, 1] rfl rfl rfl rfl rfl) rfl rfl hl.1 rfl (lv_room (Nat.le_of_ble_eq_true rfl)) dX2_decisions_2 ⟨Nat.zero_le _, Nat.zero_le _⟩) hD hS hA [0, 1] rfl (fun r_1 w9 H locs hw hP9 hk9 hS => ?_)
  obtain ⟨rfl, hw⟩ := hw
  have hP : va_P D vwCl [(q0, .inr (8, [.int zp0_dogs, u0, .ref q1, u1, u2, u3])), (q1, .inl (ci, 7, .inl zp0_halves))] H := gjoin3 hP hD [0, 1] hP9 hk9 rfl rfl [some 0, some 1] rfl rfl
  clear hP9 hk9
  refine gcalli (va_runV (As := [.int r_1]) (rest := []) ⟨hx, hb, hml, hown, ht⟩ (c_X9_halvesOf l D ci cz tr q0 q1 H.size u0 u1 u2 u3 zp0_dogs zp0_halves r_1 _ hw) (cwV 1 ht (gi_V mM_X2_13 mI_X9_halvesOf mS_X9_halvesOf mN_X9 mC_X9_halvesOf) rfl rfl rfl (by decide +kernel) ⟨Nat.le_trans (Nat.le_of_ble_eq_true rfl) hfr, Nat.le_trans (Nat.le_of_ble_eq_true rfl) hlc⟩) (gpreV (wc := [(q0, .inr (8, [.int zp0_dogs, u0, .ref q1, u1, u2, u3])), (q1, .inl (ci, 7, .inl zp0_halves))]) (k := 8) (q0 := 0) hK hZ hP hD hS hA [0, 1] rfl rfl rfl rfl rfl) rfl rfl hl.1 rfl (lv_room (Nat.le_of_ble_eq_true rfl)) dX2_decisions_5 ⟨Nat.zero_le _, Nat.zero_le _⟩) hD hS hA [0, 1] rfl (fun r_2 w9 H locs hw hP9 hk9 hS => ?_)
  obtain ⟨rfl, hw⟩ := hw
  have hP : va_P D vwCl [(q0, .inr (8, [.int zp0_dogs, u0, .ref q1, u1, u2, u3])), (q1, .inl (ci, 7, .inl zp0_halves))] H := gjoin3 hP hD [0, 1] hP9 hk9 rfl rfl [some 0, some 1] rfl rfl
  clear hP9 hk9
  refine lv_istore_n (lv' := [(3, .int r_2), (0, .ref q0), (1, .int a1), (2, .int a2)]) hx hb dX2_decisions_8 rfl hl (by decide) rfl (fun ls hl => ?_)
  refine lv_aload_n hx hb dX2_decisions_9 rfl (lv_at hl 1 rfl) ?_
  refine gcalli (va_runV (As := []) (rest := []) ⟨hx, hb, hml, hown, ht⟩ (c_X9_living l D ci cz tr q0 q1 H.size u0 u1 u2 u3 zp0_dogs zp0_halves _ hw) (cwV 0 ht (gi_V mM_X2_7 mI_X9_living mS_X9_living mN_X9 mC_X9_living) rfl rfl rfl (by decide +kernel) ⟨Nat.le_trans (Nat.le_of_ble_eq_true rfl) hfr, Nat.le_trans (Nat.le_of_ble_eq_true rfl) hlc⟩) (gpreV (wc := [(q0, .inr (8, [.int zp0_dogs, u0, .ref q1, u1, u2, u3])), (q1, .inl (ci, 7, .inl zp0_halves))]) (k := 8) (q0 := 0) hK hZ hP hD hS hA [0, 1] rfl rfl rfl rfl rfl) rfl rfl hl.1 rfl (lv_room (Nat.le_of_ble_eq_true rfl)) dX2_decisions_10 ⟨Nat.zero_le _, Nat.zero_le _⟩) hD hS hA [0, 1] rfl (fun r_3 w9 H locs hw hP9 hk9 hS => ?_)
  obtain ⟨rfl, hw⟩ := hw
  have hP : va_P D vwCl [(q0, .inr (8, [.int zp0_dogs, u0, .ref q1, u1, u2, u3])), (q1, .inl (ci, 7, .inl zp0_halves))] H := gjoin3 hP hD [0, 1] hP9 hk9 rfl rfl [some 0, some 1] rfl rfl
  clear hP9 hk9
  refine lv_iconst (v := (1 : Int32)) hx hb dX2_decisions_13 (by decide) ?_
  refine lv_iload_n hx hb dX2_decisions_14 rfl (lv_at hl 2 rfl) ?_
  refine lv_ishl hx hb dX2_decisions_15 ?_
  refine lv_iconst (v := (-1 : Int32)) hx hb dX2_decisions_16 (by decide) ?_
  refine lv_ixor hx hb dX2_decisions_17 ?_
  refine lv_iand hx hb dX2_decisions_18 ?_
  refine lv_istore (lv' := [(4, .int (r_3 &&& (((1 : Int32) <<< (a1 &&& 31)) ^^^ (-1 : Int32)))), (3, .int r_2), (0, .ref q0), (1, .int a1), (2, .int a2)]) hx hb dX2_decisions_19 hl (by decide) rfl (fun ls hl => ?_)
  refine lv_iconst (v := (0 : Int32)) hx hb dX2_decisions_21 (by decide) ?_
  refine lv_istore (lv' := [(5, .int (0 : Int32)), (4, .int (r_3 &&& (((1 : Int32) <<< (a1 &&& 31)) ^^^ (-1 : Int32)))), (3, .int r_2), (0, .ref q0), (1, .int a1), (2, .int a2)]) hx hb dX2_decisions_22 hl (by decide) rfl (fun ls hl => ?_)
  refine lv_iconst (v := (0 : Int32)) hx hb dX2_decisions_24 (by decide) ?_
  refine lv_istore (lv' := [(6, .int (0 : Int32)), (5, .int (0 : Int32)), (4, .int (r_3 &&& (((1 : Int32) <<< (a1 &&& 31)) ^^^ (-1 : Int32)))), (3, .int r_2), (0, .ref q0), (1, .int a1), (2, .int a2)]) hx hb dX2_decisions_25 hl (by decide) rfl (fun ls hl => ?_)
  refine lo_walk hw (fun G27 => ∀ (x5_4 : Int32) (x6_5 : Int32) (H : Heap) (locs : List Loc) (ls : Array Slot), G27 x5_4 x6_5 → va_P D vwCl [(q0, .inr (8, [.int zp0_dogs, u0, .ref q1, u1, u2, u3])), (q1, .inl (ci, 7, .inl zp0_halves))] H → va_S A s.heap H locs → lv_has ls 7 [(0, .ref q0), (1, .int a1), (2, .int a2), (3, .int r_2), (4, .int (r_3 &&& (((1 : Int32) <<< (a1 &&& 31)) ^^^ (-1 : Int32)))), (5, .int x5_4), (6, .int x6_5)] → W p l e R s m args below meth c H locs 0 0 Q (F0 m 27 ls [])) (fun _ _ _ _ _ hw _ _ _ => False.elim hw) (fun G27 hG27 x5_4 x6_5 H locs ls hw hP hS hl => ?_) (fun G27 hG27 hw => hG27 _ _ H locs ls hw hP hS (lv_sub hl [4, 5, 6, 3, 2, 1, 0] rfl))
  have hD : va_D A [(q0, .inr (8, [.int zp0_dogs, u0, .ref q1, u1, u2, u3])), (q1, .inl (ci, 7, .inl zp0_halves))] := gD_re hD rfl
  refine lv_iload hx hb dX2_decisions_27 (lv_at hl 6 rfl) ?_
  refine lv_iconst (v := (1 : Int32)) hx hb dX2_decisions_29 (by decide) ?_
  refine lv_aload_n hx hb dX2_decisions_30 rfl (lv_at hl 0 rfl) ?_
  refine va_get (D := D) (ci := 8) (v := .int zp0_dogs) (C := RX9) (T := TX9) (N := 6) hx hb ht in_X9 hown hK.1 hP 0 rfl rfl 0 (by decide) (ht _ mF_X2_17) (fun _ h9 => h9) rfl dX2_decisions_31 ?_
  refine lv_ishl hx hb dX2_decisions_34 ?_
  refine lv_icmp_ge (tgt := 98) hx hb dX2_decisions_35 (by decide) (fun hc => ?_) (fun hc => ?_)
  · have hw := hw.1 hc
    refine lv_iload hx hb dX2_decisions_98 (lv_at hl 5 rfl) ?_
    exact hret _ _ H locs _ _ ⟨rfl, hw⟩ hP hS dX2_decisions_100
  · have hw := hw.2 hc
    refine lv_iload hx hb dX2_decisions_38 (lv_at hl 6 rfl) ?_
    refine lv_iload hx hb dX2_decisions_40 (lv_at hl 4 rfl) ?_
    refine lv_iconst (v := (-1 : Int32)) hx hb dX2_decisions_42 (by decide) ?_
    refine lv_ixor hx hb dX2_decisions_43 ?_
    refine lv_iand hx hb dX2_decisions_44 ?_
    refine lv_if_ne (tgt := 92) hx hb dX2_decisions_45 (by decide) (fun hc => ?_) (fun hc => ?_)
    · have hw := hw.1 hc
      refine lv_iinc (v := (x6_5 + (1 : Int32))) (lv' := [(6, .int (x6_5 + (1 : Int32))), (0, .ref q0), (1, .int a1), (2, .int a2), (3, .int r_2), (4, .int (r_3 &&& (((1 : Int32) <<< (a1 &&& 31)) ^^^ (-1 : Int32)))), (5, .int x5_4)]) hx hb dX2_decisions_92 hl (k := 6) rfl rfl (by decide) rfl (fun ls hl => ?_)
      refine lv_goto (tgt := 27) hx hb dX2_decisions_95 (by decide) ?_
      exact hG27 _ _ H locs ls hw hP hS (lv_sub hl [1, 2, 3, 4, 5, 6, 0] rfl)
    · have hw := hw.2 hc
      refine lv_aload_n hx hb dX2_decisions_48 rfl (lv_at hl 0 rfl) ?_
      refine lv_iload hx hb dX2_decisions_49 (lv_at hl 6 rfl) ?_
      refine gcalli (va_runV (As := [.int x6_5]) (rest := []) ⟨hx, hb, hml, hown, ht⟩ (c_X9_halvesOf l D ci cz tr q0 q1 H.size u0 u1 u2 u3 zp0_dogs zp0_halves x6_5 _ hw) (cwV 1 ht (gi_V mM_X2_13 mI_X9_halvesOf mS_X9_halvesOf mN_X9 mC_X9_halvesOf) rfl rfl rfl (by decide +kernel) ⟨Nat.le_trans (Nat.le_of_ble_eq_true rfl) hfr, Nat.le_trans (Nat.le_of_ble_eq_true rfl) hlc⟩) (gpreV (wc := [(q0, .inr (8, [.int zp0_dogs, u0, .ref q1, u1, u2, u3])), (q1, .inl (ci, 7, .inl zp0_halves))]) (k := 8) (q0 := 0) hK hZ hP hD hS hA [0, 1] rfl rfl rfl rfl rfl) rfl rfl hl.1 rfl (lv_room (Nat.le_of_ble_eq_true rfl)) dX2_decisions_51 ⟨Nat.zero_le _, Nat.zero_le _⟩) hD hS hA [0, 1] rfl (fun r_6 w9 H locs hw hP9 hk9 hS => ?_)
      obtain ⟨rfl, hw⟩ := hw
      have hP : va_P D vwCl [(q0, .inr (8, [.int zp0_dogs, u0, .ref q1, u1, u2, u3])), (q1, .inl (ci, 7, .inl zp0_halves))] H := gjoin3 hP hD [0, 1] hP9 hk9 rfl rfl [some 0, some 1] rfl rfl
      clear hP9 hk9
      refine lv_aload_n hx hb dX2_decisions_54 rfl (lv_at hl 0 rfl) ?_
      refine va_get (D := D) (ci := 8) (v := .ref q1) (C := RX9) (T := TX9) (N := 6) hx hb ht in_X9 hown hK.1 hP 0 rfl rfl 2 (by decide) (ht _ mF_X2_21) (fun _ h9 => h9) rfl dX2_decisions_55 ?_
      refine lv_iload_n hx hb dX2_decisions_58 rfl (lv_at hl 1 rfl) ?_
      obtain ⟨hin, hw⟩ := hw
      refine va_iald (D := D) hx hb hK.1 hP 1 0 rfl rfl hin dX2_decisions_59 ?_
      refine lv_iload_n hx hb dX2_decisions_60 rfl (lv_at hl 3 rfl) ?_
      refine gcalli (va_runS (As := [.int r_6, .int (zp0_halves (a1).toNatClampNeg), .int r_2]) (rest := []) ⟨hx, hb, hml, hown, ht⟩ (c_X2_decides l D ci cz tr  H.size r_6 (zp0_halves (a1).toNatClampNeg) r_2 _ hw) (va_cwS 3 ht (gi_S mM_X2_25 mT_X2_decides mN_X2 mC_X2_decides) rfl rfl rfl (by decide +kernel) ⟨Nat.le_trans (Nat.le_of_ble_eq_true rfl) hfr, Nat.le_trans (Nat.le_of_ble_eq_true rfl) hlc⟩) (gpre (wc := []) hK hZ hP hD hS hA [] rfl rfl) rfl rfl hl.1 rfl (lv_room (Nat.le_of_ble_eq_true rfl)) dX2_decisions_61 ⟨Nat.zero_le _, Nat.zero_le _⟩) hD hS hA [] rfl (fun r_7 w9 H locs hw hP9 hk9 hS => ?_)
      obtain ⟨rfl, hw⟩ := hw
      have hP : va_P D vwCl [(q0, .inr (8, [.int zp0_dogs, u0, .ref q1, u1, u2, u3])), (q1, .inl (ci, 7, .inl zp0_halves))] H := gjoin3 hP hD [] hP9 hk9 rfl rfl [none, none] rfl rfl
      clear hP9 hk9
      refine lv_if_eq (tgt := 92) hx hb dX2_decisions_64 (by decide) (fun hc => ?_) (fun hc => ?_)
      · have hw := hw.1 hc
        refine lv_iinc (v := (x6_5 + (1 : Int32))) (lv' := [(6, .int (x6_5 + (1 : Int32))), (0, .ref q0), (1, .int a1), (2, .int a2), (3, .int r_2), (4, .int (r_3 &&& (((1 : Int32) <<< (a1 &&& 31)) ^^^ (-1 : Int32)))), (5, .int x5_4)]) hx hb dX2_decisions_92 hl (k := 6) rfl rfl (by decide) rfl (fun ls hl => ?_)
        refine lv_goto (tgt := 27) hx hb dX2_decisions_95 (by decide) ?_
        exact hG27 _ _ H locs ls hw hP hS (lv_sub hl [1, 2, 3, 4, 5, 6, 0] rfl)
      · have hw := hw.2 hc
        refine lv_iload hx hb dX2_decisions_67 (lv_at hl 5 rfl) ?_
        refine lv_iload_n hx hb dX2_decisions_69 rfl (lv_at hl 2 rfl) ?_
        refine jn_walk hw (fun J89 => ∀ (t_8 : Int32) (H : Heap) (locs : List Loc) (ls : Array Slot), J89 t_8 → va_P D vwCl [(q0, .inr (8, [.int zp0_dogs, u0, .ref q1, u1, u2, u3])), (q1, .inl (ci, 7, .inl zp0_halves))] H → va_S A s.heap H locs → lv_has ls 7 [(0, .ref q0), (1, .int a1), (2, .int a2), (3, .int r_2), (4, .int (r_3 &&& (((1 : Int32) <<< (a1 &&& 31)) ^^^ (-1 : Int32)))), (6, .int x6_5)] → W p l e R s m args below meth c H locs 0 0 Q (F0 m 89 ls [.int t_8, .int x5_4])) ?_ ?_
        · intro t_8 H locs ls hw hP hS hl
          have hD : va_D A [(q0, .inr (8, [.int zp0_dogs, u0, .ref q1, u1, u2, u3])), (q1, .inl (ci, 7, .inl zp0_halves))] := gD_re hD rfl
          refine lv_iadd hx hb dX2_decisions_89 ?_
          refine lv_istore (lv' := [(5, .int (x5_4 + t_8)), (0, .ref q0), (1, .int a1), (2, .int a2), (3, .int r_2), (4, .int (r_3 &&& (((1 : Int32) <<< (a1 &&& 31)) ^^^ (-1 : Int32)))), (6, .int x6_5)]) hx hb dX2_decisions_90 hl (by decide) rfl (fun ls hl => ?_)
          refine lv_iinc (v := (x6_5 + (1 : Int32))) (lv' := [(6, .int (x6_5 + (1 : Int32))), (5, .int (x5_4 + t_8)), (0, .ref q0), (1, .int a1), (2, .int a2), (3, .int r_2), (4, .int (r_3 &&& (((1 : Int32) <<< (a1 &&& 31)) ^^^ (-1 : Int32))))]) hx hb dX2_decisions_92 hl (k := 6) rfl rfl (by decide) rfl (fun ls hl => ?_)
          refine lv_goto (tgt := 27) hx hb dX2_decisions_95 (by decide) ?_
          exact hG27 _ _ H locs ls hw hP hS (lv_sub hl [2, 3, 4, 5, 6, 1, 0] rfl)
        · intro J89 hJ89 hw
          refine lv_if_eq (tgt := 88) hx hb dX2_decisions_70 (by decide) (fun hc => ?_) (fun hc => ?_)
          · have hw := hw.1 hc
            refine lv_iconst (v := (1 : Int32)) hx hb dX2_decisions_88 (by decide) ?_
            exact hJ89 _ H locs ls hw hP hS (lv_sub hl [0, 1, 2, 3, 4, 6] rfl)
          · have hw := hw.2 hc
            refine lv_iload hx hb dX2_decisions_73 (lv_at hl 6 rfl) ?_
            refine lv_iload hx hb dX2_decisions_75 (lv_at hl 4 rfl) ?_
            refine lv_iload hx hb dX2_decisions_77 (lv_at hl 6 rfl) ?_
            refine lv_iconst (v := (-1 : Int32)) hx hb dX2_decisions_79 (by decide) ?_
            refine lv_ixor hx hb dX2_decisions_80 ?_
            refine lv_iand hx hb dX2_decisions_81 ?_
            refine gcalli (va_runS (As := [.int x6_5, .int ((r_3 &&& (((1 : Int32) <<< (a1 &&& 31)) ^^^ (-1 : Int32))) &&& (x6_5 ^^^ (-1 : Int32)))]) (rest := [.int x5_4]) ⟨hx, hb, hml, hown, ht⟩ (c_X2_ordersAround l D ci cz tr  H.size x6_5 ((r_3 &&& (((1 : Int32) <<< (a1 &&& 31)) ^^^ (-1 : Int32))) &&& (x6_5 ^^^ (-1 : Int32))) _ hw) (va_cwS 2 ht (gi_S mM_X2_31 mT_X2_ordersAround mN_X2 mC_X2_ordersAround) rfl rfl rfl (by decide +kernel) ⟨Nat.le_trans (Nat.le_of_ble_eq_true rfl) hfr, Nat.le_trans (Nat.le_of_ble_eq_true rfl) hlc⟩) (gpre (wc := []) hK hZ hP hD hS hA [] rfl rfl) rfl rfl hl.1 rfl (lv_room (Nat.le_of_ble_eq_true rfl)) dX2_decisions_82 ⟨Nat.zero_le _, Nat.zero_le _⟩) hD hS hA [] rfl (fun r_9 w9 H locs hw hP9 hk9 hS => ?_)
            obtain ⟨rfl, hw⟩ := hw
            have hP : va_P D vwCl [(q0, .inr (8, [.int zp0_dogs, u0, .ref q1, u1, u2, u3])), (q1, .inl (ci, 7, .inl zp0_halves))] H := gjoin3 hP hD [] hP9 hk9 rfl rfl [none, none] rfl rfl
            clear hP9 hk9
            refine lv_goto (tgt := 89) hx hb dX2_decisions_85 (by decide) ?_
            exact hJ89 _ H locs ls hw hP hS (lv_sub hl [0, 1, 2, 3, 4, 6] rfl)

def wp_X11_swings (zparish_roll_dogs : Int32) (zparish_roll_halves : Nat → Int32) (a1 : Int32) (post : Int32 → Prop) : Prop :=
  wp_X9_has zparish_roll_dogs a1 (fun (r_1 : Int32) => ((r_1 = 0 → post (-1 : Int32) ) ∧ (¬ r_1 = 0 → wp_X2_decisions zparish_roll_dogs zparish_roll_halves a1 (0 : Int32) (fun (r_2 : Int32) => post r_2 ))))
set_option maxHeartbeats 4000000 in
set_option maxRecDepth 100000 in
theorem c_X11_swings (l : Launch) (D : va_G) (ci cz : ClassId) (tr : List (ClassId × FieldType)) (q0 q1 q2 q3 : Nat) (sz : Nat) (u0 u1 u2 u3 u4 u5 u6 u7 u8 u9 u10 u11 u12 u13 u14 : Value) (zparish_roll_dogs : Int32) (zparish_roll_halves : Nat → Int32) (a1 : Int32) (post : Int32 → Prop) (hw : wp_X11_swings zparish_roll_dogs zparish_roll_halves a1 post) : gM l yX11_swings cX11_swings 2 (some .int) 3 69 D ci cz tr [(q0, .inr (10, [u0, .ref q1, u1, u2, u3, u4, u5, u6, u7])), (q1, .inr (7, [.ref q2, u8, u9, u10])), (q2, .inr (8, [.int zparish_roll_dogs, u11, .ref q3, u12, u13, u14])), (q3, .inl (ci, 7, .inl zparish_roll_halves))] sz [.ref q0, .int a1] (gQi D [(q0, .inr (10, [u0, .ref q1, u1, u2, u3, u4, u5, u6, u7])), (q1, .inr (7, [.ref q2, u8, u9, u10])), (q2, .inr (8, [.int zparish_roll_dogs, u11, .ref q3, u12, u13, u14])), (q3, .inl (ci, 7, .inl zparish_roll_halves))] sz (fun (r : Int32) w => w = [(q0, .inr (10, [u0, .ref q1, u1, u2, u3, u4, u5, u6, u7])), (q1, .inr (7, [.ref q2, u8, u9, u10])), (q2, .inr (8, [.int zparish_roll_dogs, u11, .ref q3, u12, u13, u14])), (q3, .inl (ci, 7, .inl zparish_roll_halves))] ∧ post r )) := by
  refine gmet_i RX11 (by decide +kernel) rfl (Nat.le_of_ble_eq_true rfl) ?_
  intro p e s m args below meth c A R Q C hfr hlc hP hD hret ls hl
  obtain ⟨hx, hb, hml, hown, ht, hK, hZ, hA⟩ := C
  have hl : lv_has ls 2 [(0, .ref q0), (1, .int a1)] := hl
  unfold wp_X11_swings at hw
  refine g_in (fun H locs => W p l e R s m args below meth c H locs 0 0 Q (F0 m 0 ls [])) (fun H locs hS0 hP => ?_) hP (va_S.rf (A := A) (H0 := s.heap))
  have hS : va_S A s.heap H locs := hS0
  clear hS0
  refine lv_aload_n hx hb dX11_swings_0 rfl (lv_at hl 0 rfl) ?_
  refine va_get (D := D) (ci := 10) (v := .ref q1) (C := RX11) (T := TX11) (N := 9) hx hb ht in_X11 hown hK.1 hP 0 rfl rfl 1 (by decide) (ht _ mF_X11_19) (fun _ h9 => h9) rfl dX11_swings_1 ?_
  refine va_get (D := D) (ci := 7) (v := .ref q2) (C := RX8) (T := TX8) (N := 4) hx hb ht in_X8 hown hK.1 hP 1 rfl rfl 0 (by decide) (ht _ mF_X11_74) (fun _ h9 => h9) rfl dX11_swings_4 ?_
  refine lv_iload_n hx hb dX11_swings_7 rfl (lv_at hl 1 rfl) ?_
  refine gcalli (va_runV (As := [.int a1]) (rest := []) ⟨hx, hb, hml, hown, ht⟩ (c_X9_has l D ci cz tr q2 H.size u11 (.ref q3) u12 u13 u14 zparish_roll_dogs a1 _ hw) (cwV 1 ht (gi_V mM_X11_100 mI_X9_has mS_X9_has mN_X9 mC_X9_has) rfl rfl rfl (by decide +kernel) ⟨Nat.le_trans (Nat.le_of_ble_eq_true rfl) hfr, Nat.le_trans (Nat.le_of_ble_eq_true rfl) hlc⟩) (gpreV (wc := [(q2, .inr (8, [.int zparish_roll_dogs, u11, .ref q3, u12, u13, u14]))]) (k := 8) (q0 := 2) hK hZ hP hD hS hA [2] rfl rfl rfl rfl rfl) rfl rfl hl.1 rfl (lv_room (Nat.le_of_ble_eq_true rfl)) dX11_swings_8 ⟨Nat.zero_le _, Nat.zero_le _⟩) hD hS hA [2] rfl (fun r_1 w9 H locs hw hP9 hk9 hS => ?_)
  obtain ⟨rfl, hw⟩ := hw
  have hP : va_P D vwCl [(q0, .inr (10, [u0, .ref q1, u1, u2, u3, u4, u5, u6, u7])), (q1, .inr (7, [.ref q2, u8, u9, u10])), (q2, .inr (8, [.int zparish_roll_dogs, u11, .ref q3, u12, u13, u14])), (q3, .inl (ci, 7, .inl zparish_roll_halves))] H := gjoin3 hP hD [2] hP9 hk9 rfl rfl [none, none, some 0, none] rfl rfl
  clear hP9 hk9
  refine lv_if_eq (tgt := 29) hx hb dX11_swings_11 (by decide) (fun hc => ?_) (fun hc => ?_)
  · have hw := hw.1 hc
    refine lv_iconst (v := (-1 : Int32)) hx hb dX11_swings_29 (by decide) ?_
    exact hret _ _ H locs _ _ ⟨rfl, hw⟩ hP hS dX11_swings_30
  · have hw := hw.2 hc
    refine lv_aload_n hx hb dX11_swings_14 rfl (lv_at hl 0 rfl) ?_
    refine va_get (D := D) (ci := 10) (v := .ref q1) (C := RX11) (T := TX11) (N := 9) hx hb ht in_X11 hown hK.1 hP 0 rfl rfl 1 (by decide) (ht _ mF_X11_19) (fun _ h9 => h9) rfl dX11_swings_15 ?_
    refine va_get (D := D) (ci := 7) (v := .ref q2) (C := RX8) (T := TX8) (N := 4) hx hb ht in_X8 hown hK.1 hP 1 rfl rfl 0 (by decide) (ht _ mF_X11_74) (fun _ h9 => h9) rfl dX11_swings_18 ?_
    refine lv_iload_n hx hb dX11_swings_21 rfl (lv_at hl 1 rfl) ?_
    refine lv_iconst (v := (0 : Int32)) hx hb dX11_swings_22 (by decide) ?_
    refine gcalli (va_runS (As := [.ref q2, .int a1, .int (0 : Int32)]) (rest := []) ⟨hx, hb, hml, hown, ht⟩ (c_X2_decisions l D ci cz tr q2 q3 H.size u11 u12 u13 u14 zparish_roll_dogs zparish_roll_halves a1 (0 : Int32) _ hw) (va_cwS 3 ht (gi_S mM_X11_168 mT_X2_decisions mN_X2 mC_X2_decisions) rfl rfl rfl (by decide +kernel) ⟨Nat.le_trans (Nat.le_of_ble_eq_true rfl) hfr, Nat.le_trans (Nat.le_of_ble_eq_true rfl) hlc⟩) (gpre (wc := [(q2, .inr (8, [.int zparish_roll_dogs, u11, .ref q3, u12, u13, u14])), (q3, .inl (ci, 7, .inl zparish_roll_halves))]) hK hZ hP hD hS hA [2, 3] rfl rfl) rfl rfl hl.1 rfl (lv_room (Nat.le_of_ble_eq_true rfl)) dX11_swings_23 ⟨Nat.zero_le _, Nat.zero_le _⟩) hD hS hA [2, 3] rfl (fun r_2 w9 H locs hw hP9 hk9 hS => ?_)
    obtain ⟨rfl, hw⟩ := hw
    have hP : va_P D vwCl [(q0, .inr (10, [u0, .ref q1, u1, u2, u3, u4, u5, u6, u7])), (q1, .inr (7, [.ref q2, u8, u9, u10])), (q2, .inr (8, [.int zparish_roll_dogs, u11, .ref q3, u12, u13, u14])), (q3, .inl (ci, 7, .inl zparish_roll_halves))] H := gjoin3 hP hD [2, 3] hP9 hk9 rfl rfl [none, none, some 0, some 1] rfl rfl
    clear hP9 hk9
    refine lv_goto (tgt := 30) hx hb dX11_swings_26 (by decide) ?_
    exact hret _ _ H locs _ _ ⟨rfl, hw⟩ hP hS dX11_swings_30

def wp_X11_told (zpad_size : Int32) (zparish_hunger : Int32) (zparish_roll_dogs : Int32) (zparish_roll_untold : Int32) (zparish_roll_heirs : Nat → Int32) (zparish_counts_size : Int32) (zparish_questions_size : Int32) (a1 : Int32) (post : Int32 → Prop) : Prop :=
  ((a1 = 0 → post zpad_size ) ∧ (¬ a1 = 0 → ((a1 = 1 → post zparish_roll_dogs ) ∧ (¬ a1 = 1 → ((a1 = 2 → post zparish_hunger ) ∧ (¬ a1 = 2 → ((a1 = 3 → post zparish_counts_size ) ∧ (¬ a1 = 3 → ((a1 = 4 → post zparish_questions_size ) ∧ (¬ a1 = 4 → ((a1 = 5 → wp_J6_bitCount_0f7a4 zparish_roll_untold (fun (r_1 : Int32) => post r_1 )) ∧ (¬ a1 = 5 → wp_X9_has zparish_roll_dogs (a1 - (10 : Int32)) (fun (r_2 : Int32) => ((r_2 = 0 → post (-2 : Int32) ) ∧ (¬ r_2 = 0 → (vp_in (a1 - (10 : Int32)) 7 ∧ wp_X11_heirTold (zparish_roll_heirs ((a1 - (10 : Int32))).toNatClampNeg) (fun (r_3 : Int32) => post r_3 )))))))))))))))))
set_option maxHeartbeats 4000000 in
set_option maxRecDepth 100000 in
theorem c_X11_told (l : Launch) (D : va_G) (ci cz : ClassId) (tr : List (ClassId × FieldType)) (q0 q1 q2 q3 q4 q5 q6 : Nat) (sz : Nat) (u0 u1 u2 u3 u4 u5 u6 u7 u8 u9 u10 u11 u12 u13 u14 u15 u16 u17 u18 u19 u20 : Value) (zpad_size : Int32) (zparish_hunger : Int32) (zparish_roll_dogs : Int32) (zparish_roll_untold : Int32) (zparish_roll_heirs : Nat → Int32) (zparish_counts_size : Int32) (zparish_questions_size : Int32) (a1 : Int32) (post : Int32 → Prop) (hw : wp_X11_told zpad_size zparish_hunger zparish_roll_dogs zparish_roll_untold zparish_roll_heirs zparish_counts_size zparish_questions_size a1 post) : gM l yX11_told cX11_told 3 (some .int) 1 21 D ci cz tr [(q0, .inr (10, [.ref q1, .ref q2, u0, u1, u2, u3, u4, u5, u6])), (q1, .inr (6, [u7, .int zpad_size, u8, u9, u10, u11])), (q2, .inr (7, [.ref q3, .ref q5, .ref q6, .int zparish_hunger])), (q3, .inr (8, [.int zparish_roll_dogs, .int zparish_roll_untold, u12, u13, u14, .ref q4])), (q4, .inl (ci, 7, .inl zparish_roll_heirs)), (q5, .inr (9, [.int zparish_counts_size, u15, u16, u17])), (q6, .inr (9, [.int zparish_questions_size, u18, u19, u20]))] sz [.ref q0, .int a1] (gQi D [(q0, .inr (10, [.ref q1, .ref q2, u0, u1, u2, u3, u4, u5, u6])), (q1, .inr (6, [u7, .int zpad_size, u8, u9, u10, u11])), (q2, .inr (7, [.ref q3, .ref q5, .ref q6, .int zparish_hunger])), (q3, .inr (8, [.int zparish_roll_dogs, .int zparish_roll_untold, u12, u13, u14, .ref q4])), (q4, .inl (ci, 7, .inl zparish_roll_heirs)), (q5, .inr (9, [.int zparish_counts_size, u15, u16, u17])), (q6, .inr (9, [.int zparish_questions_size, u18, u19, u20]))] sz (fun (r : Int32) w => w = [(q0, .inr (10, [.ref q1, .ref q2, u0, u1, u2, u3, u4, u5, u6])), (q1, .inr (6, [u7, .int zpad_size, u8, u9, u10, u11])), (q2, .inr (7, [.ref q3, .ref q5, .ref q6, .int zparish_hunger])), (q3, .inr (8, [.int zparish_roll_dogs, .int zparish_roll_untold, u12, u13, u14, .ref q4])), (q4, .inl (ci, 7, .inl zparish_roll_heirs)), (q5, .inr (9, [.int zparish_counts_size, u15, u16, u17])), (q6, .inr (9, [.int zparish_questions_size, u18, u19, u20]))] ∧ post r )) := by
  refine gmet_i RX11 (by decide +kernel) rfl (Nat.le_of_ble_eq_true rfl) ?_
  intro p e s m args below meth c A R Q C hfr hlc hP hD hret ls hl
  obtain ⟨hx, hb, hml, hown, ht, hK, hZ, hA⟩ := C
  have hl : lv_has ls 3 [(0, .ref q0), (1, .int a1)] := hl
  unfold wp_X11_told at hw
  refine g_in (fun H locs => W p l e R s m args below meth c H locs 0 0 Q (F0 m 0 ls [])) (fun H locs hS0 hP => ?_) hP (va_S.rf (A := A) (H0 := s.heap))
  have hS : va_S A s.heap H locs := hS0
  clear hS0
  refine lv_iload_n hx hb dX11_told_0 rfl (lv_at hl 1 rfl) ?_
  by_cases hk0 : a1 = (0 : Int32)
  · have hw := hw.1 hk0
    refine lv_tableIn (tgt := 40) hx hb dX11_told_1 (by rw [hk0]; decide) (by rw [hk0]; decide) (by rw [hk0]; rfl) (by decide) ?_
    refine lv_aload_n hx hb dX11_told_40 rfl (lv_at hl 0 rfl) ?_
    refine va_get (D := D) (ci := 10) (v := .ref q1) (C := RX11) (T := TX11) (N := 9) hx hb ht in_X11 hown hK.1 hP 0 rfl rfl 0 (by decide) (ht _ mF_X11_12) (fun _ h9 => h9) rfl dX11_told_41 ?_
    refine va_get (D := D) (ci := 6) (v := .int zpad_size) (C := RX7) (T := TX7) (N := 6) hx hb ht in_X7 hown hK.1 hP 1 rfl rfl 1 (by decide) (ht _ mF_X11_66) (fun _ h9 => h9) rfl dX11_told_44 ?_
    exact hret _ _ H locs _ _ ⟨rfl, hw⟩ hP hS dX11_told_47
  have hw := hw.2 hk0
  by_cases hk1 : a1 = (1 : Int32)
  · have hw := hw.1 hk1
    refine lv_tableIn (tgt := 48) hx hb dX11_told_1 (by rw [hk1]; decide) (by rw [hk1]; decide) (by rw [hk1]; rfl) (by decide) ?_
    refine lv_aload_n hx hb dX11_told_48 rfl (lv_at hl 0 rfl) ?_
    refine va_get (D := D) (ci := 10) (v := .ref q2) (C := RX11) (T := TX11) (N := 9) hx hb ht in_X11 hown hK.1 hP 0 rfl rfl 1 (by decide) (ht _ mF_X11_19) (fun _ h9 => h9) rfl dX11_told_49 ?_
    refine va_get (D := D) (ci := 7) (v := .ref q3) (C := RX8) (T := TX8) (N := 4) hx hb ht in_X8 hown hK.1 hP 2 rfl rfl 0 (by decide) (ht _ mF_X11_74) (fun _ h9 => h9) rfl dX11_told_52 ?_
    refine va_get (D := D) (ci := 8) (v := .int zparish_roll_dogs) (C := RX9) (T := TX9) (N := 6) hx hb ht in_X9 hown hK.1 hP 3 rfl rfl 0 (by decide) (ht _ mF_X11_97) (fun _ h9 => h9) rfl dX11_told_55 ?_
    exact hret _ _ H locs _ _ ⟨rfl, hw⟩ hP hS dX11_told_58
  have hw := hw.2 hk1
  by_cases hk2 : a1 = (2 : Int32)
  · have hw := hw.1 hk2
    refine lv_tableIn (tgt := 59) hx hb dX11_told_1 (by rw [hk2]; decide) (by rw [hk2]; decide) (by rw [hk2]; rfl) (by decide) ?_
    refine lv_aload_n hx hb dX11_told_59 rfl (lv_at hl 0 rfl) ?_
    refine va_get (D := D) (ci := 10) (v := .ref q2) (C := RX11) (T := TX11) (N := 9) hx hb ht in_X11 hown hK.1 hP 0 rfl rfl 1 (by decide) (ht _ mF_X11_19) (fun _ h9 => h9) rfl dX11_told_60 ?_
    refine va_get (D := D) (ci := 7) (v := .int zparish_hunger) (C := RX8) (T := TX8) (N := 4) hx hb ht in_X8 hown hK.1 hP 2 rfl rfl 3 (by decide) (ht _ mF_X11_220) (fun _ h9 => h9) rfl dX11_told_63 ?_
    exact hret _ _ H locs _ _ ⟨rfl, hw⟩ hP hS dX11_told_66
  have hw := hw.2 hk2
  by_cases hk3 : a1 = (3 : Int32)
  · have hw := hw.1 hk3
    refine lv_tableIn (tgt := 67) hx hb dX11_told_1 (by rw [hk3]; decide) (by rw [hk3]; decide) (by rw [hk3]; rfl) (by decide) ?_
    refine lv_aload_n hx hb dX11_told_67 rfl (lv_at hl 0 rfl) ?_
    refine va_get (D := D) (ci := 10) (v := .ref q2) (C := RX11) (T := TX11) (N := 9) hx hb ht in_X11 hown hK.1 hP 0 rfl rfl 1 (by decide) (ht _ mF_X11_19) (fun _ h9 => h9) rfl dX11_told_68 ?_
    refine va_get (D := D) (ci := 7) (v := .ref q5) (C := RX8) (T := TX8) (N := 4) hx hb ht in_X8 hown hK.1 hP 2 rfl rfl 1 (by decide) (ht _ mF_X11_87) (fun _ h9 => h9) rfl dX11_told_71 ?_
    refine va_get (D := D) (ci := 9) (v := .int zparish_counts_size) (C := RX10) (T := TX10) (N := 4) hx hb ht in_X10 hown hK.1 hP 5 rfl rfl 0 (by decide) (ht _ mF_X11_91) (fun _ h9 => h9) rfl dX11_told_74 ?_
    exact hret _ _ H locs _ _ ⟨rfl, hw⟩ hP hS dX11_told_77
  have hw := hw.2 hk3
  by_cases hk4 : a1 = (4 : Int32)
  · have hw := hw.1 hk4
    refine lv_tableIn (tgt := 78) hx hb dX11_told_1 (by rw [hk4]; decide) (by rw [hk4]; decide) (by rw [hk4]; rfl) (by decide) ?_
    refine lv_aload_n hx hb dX11_told_78 rfl (lv_at hl 0 rfl) ?_
    refine va_get (D := D) (ci := 10) (v := .ref q2) (C := RX11) (T := TX11) (N := 9) hx hb ht in_X11 hown hK.1 hP 0 rfl rfl 1 (by decide) (ht _ mF_X11_19) (fun _ h9 => h9) rfl dX11_told_79 ?_
    refine va_get (D := D) (ci := 7) (v := .ref q6) (C := RX8) (T := TX8) (N := 4) hx hb ht in_X8 hown hK.1 hP 2 rfl rfl 2 (by decide) (ht _ mF_X11_217) (fun _ h9 => h9) rfl dX11_told_82 ?_
    refine va_get (D := D) (ci := 9) (v := .int zparish_questions_size) (C := RX10) (T := TX10) (N := 4) hx hb ht in_X10 hown hK.1 hP 6 rfl rfl 0 (by decide) (ht _ mF_X11_91) (fun _ h9 => h9) rfl dX11_told_85 ?_
    exact hret _ _ H locs _ _ ⟨rfl, hw⟩ hP hS dX11_told_88
  have hw := hw.2 hk4
  by_cases hk5 : a1 = (5 : Int32)
  · have hw := hw.1 hk5
    refine lv_tableIn (tgt := 89) hx hb dX11_told_1 (by rw [hk5]; decide) (by rw [hk5]; decide) (by rw [hk5]; rfl) (by decide) ?_
    refine lv_aload_n hx hb dX11_told_89 rfl (lv_at hl 0 rfl) ?_
    refine va_get (D := D) (ci := 10) (v := .ref q2) (C := RX11) (T := TX11) (N := 9) hx hb ht in_X11 hown hK.1 hP 0 rfl rfl 1 (by decide) (ht _ mF_X11_19) (fun _ h9 => h9) rfl dX11_told_90 ?_
    refine va_get (D := D) (ci := 7) (v := .ref q3) (C := RX8) (T := TX8) (N := 4) hx hb ht in_X8 hown hK.1 hP 2 rfl rfl 0 (by decide) (ht _ mF_X11_74) (fun _ h9 => h9) rfl dX11_told_93 ?_
    refine va_get (D := D) (ci := 8) (v := .int zparish_roll_untold) (C := RX9) (T := TX9) (N := 6) hx hb ht in_X9 hown hK.1 hP 3 rfl rfl 1 (by decide) (ht _ mF_X11_234) (fun _ h9 => h9) rfl dX11_told_96 ?_
    refine gcalli (va_runS (As := [.int zparish_roll_untold]) (rest := []) ⟨hx, hb, hml, hown, ht⟩ (c_J6_bitCount_0f7a4 l D ci cz tr  H.size zparish_roll_untold _ hw) (va_cwS 1 ht (gi_S mM_X11_181 mT_J6_bitCount_0f7a4 mN_J6 mC_J6_bitCount_0f7a4) rfl rfl rfl (by decide +kernel) ⟨Nat.le_trans (Nat.le_of_ble_eq_true rfl) hfr, Nat.le_trans (Nat.le_of_ble_eq_true rfl) hlc⟩) (gpre (wc := []) hK hZ hP hD hS hA [] rfl rfl) rfl rfl hl.1 rfl (lv_room (Nat.le_of_ble_eq_true rfl)) dX11_told_99 ⟨Nat.zero_le _, Nat.zero_le _⟩) hD hS hA [] rfl (fun r_1 w9 H locs hw hP9 hk9 hS => ?_)
    obtain ⟨rfl, hw⟩ := hw
    have hP : va_P D vwCl [(q0, .inr (10, [.ref q1, .ref q2, u0, u1, u2, u3, u4, u5, u6])), (q1, .inr (6, [u7, .int zpad_size, u8, u9, u10, u11])), (q2, .inr (7, [.ref q3, .ref q5, .ref q6, .int zparish_hunger])), (q3, .inr (8, [.int zparish_roll_dogs, .int zparish_roll_untold, u12, u13, u14, .ref q4])), (q4, .inl (ci, 7, .inl zparish_roll_heirs)), (q5, .inr (9, [.int zparish_counts_size, u15, u16, u17])), (q6, .inr (9, [.int zparish_questions_size, u18, u19, u20]))] H := gjoin3 hP hD [] hP9 hk9 rfl rfl [none, none, none, none, none, none, none] rfl rfl
    clear hP9 hk9
    exact hret _ _ H locs _ _ ⟨rfl, hw⟩ hP hS dX11_told_102
  have hw := hw.2 hk5
  have hout : (a1).toInt < 0 ∨ 5 < (a1).toInt := by
    have hn0 := lv_neT hk0 (by decide : (0 : Int32).toInt = 0)
    have hn1 := lv_neT hk1 (by decide : (1 : Int32).toInt = 1)
    have hn2 := lv_neT hk2 (by decide : (2 : Int32).toInt = 2)
    have hn3 := lv_neT hk3 (by decide : (3 : Int32).toInt = 3)
    have hn4 := lv_neT hk4 (by decide : (4 : Int32).toInt = 4)
    have hn5 := lv_neT hk5 (by decide : (5 : Int32).toInt = 5)
    omega
  refine lv_tableOut (tgt := 103) hx hb dX11_told_1 hout (by decide) ?_
  refine lv_iload_n hx hb dX11_told_103 rfl (lv_at hl 1 rfl) ?_
  refine lv_bipush (v := (10 : Int32)) hx hb dX11_told_104 (by decide) ?_
  refine lv_isub hx hb dX11_told_106 ?_
  refine lv_istore_n (lv' := [(2, .int (a1 - (10 : Int32))), (0, .ref q0), (1, .int a1)]) hx hb dX11_told_107 rfl hl (by decide) rfl (fun ls hl => ?_)
  refine lv_aload_n hx hb dX11_told_108 rfl (lv_at hl 1 rfl) ?_
  refine va_get (D := D) (ci := 10) (v := .ref q2) (C := RX11) (T := TX11) (N := 9) hx hb ht in_X11 hown hK.1 hP 0 rfl rfl 1 (by decide) (ht _ mF_X11_19) (fun _ h9 => h9) rfl dX11_told_109 ?_
  refine va_get (D := D) (ci := 7) (v := .ref q3) (C := RX8) (T := TX8) (N := 4) hx hb ht in_X8 hown hK.1 hP 2 rfl rfl 0 (by decide) (ht _ mF_X11_74) (fun _ h9 => h9) rfl dX11_told_112 ?_
  refine lv_iload_n hx hb dX11_told_115 rfl (lv_at hl 0 rfl) ?_
  refine gcalli (va_runV (As := [.int (a1 - (10 : Int32))]) (rest := []) ⟨hx, hb, hml, hown, ht⟩ (c_X9_has l D ci cz tr q3 H.size (.int zparish_roll_untold) u12 u13 u14 (.ref q4) zparish_roll_dogs (a1 - (10 : Int32)) _ hw) (cwV 1 ht (gi_V mM_X11_100 mI_X9_has mS_X9_has mN_X9 mC_X9_has) rfl rfl rfl (by decide +kernel) ⟨Nat.le_trans (Nat.le_of_ble_eq_true rfl) hfr, Nat.le_trans (Nat.le_of_ble_eq_true rfl) hlc⟩) (gpreV (wc := [(q3, .inr (8, [.int zparish_roll_dogs, .int zparish_roll_untold, u12, u13, u14, .ref q4]))]) (k := 8) (q0 := 3) hK hZ hP hD hS hA [3] rfl rfl rfl rfl rfl) rfl rfl hl.1 rfl (lv_room (Nat.le_of_ble_eq_true rfl)) dX11_told_116 ⟨Nat.zero_le _, Nat.zero_le _⟩) hD hS hA [3] rfl (fun r_2 w9 H locs hw hP9 hk9 hS => ?_)
  obtain ⟨rfl, hw⟩ := hw
  have hP : va_P D vwCl [(q0, .inr (10, [.ref q1, .ref q2, u0, u1, u2, u3, u4, u5, u6])), (q1, .inr (6, [u7, .int zpad_size, u8, u9, u10, u11])), (q2, .inr (7, [.ref q3, .ref q5, .ref q6, .int zparish_hunger])), (q3, .inr (8, [.int zparish_roll_dogs, .int zparish_roll_untold, u12, u13, u14, .ref q4])), (q4, .inl (ci, 7, .inl zparish_roll_heirs)), (q5, .inr (9, [.int zparish_counts_size, u15, u16, u17])), (q6, .inr (9, [.int zparish_questions_size, u18, u19, u20]))] H := gjoin3 hP hD [3] hP9 hk9 rfl rfl [none, none, none, some 0, none, none, none] rfl rfl
  clear hP9 hk9
  refine lv_if_eq (tgt := 140) hx hb dX11_told_119 (by decide) (fun hc => ?_) (fun hc => ?_)
  · have hw := hw.1 hc
    refine lv_bipush (v := (-2 : Int32)) hx hb dX11_told_140 (by decide) ?_
    exact hret _ _ H locs _ _ ⟨rfl, hw⟩ hP hS dX11_told_142
  · have hw := hw.2 hc
    refine lv_aload_n hx hb dX11_told_122 rfl (lv_at hl 1 rfl) ?_
    refine va_get (D := D) (ci := 10) (v := .ref q2) (C := RX11) (T := TX11) (N := 9) hx hb ht in_X11 hown hK.1 hP 0 rfl rfl 1 (by decide) (ht _ mF_X11_19) (fun _ h9 => h9) rfl dX11_told_123 ?_
    refine va_get (D := D) (ci := 7) (v := .ref q3) (C := RX8) (T := TX8) (N := 4) hx hb ht in_X8 hown hK.1 hP 2 rfl rfl 0 (by decide) (ht _ mF_X11_74) (fun _ h9 => h9) rfl dX11_told_126 ?_
    refine va_get (D := D) (ci := 8) (v := .ref q4) (C := RX9) (T := TX9) (N := 6) hx hb ht in_X9 hown hK.1 hP 3 rfl rfl 5 (by decide) (ht _ mF_X11_116) (fun _ h9 => h9) rfl dX11_told_129 ?_
    refine lv_iload_n hx hb dX11_told_132 rfl (lv_at hl 0 rfl) ?_
    obtain ⟨hin, hw⟩ := hw
    refine va_iald (D := D) hx hb hK.1 hP 4 0 rfl rfl hin dX11_told_133 ?_
    refine gcalli (va_runS (As := [.int (zparish_roll_heirs ((a1 - (10 : Int32))).toNatClampNeg)]) (rest := []) ⟨hx, hb, hml, hown, ht⟩ (c_X11_heirTold l D ci cz tr  H.size (zparish_roll_heirs ((a1 - (10 : Int32))).toNatClampNeg) _ hw) (va_cwS 1 ht (gi_S mM_X11_119 mT_X11_heirTold mN_X11 mC_X11_heirTold) rfl rfl rfl (by decide +kernel) ⟨Nat.le_trans (Nat.le_of_ble_eq_true rfl) hfr, Nat.le_trans (Nat.le_of_ble_eq_true rfl) hlc⟩) (gpre (wc := []) hK hZ hP hD hS hA [] rfl rfl) rfl rfl hl.1 rfl (lv_room (Nat.le_of_ble_eq_true rfl)) dX11_told_134 ⟨Nat.zero_le _, Nat.zero_le _⟩) hD hS hA [] rfl (fun r_3 w9 H locs hw hP9 hk9 hS => ?_)
    obtain ⟨rfl, hw⟩ := hw
    have hP : va_P D vwCl [(q0, .inr (10, [.ref q1, .ref q2, u0, u1, u2, u3, u4, u5, u6])), (q1, .inr (6, [u7, .int zpad_size, u8, u9, u10, u11])), (q2, .inr (7, [.ref q3, .ref q5, .ref q6, .int zparish_hunger])), (q3, .inr (8, [.int zparish_roll_dogs, .int zparish_roll_untold, u12, u13, u14, .ref q4])), (q4, .inl (ci, 7, .inl zparish_roll_heirs)), (q5, .inr (9, [.int zparish_counts_size, u15, u16, u17])), (q6, .inr (9, [.int zparish_questions_size, u18, u19, u20]))] H := gjoin3 hP hD [] hP9 hk9 rfl rfl [none, none, none, none, none, none, none] rfl rfl
    clear hP9 hk9
    refine lv_goto (tgt := 142) hx hb dX11_told_137 (by decide) ?_
    exact hret _ _ H locs _ _ ⟨rfl, hw⟩ hP hS dX11_told_142

def wp_X2_commonDivisor  (a0 : Int32) (a1 : Int32) (post : Int32 → Prop) : Prop :=
  lo (fun _ _ _ => False) (fun (G2 : Int32 → Int32 → Int32 → Prop) (x0_1 : Int32) (x1_2 : Int32) (x2_3 : Int32) => (((64 : Int32) ≤ x2_3 → post x0_1 ) ∧ (¬ (64 : Int32) ≤ x2_3 → ((x1_2 ≤ 0 → post x0_1 ) ∧ (¬ x1_2 ≤ 0 → (¬ x1_2 = 0 ∧ G2 x1_2 (x0_1 - x0_1 / x1_2 * x1_2) (x2_3 + (1 : Int32)))))))) (fun G2 => G2 a0 a1 (0 : Int32))
set_option maxHeartbeats 4000000 in
set_option maxRecDepth 100000 in
theorem c_X2_commonDivisor (l : Launch) (D : va_G) (ci cz : ClassId) (tr : List (ClassId × FieldType)) (sz : Nat)  (a0 : Int32) (a1 : Int32) (post : Int32 → Prop) (hw : wp_X2_commonDivisor a0 a1 post) : gM l yX2_commonDivisor cX2_commonDivisor 4 (some .int) 0 0 D ci cz tr [] sz [.int a0, .int a1] (gQi D [] sz (fun (r : Int32) w => w = [] ∧ post r )) := by
  refine gmet_i RX2 (by decide +kernel) rfl (Nat.le_of_ble_eq_true rfl) ?_
  intro p e s m args below meth c A R Q C hfr hlc hP hD hret ls hl
  obtain ⟨hx, hb, hml, hown, ht, hK, hZ, hA⟩ := C
  have hl : lv_has ls 4 [(0, .int a0), (1, .int a1)] := hl
  unfold wp_X2_commonDivisor at hw
  refine g_in (fun H locs => W p l e R s m args below meth c H locs 0 0 Q (F0 m 0 ls [])) (fun H locs hS0 hP => ?_) hP (va_S.rf (A := A) (H0 := s.heap))
  have hS : va_S A s.heap H locs := hS0
  clear hS0
  refine lv_iconst (v := (0 : Int32)) hx hb dX2_commonDivisor_0 (by decide) ?_
  refine lv_istore_n (lv' := [(2, .int (0 : Int32)), (0, .int a0), (1, .int a1)]) hx hb dX2_commonDivisor_1 rfl hl (by decide) rfl (fun ls hl => ?_)
  refine lo_walk hw (fun G2 => ∀ (x0_1 : Int32) (x1_2 : Int32) (x2_3 : Int32) (H : Heap) (locs : List Loc) (ls : Array Slot), G2 x0_1 x1_2 x2_3 → va_P D vwCl [] H → va_S A s.heap H locs → lv_has ls 4 [(0, .int x0_1), (1, .int x1_2), (2, .int x2_3)] → W p l e R s m args below meth c H locs 0 0 Q (F0 m 2 ls [])) (fun _ _ _ _ _ _ hw _ _ _ => False.elim hw) (fun G2 hG2 x0_1 x1_2 x2_3 H locs ls hw hP hS hl => ?_) (fun G2 hG2 hw => hG2 _ _ _ H locs ls hw hP hS (lv_sub hl [1, 2, 0] rfl))
  have hD : va_D A [] := gD_re hD rfl
  refine lv_iload_n hx hb dX2_commonDivisor_2 rfl (lv_at hl 2 rfl) ?_
  refine lv_bipush (v := (64 : Int32)) hx hb dX2_commonDivisor_3 (by decide) ?_
  refine lv_icmp_ge (tgt := 26) hx hb dX2_commonDivisor_5 (by decide) (fun hc => ?_) (fun hc => ?_)
  · have hw := hw.1 hc
    refine lv_iload_n hx hb dX2_commonDivisor_26 rfl (lv_at hl 0 rfl) ?_
    exact hret _ _ H locs _ _ ⟨rfl, hw⟩ hP hS dX2_commonDivisor_27
  · have hw := hw.2 hc
    refine lv_iload_n hx hb dX2_commonDivisor_8 rfl (lv_at hl 1 rfl) ?_
    refine lv_if_le (tgt := 26) hx hb dX2_commonDivisor_9 (by decide) (fun hc => ?_) (fun hc => ?_)
    · have hw := hw.1 hc
      refine lv_iload_n hx hb dX2_commonDivisor_26 rfl (lv_at hl 0 rfl) ?_
      exact hret _ _ H locs _ _ ⟨rfl, hw⟩ hP hS dX2_commonDivisor_27
    · have hw := hw.2 hc
      refine lv_iload_n hx hb dX2_commonDivisor_12 rfl (lv_at hl 0 rfl) ?_
      refine lv_iload_n hx hb dX2_commonDivisor_13 rfl (lv_at hl 1 rfl) ?_
      obtain ⟨hne, hw⟩ := hw
      refine lv_irem hx hb dX2_commonDivisor_14 hne ?_
      refine lv_istore_n (lv' := [(3, .int (x0_1 - x0_1 / x1_2 * x1_2)), (0, .int x0_1), (1, .int x1_2), (2, .int x2_3)]) hx hb dX2_commonDivisor_15 rfl hl (by decide) rfl (fun ls hl => ?_)
      refine lv_iload_n hx hb dX2_commonDivisor_16 rfl (lv_at hl 2 rfl) ?_
      refine lv_istore_n (lv' := [(0, .int x1_2), (3, .int (x0_1 - x0_1 / x1_2 * x1_2)), (1, .int x1_2), (2, .int x2_3)]) hx hb dX2_commonDivisor_17 rfl hl (by decide) rfl (fun ls hl => ?_)
      refine lv_iload_n hx hb dX2_commonDivisor_18 rfl (lv_at hl 1 rfl) ?_
      refine lv_istore_n (lv' := [(1, .int (x0_1 - x0_1 / x1_2 * x1_2)), (0, .int x1_2), (3, .int (x0_1 - x0_1 / x1_2 * x1_2)), (2, .int x2_3)]) hx hb dX2_commonDivisor_19 rfl hl (by decide) rfl (fun ls hl => ?_)
      refine lv_iinc (v := (x2_3 + (1 : Int32))) (lv' := [(2, .int (x2_3 + (1 : Int32))), (1, .int (x0_1 - x0_1 / x1_2 * x1_2)), (0, .int x1_2), (3, .int (x0_1 - x0_1 / x1_2 * x1_2))]) hx hb dX2_commonDivisor_20 hl (k := 3) rfl rfl (by decide) rfl (fun ls hl => ?_)
      refine lv_goto (tgt := 2) hx hb dX2_commonDivisor_23 (by decide) ?_
      exact hG2 _ _ _ H locs ls hw hP hS (lv_sub hl [2, 1, 0] rfl)

def wp_X11_turn (zparish_roll_dogs : Int32) (zparish_roll_halves : Nat → Int32) (a1 : Int32) (a2 : Int32) (post : Int64 → Prop) : Prop :=
  wp_X9_has zparish_roll_dogs a1 (fun (r_1 : Int32) => ((¬ r_1 = 0 → wp_X11_isWithin a2 (1 : Int32) (fun (r_2 : Int32) => ((¬ r_2 = 0 → wp_X2_decisions zparish_roll_dogs zparish_roll_halves a1 (1 : Int32) (fun (r_3 : Int32) => wp_X9_living zparish_roll_dogs zparish_roll_halves (fun (r_4 : Int32) => wp_J6_bitCount_0f7a4 r_4 (fun (r_5 : Int32) => wp_X11_factorial r_5 (fun (r_6 : Int32) => wp_X2_commonDivisor r_6 r_3 (fun (r_7 : Int32) => jn (fun (t_8 : Int32) => (¬ (if (1 : Int32) < r_7 then r_7 else (1 : Int32)) = 0 ∧ post (((t_8 / (if (1 : Int32) < r_7 then r_7 else (1 : Int32)))).toInt64) )) (fun (J83 : Int32 → Prop) => ((¬ a2 = 0 → J83 r_6) ∧ (a2 = 0 → J83 r_3))))))))) ∧ (r_2 = 0 → post (-1000000000000000002 : Int64) )))) ∧ (r_1 = 0 → post (-1000000000000000001 : Int64) )))
set_option maxHeartbeats 4000000 in
set_option maxRecDepth 100000 in
theorem c_X11_turn (l : Launch) (D : va_G) (ci cz : ClassId) (tr : List (ClassId × FieldType)) (q0 q1 q2 q3 : Nat) (sz : Nat) (u0 u1 u2 u3 u4 u5 u6 u7 u8 u9 u10 u11 u12 u13 u14 : Value) (zparish_roll_dogs : Int32) (zparish_roll_halves : Nat → Int32) (a1 : Int32) (a2 : Int32) (post : Int64 → Prop) (hw : wp_X11_turn zparish_roll_dogs zparish_roll_halves a1 a2 post) : gM l yX11_turn cX11_turn 6 (some .long) 3 69 D ci cz tr [(q0, .inr (10, [u0, .ref q1, u1, u2, u3, u4, u5, u6, u7])), (q1, .inr (7, [.ref q2, u8, u9, u10])), (q2, .inr (8, [.int zparish_roll_dogs, u11, .ref q3, u12, u13, u14])), (q3, .inl (ci, 7, .inl zparish_roll_halves))] sz [.ref q0, .int a1, .int a2] (gQl D [(q0, .inr (10, [u0, .ref q1, u1, u2, u3, u4, u5, u6, u7])), (q1, .inr (7, [.ref q2, u8, u9, u10])), (q2, .inr (8, [.int zparish_roll_dogs, u11, .ref q3, u12, u13, u14])), (q3, .inl (ci, 7, .inl zparish_roll_halves))] sz (fun (r : Int64) w => w = [(q0, .inr (10, [u0, .ref q1, u1, u2, u3, u4, u5, u6, u7])), (q1, .inr (7, [.ref q2, u8, u9, u10])), (q2, .inr (8, [.int zparish_roll_dogs, u11, .ref q3, u12, u13, u14])), (q3, .inl (ci, 7, .inl zparish_roll_halves))] ∧ post r )) := by
  refine gmet_l RX11 (by decide +kernel) rfl (Nat.le_of_ble_eq_true rfl) ?_
  intro p e s m args below meth c A R Q C hfr hlc hP hD hret ls hl
  obtain ⟨hx, hb, hml, hown, ht, hK, hZ, hA⟩ := C
  have hl : lv_has ls 6 [(0, .ref q0), (1, .int a1), (2, .int a2)] := hl
  unfold wp_X11_turn at hw
  refine g_in (fun H locs => W p l e R s m args below meth c H locs 0 0 Q (F0 m 0 ls [])) (fun H locs hS0 hP => ?_) hP (va_S.rf (A := A) (H0 := s.heap))
  have hS : va_S A s.heap H locs := hS0
  clear hS0
  refine lv_aload_n hx hb dX11_turn_0 rfl (lv_at hl 0 rfl) ?_
  refine va_get (D := D) (ci := 10) (v := .ref q1) (C := RX11) (T := TX11) (N := 9) hx hb ht in_X11 hown hK.1 hP 0 rfl rfl 1 (by decide) (ht _ mF_X11_19) (fun _ h9 => h9) rfl dX11_turn_1 ?_
  refine va_get (D := D) (ci := 7) (v := .ref q2) (C := RX8) (T := TX8) (N := 4) hx hb ht in_X8 hown hK.1 hP 1 rfl rfl 0 (by decide) (ht _ mF_X11_74) (fun _ h9 => h9) rfl dX11_turn_4 ?_
  refine lv_iload_n hx hb dX11_turn_7 rfl (lv_at hl 1 rfl) ?_
  refine gcalli (va_runV (As := [.int a1]) (rest := []) ⟨hx, hb, hml, hown, ht⟩ (c_X9_has l D ci cz tr q2 H.size u11 (.ref q3) u12 u13 u14 zparish_roll_dogs a1 _ hw) (cwV 1 ht (gi_V mM_X11_100 mI_X9_has mS_X9_has mN_X9 mC_X9_has) rfl rfl rfl (by decide +kernel) ⟨Nat.le_trans (Nat.le_of_ble_eq_true rfl) hfr, Nat.le_trans (Nat.le_of_ble_eq_true rfl) hlc⟩) (gpreV (wc := [(q2, .inr (8, [.int zparish_roll_dogs, u11, .ref q3, u12, u13, u14]))]) (k := 8) (q0 := 2) hK hZ hP hD hS hA [2] rfl rfl rfl rfl rfl) rfl rfl hl.1 rfl (lv_room (Nat.le_of_ble_eq_true rfl)) dX11_turn_8 ⟨Nat.zero_le _, Nat.zero_le _⟩) hD hS hA [2] rfl (fun r_1 w9 H locs hw hP9 hk9 hS => ?_)
  obtain ⟨rfl, hw⟩ := hw
  have hP : va_P D vwCl [(q0, .inr (10, [u0, .ref q1, u1, u2, u3, u4, u5, u6, u7])), (q1, .inr (7, [.ref q2, u8, u9, u10])), (q2, .inr (8, [.int zparish_roll_dogs, u11, .ref q3, u12, u13, u14])), (q3, .inl (ci, 7, .inl zparish_roll_halves))] H := gjoin3 hP hD [2] hP9 hk9 rfl rfl [none, none, some 0, none] rfl rfl
  clear hP9 hk9
  refine lv_if_ne (tgt := 18) hx hb dX11_turn_11 (by decide) (fun hc => ?_) (fun hc => ?_)
  · have hw := hw.1 hc
    refine lv_iload_n hx hb dX11_turn_18 rfl (lv_at hl 2 rfl) ?_
    refine lv_iconst (v := (1 : Int32)) hx hb dX11_turn_19 (by decide) ?_
    refine gcalli (va_runS (As := [.int a2, .int (1 : Int32)]) (rest := []) ⟨hx, hb, hml, hown, ht⟩ (c_X11_isWithin l D ci cz tr  H.size a2 (1 : Int32) _ hw) (va_cwS 2 ht (gi_S mM_X11_140 mT_X11_isWithin mN_X11 mC_X11_isWithin) rfl rfl rfl (by decide +kernel) ⟨Nat.le_trans (Nat.le_of_ble_eq_true rfl) hfr, Nat.le_trans (Nat.le_of_ble_eq_true rfl) hlc⟩) (gpre (wc := []) hK hZ hP hD hS hA [] rfl rfl) rfl rfl hl.1 rfl (lv_room (Nat.le_of_ble_eq_true rfl)) dX11_turn_20 ⟨Nat.zero_le _, Nat.zero_le _⟩) hD hS hA [] rfl (fun r_2 w9 H locs hw hP9 hk9 hS => ?_)
    obtain ⟨rfl, hw⟩ := hw
    have hP : va_P D vwCl [(q0, .inr (10, [u0, .ref q1, u1, u2, u3, u4, u5, u6, u7])), (q1, .inr (7, [.ref q2, u8, u9, u10])), (q2, .inr (8, [.int zparish_roll_dogs, u11, .ref q3, u12, u13, u14])), (q3, .inl (ci, 7, .inl zparish_roll_halves))] H := gjoin3 hP hD [] hP9 hk9 rfl rfl [none, none, none, none] rfl rfl
    clear hP9 hk9
    refine lv_if_ne (tgt := 30) hx hb dX11_turn_23 (by decide) (fun hc => ?_) (fun hc => ?_)
    · have hw := hw.1 hc
      refine lv_aload_n hx hb dX11_turn_30 rfl (lv_at hl 0 rfl) ?_
      refine va_get (D := D) (ci := 10) (v := .ref q1) (C := RX11) (T := TX11) (N := 9) hx hb ht in_X11 hown hK.1 hP 0 rfl rfl 1 (by decide) (ht _ mF_X11_19) (fun _ h9 => h9) rfl dX11_turn_31 ?_
      refine va_get (D := D) (ci := 7) (v := .ref q2) (C := RX8) (T := TX8) (N := 4) hx hb ht in_X8 hown hK.1 hP 1 rfl rfl 0 (by decide) (ht _ mF_X11_74) (fun _ h9 => h9) rfl dX11_turn_34 ?_
      refine lv_iload_n hx hb dX11_turn_37 rfl (lv_at hl 1 rfl) ?_
      refine lv_iconst (v := (1 : Int32)) hx hb dX11_turn_38 (by decide) ?_
      refine gcalli (va_runS (As := [.ref q2, .int a1, .int (1 : Int32)]) (rest := []) ⟨hx, hb, hml, hown, ht⟩ (c_X2_decisions l D ci cz tr q2 q3 H.size u11 u12 u13 u14 zparish_roll_dogs zparish_roll_halves a1 (1 : Int32) _ hw) (va_cwS 3 ht (gi_S mM_X11_168 mT_X2_decisions mN_X2 mC_X2_decisions) rfl rfl rfl (by decide +kernel) ⟨Nat.le_trans (Nat.le_of_ble_eq_true rfl) hfr, Nat.le_trans (Nat.le_of_ble_eq_true rfl) hlc⟩) (gpre (wc := [(q2, .inr (8, [.int zparish_roll_dogs, u11, .ref q3, u12, u13, u14])), (q3, .inl (ci, 7, .inl zparish_roll_halves))]) hK hZ hP hD hS hA [2, 3] rfl rfl) rfl rfl hl.1 rfl (lv_room (Nat.le_of_ble_eq_true rfl)) dX11_turn_39 ⟨Nat.zero_le _, Nat.zero_le _⟩) hD hS hA [2, 3] rfl (fun r_3 w9 H locs hw hP9 hk9 hS => ?_)
      obtain ⟨rfl, hw⟩ := hw
      have hP : va_P D vwCl [(q0, .inr (10, [u0, .ref q1, u1, u2, u3, u4, u5, u6, u7])), (q1, .inr (7, [.ref q2, u8, u9, u10])), (q2, .inr (8, [.int zparish_roll_dogs, u11, .ref q3, u12, u13, u14])), (q3, .inl (ci, 7, .inl zparish_roll_halves))] H := gjoin3 hP hD [2, 3] hP9 hk9 rfl rfl [none, none, some 0, some 1] rfl rfl
      clear hP9 hk9
      refine lv_istore_n (lv' := [(3, .int r_3), (0, .ref q0), (1, .int a1), (2, .int a2)]) hx hb dX11_turn_42 rfl hl (by decide) rfl (fun ls hl => ?_)
      refine lv_aload_n hx hb dX11_turn_43 rfl (lv_at hl 1 rfl) ?_
      refine va_get (D := D) (ci := 10) (v := .ref q1) (C := RX11) (T := TX11) (N := 9) hx hb ht in_X11 hown hK.1 hP 0 rfl rfl 1 (by decide) (ht _ mF_X11_19) (fun _ h9 => h9) rfl dX11_turn_44 ?_
      refine va_get (D := D) (ci := 7) (v := .ref q2) (C := RX8) (T := TX8) (N := 4) hx hb ht in_X8 hown hK.1 hP 1 rfl rfl 0 (by decide) (ht _ mF_X11_74) (fun _ h9 => h9) rfl dX11_turn_47 ?_
      refine gcalli (va_runV (As := []) (rest := []) ⟨hx, hb, hml, hown, ht⟩ (c_X9_living l D ci cz tr q2 q3 H.size u11 u12 u13 u14 zparish_roll_dogs zparish_roll_halves _ hw) (cwV 0 ht (gi_V mM_X11_178 mI_X9_living mS_X9_living mN_X9 mC_X9_living) rfl rfl rfl (by decide +kernel) ⟨Nat.le_trans (Nat.le_of_ble_eq_true rfl) hfr, Nat.le_trans (Nat.le_of_ble_eq_true rfl) hlc⟩) (gpreV (wc := [(q2, .inr (8, [.int zparish_roll_dogs, u11, .ref q3, u12, u13, u14])), (q3, .inl (ci, 7, .inl zparish_roll_halves))]) (k := 8) (q0 := 2) hK hZ hP hD hS hA [2, 3] rfl rfl rfl rfl rfl) rfl rfl hl.1 rfl (lv_room (Nat.le_of_ble_eq_true rfl)) dX11_turn_50 ⟨Nat.zero_le _, Nat.zero_le _⟩) hD hS hA [2, 3] rfl (fun r_4 w9 H locs hw hP9 hk9 hS => ?_)
      obtain ⟨rfl, hw⟩ := hw
      have hP : va_P D vwCl [(q0, .inr (10, [u0, .ref q1, u1, u2, u3, u4, u5, u6, u7])), (q1, .inr (7, [.ref q2, u8, u9, u10])), (q2, .inr (8, [.int zparish_roll_dogs, u11, .ref q3, u12, u13, u14])), (q3, .inl (ci, 7, .inl zparish_roll_halves))] H := gjoin3 hP hD [2, 3] hP9 hk9 rfl rfl [none, none, some 0, some 1] rfl rfl
      clear hP9 hk9
      refine gcalli (va_runS (As := [.int r_4]) (rest := []) ⟨hx, hb, hml, hown, ht⟩ (c_J6_bitCount_0f7a4 l D ci cz tr  H.size r_4 _ hw) (va_cwS 1 ht (gi_S mM_X11_181 mT_J6_bitCount_0f7a4 mN_J6 mC_J6_bitCount_0f7a4) rfl rfl rfl (by decide +kernel) ⟨Nat.le_trans (Nat.le_of_ble_eq_true rfl) hfr, Nat.le_trans (Nat.le_of_ble_eq_true rfl) hlc⟩) (gpre (wc := []) hK hZ hP hD hS hA [] rfl rfl) rfl rfl hl.1 rfl (lv_room (Nat.le_of_ble_eq_true rfl)) dX11_turn_53 ⟨Nat.zero_le _, Nat.zero_le _⟩) hD hS hA [] rfl (fun r_5 w9 H locs hw hP9 hk9 hS => ?_)
      obtain ⟨rfl, hw⟩ := hw
      have hP : va_P D vwCl [(q0, .inr (10, [u0, .ref q1, u1, u2, u3, u4, u5, u6, u7])), (q1, .inr (7, [.ref q2, u8, u9, u10])), (q2, .inr (8, [.int zparish_roll_dogs, u11, .ref q3, u12, u13, u14])), (q3, .inl (ci, 7, .inl zparish_roll_halves))] H := gjoin3 hP hD [] hP9 hk9 rfl rfl [none, none, none, none] rfl rfl
      clear hP9 hk9
      refine gcalli (va_runS (As := [.int r_5]) (rest := []) ⟨hx, hb, hml, hown, ht⟩ (c_X11_factorial l D ci cz tr  H.size r_5 _ hw) (va_cwS 1 ht (gi_S mM_X11_186 mT_X11_factorial mN_X11 mC_X11_factorial) rfl rfl rfl (by decide +kernel) ⟨Nat.le_trans (Nat.le_of_ble_eq_true rfl) hfr, Nat.le_trans (Nat.le_of_ble_eq_true rfl) hlc⟩) (gpre (wc := []) hK hZ hP hD hS hA [] rfl rfl) rfl rfl hl.1 rfl (lv_room (Nat.le_of_ble_eq_true rfl)) dX11_turn_56 ⟨Nat.zero_le _, Nat.zero_le _⟩) hD hS hA [] rfl (fun r_6 w9 H locs hw hP9 hk9 hS => ?_)
      obtain ⟨rfl, hw⟩ := hw
      have hP : va_P D vwCl [(q0, .inr (10, [u0, .ref q1, u1, u2, u3, u4, u5, u6, u7])), (q1, .inr (7, [.ref q2, u8, u9, u10])), (q2, .inr (8, [.int zparish_roll_dogs, u11, .ref q3, u12, u13, u14])), (q3, .inl (ci, 7, .inl zparish_roll_halves))] H := gjoin3 hP hD [] hP9 hk9 rfl rfl [none, none, none, none] rfl rfl
      clear hP9 hk9
      refine lv_istore (lv' := [(4, .int r_6), (3, .int r_3), (0, .ref q0), (1, .int a1), (2, .int a2)]) hx hb dX11_turn_59 hl (by decide) rfl (fun ls hl => ?_)
      refine lv_iconst (v := (1 : Int32)) hx hb dX11_turn_61 (by decide) ?_
      refine lv_iload hx hb dX11_turn_62 (lv_at hl 0 rfl) ?_
      refine lv_iload_n hx hb dX11_turn_64 rfl (lv_at hl 1 rfl) ?_
      refine gcalli (va_runS (As := [.int r_6, .int r_3]) (rest := [.int (1 : Int32)]) ⟨hx, hb, hml, hown, ht⟩ (c_X2_commonDivisor l D ci cz tr  H.size r_6 r_3 _ hw) (va_cwS 2 ht (gi_S mM_X11_189 mT_X2_commonDivisor mN_X2 mC_X2_commonDivisor) rfl rfl rfl (by decide +kernel) ⟨Nat.le_trans (Nat.le_of_ble_eq_true rfl) hfr, Nat.le_trans (Nat.le_of_ble_eq_true rfl) hlc⟩) (gpre (wc := []) hK hZ hP hD hS hA [] rfl rfl) rfl rfl hl.1 rfl (lv_room (Nat.le_of_ble_eq_true rfl)) dX11_turn_65 ⟨Nat.zero_le _, Nat.zero_le _⟩) hD hS hA [] rfl (fun r_7 w9 H locs hw hP9 hk9 hS => ?_)
      obtain ⟨rfl, hw⟩ := hw
      have hP : va_P D vwCl [(q0, .inr (10, [u0, .ref q1, u1, u2, u3, u4, u5, u6, u7])), (q1, .inr (7, [.ref q2, u8, u9, u10])), (q2, .inr (8, [.int zparish_roll_dogs, u11, .ref q3, u12, u13, u14])), (q3, .inl (ci, 7, .inl zparish_roll_halves))] H := gjoin3 hP hD [] hP9 hk9 rfl rfl [none, none, none, none] rfl rfl
      clear hP9 hk9
      refine va_mmax hx hb (hml.trans hl.1.symm) hown (ht _ mM_X11_193) (ht _ mT_J9_max_7cf53) (ht _ mN_J9) (ht _ mC_J9_max_7cf53) (Nat.le_trans (Nat.le_of_ble_eq_true rfl) hfr) (Nat.le_trans (Nat.le_of_ble_eq_true rfl) hlc) (Nat.zero_le _) (Nat.zero_le _) dX11_turn_68 ?_
      refine lv_istore (lv' := [(5, .int (if (1 : Int32) < r_7 then r_7 else (1 : Int32))), (4, .int r_6), (3, .int r_3), (0, .ref q0), (1, .int a1), (2, .int a2)]) hx hb dX11_turn_71 hl (by decide) rfl (fun ls hl => ?_)
      refine lv_iload_n hx hb dX11_turn_73 rfl (lv_at hl 5 rfl) ?_
      refine jn_walk hw (fun J83 => ∀ (t_8 : Int32) (H : Heap) (locs : List Loc) (ls : Array Slot), J83 t_8 → va_P D vwCl [(q0, .inr (10, [u0, .ref q1, u1, u2, u3, u4, u5, u6, u7])), (q1, .inr (7, [.ref q2, u8, u9, u10])), (q2, .inr (8, [.int zparish_roll_dogs, u11, .ref q3, u12, u13, u14])), (q3, .inl (ci, 7, .inl zparish_roll_halves))] H → va_S A s.heap H locs → lv_has ls 6 [(5, .int (if (1 : Int32) < r_7 then r_7 else (1 : Int32)))] → W p l e R s m args below meth c H locs 0 0 Q (F0 m 83 ls [.int t_8])) ?_ ?_
      · intro t_8 H locs ls hw hP hS hl
        have hD : va_D A [(q0, .inr (10, [u0, .ref q1, u1, u2, u3, u4, u5, u6, u7])), (q1, .inr (7, [.ref q2, u8, u9, u10])), (q2, .inr (8, [.int zparish_roll_dogs, u11, .ref q3, u12, u13, u14])), (q3, .inl (ci, 7, .inl zparish_roll_halves))] := gD_re hD rfl
        refine lv_iload hx hb dX11_turn_83 (lv_at hl 0 rfl) ?_
        obtain ⟨hne, hw⟩ := hw
        refine lv_idiv hx hb dX11_turn_85 hne ?_
        refine lv_i2l hx hb dX11_turn_86 rfl ?_
        exact hret _ _ H locs _ _ ⟨rfl, hw⟩ hP hS dX11_turn_87
      · intro J83 hJ83 hw
        refine lv_if_ne (tgt := 81) hx hb dX11_turn_74 (by decide) (fun hc => ?_) (fun hc => ?_)
        · have hw := hw.1 hc
          refine lv_iload hx hb dX11_turn_81 (lv_at hl 1 rfl) ?_
          exact hJ83 _ H locs ls hw hP hS (lv_sub hl [0] rfl)
        · have hw := hw.2 hc
          refine lv_iload_n hx hb dX11_turn_77 rfl (lv_at hl 2 rfl) ?_
          refine lv_goto (tgt := 83) hx hb dX11_turn_78 (by decide) ?_
          exact hJ83 _ H locs ls hw hP hS (lv_sub hl [0] rfl)
    · have hw := hw.2 hc
      refine lv_ldc2 hx hb hown (ht _ mD_X11_176) dX11_turn_26 ?_
      exact hret _ _ H locs _ _ ⟨rfl, hw⟩ hP hS dX11_turn_29
  · have hw := hw.2 hc
    refine lv_ldc2 hx hb hown (ht _ mD_X11_174) dX11_turn_14 ?_
    exact hret _ _ H locs _ _ ⟨rfl, hw⟩ hP hS dX11_turn_17

def wp_X11_vote (zparish_roll_dogs : Int32) (zparish_roll_halves : Nat → Int32) (zparish_roll_likings : Nat → Int32) (zparish_roll_fears : Nat → Int32) (zballot_left : Int32) (zballot_right : Int32) (zballot_leftDogs : Int32) (zballot_rightDogs : Int32) (a1 : Int32) (a2 : Int32) (a3 : Int32) (post : Int32 → Int32 → Int32 → Int32 → Int32 → Prop) : Prop :=
  wp_X11_areLivers a1 a2 (fun (r_1 : Int32) => ((r_1 = 0 → post (-2 : Int32) zballot_left zballot_right zballot_leftDogs zballot_rightDogs) ∧ (¬ r_1 = 0 → wp_X11_isWithin a3 (2 : Int32) (fun (r_2 : Int32) => ((¬ r_2 = 0 → wp_X0_hold zballot_left zballot_right zballot_leftDogs zballot_rightDogs zparish_roll_dogs zparish_roll_halves zparish_roll_likings zparish_roll_fears (a1 - a2) (0 : Int32) (0 : Int32) (fun (zballot_left_4 : Int32) (zballot_right_5 : Int32) (zballot_leftDogs_6 : Int32) (zballot_rightDogs_7 : Int32) => ((a3 = 0 → post zballot_left_4 zballot_left_4 zballot_right_5 zballot_leftDogs_6 zballot_rightDogs_7) ∧ (¬ a3 = 0 → ((a3 = 1 → post zballot_right_5 zballot_left_4 zballot_right_5 zballot_leftDogs_6 zballot_rightDogs_7) ∧ (¬ a3 = 1 → wp_X0_winner zballot_left_4 zballot_right_5 (fun (r_8 : Int32) => post r_8 zballot_left_4 zballot_right_5 zballot_leftDogs_6 zballot_rightDogs_7))))))) ∧ (r_2 = 0 → post (-2 : Int32) zballot_left zballot_right zballot_leftDogs zballot_rightDogs))))))
set_option maxHeartbeats 4000000 in
set_option maxRecDepth 100000 in
theorem c_X11_vote (l : Launch) (D : va_G) (ci cz : ClassId) (tr : List (ClassId × FieldType)) (q0 q1 q2 q3 q4 q5 q6 : Nat) (sz : Nat) (u0 u1 u2 u3 u4 u5 u6 u7 u8 u9 u10 u11 : Value) (zparish_roll_dogs : Int32) (zparish_roll_halves : Nat → Int32) (zparish_roll_likings : Nat → Int32) (zparish_roll_fears : Nat → Int32) (zballot_left : Int32) (zballot_right : Int32) (zballot_leftDogs : Int32) (zballot_rightDogs : Int32) (a1 : Int32) (a2 : Int32) (a3 : Int32) (post : Int32 → Int32 → Int32 → Int32 → Int32 → Prop) (hw : wp_X11_vote zparish_roll_dogs zparish_roll_halves zparish_roll_likings zparish_roll_fears zballot_left zballot_right zballot_leftDogs zballot_rightDogs a1 a2 a3 post) : gM l yX11_vote cX11_vote 4 (some .int) 3 73 D ci cz tr [(q0, .inr (10, [u0, .ref q1, u1, u2, .ref q6, u3, u4, u5, u6])), (q1, .inr (7, [.ref q2, u7, u8, u9])), (q2, .inr (8, [.int zparish_roll_dogs, u10, .ref q3, .ref q4, .ref q5, u11])), (q3, .inl (ci, 7, .inl zparish_roll_halves)), (q4, .inl (ci, 7, .inl zparish_roll_likings)), (q5, .inl (ci, 7, .inl zparish_roll_fears)), (q6, .inr (0, [.int zballot_left, .int zballot_right, .int zballot_leftDogs, .int zballot_rightDogs]))] sz [.ref q0, .int a1, .int a2, .int a3] (gQi D [(q0, .inr (10, [u0, .ref q1, u1, u2, .ref q6, u3, u4, u5, u6])), (q1, .inr (7, [.ref q2, u7, u8, u9])), (q2, .inr (8, [.int zparish_roll_dogs, u10, .ref q3, .ref q4, .ref q5, u11])), (q3, .inl (ci, 7, .inl zparish_roll_halves)), (q4, .inl (ci, 7, .inl zparish_roll_likings)), (q5, .inl (ci, 7, .inl zparish_roll_fears)), (q6, .inr (0, [.int zballot_left, .int zballot_right, .int zballot_leftDogs, .int zballot_rightDogs]))] sz (fun (r : Int32) w => ∃ (o_zballot_left : Int32) (o_zballot_right : Int32) (o_zballot_leftDogs : Int32) (o_zballot_rightDogs : Int32), w = [(q0, .inr (10, [u0, .ref q1, u1, u2, .ref q6, u3, u4, u5, u6])), (q1, .inr (7, [.ref q2, u7, u8, u9])), (q2, .inr (8, [.int zparish_roll_dogs, u10, .ref q3, .ref q4, .ref q5, u11])), (q3, .inl (ci, 7, .inl zparish_roll_halves)), (q4, .inl (ci, 7, .inl zparish_roll_likings)), (q5, .inl (ci, 7, .inl zparish_roll_fears)), (q6, .inr (0, [.int o_zballot_left, .int o_zballot_right, .int o_zballot_leftDogs, .int o_zballot_rightDogs]))] ∧ post r o_zballot_left o_zballot_right o_zballot_leftDogs o_zballot_rightDogs)) := by
  refine gmet_i RX11 (by decide +kernel) rfl (Nat.le_of_ble_eq_true rfl) ?_
  intro p e s m args below meth c A R Q C hfr hlc hP hD hret ls hl
  obtain ⟨hx, hb, hml, hown, ht, hK, hZ, hA⟩ := C
  have hl : lv_has ls 4 [(0, .ref q0), (1, .int a1), (2, .int a2), (3, .int a3)] := hl
  unfold wp_X11_vote at hw
  refine g_in (fun H locs => W p l e R s m args below meth c H locs 0 0 Q (F0 m 0 ls [])) (fun H locs hS0 hP => ?_) hP (va_S.rf (A := A) (H0 := s.heap))
  have hS : va_S A s.heap H locs := hS0
  clear hS0
  refine lv_iload_n hx hb dX11_vote_0 rfl (lv_at hl 1 rfl) ?_
  refine lv_iload_n hx hb dX11_vote_1 rfl (lv_at hl 2 rfl) ?_
  refine gcalli (va_runS (As := [.int a1, .int a2]) (rest := []) ⟨hx, hb, hml, hown, ht⟩ (c_X11_areLivers l D ci cz tr  H.size a1 a2 _ hw) (va_cwS 2 ht (gi_S mM_X11_129 mT_X11_areLivers mN_X11 mC_X11_areLivers) rfl rfl rfl (by decide +kernel) ⟨Nat.le_trans (Nat.le_of_ble_eq_true rfl) hfr, Nat.le_trans (Nat.le_of_ble_eq_true rfl) hlc⟩) (gpre (wc := []) hK hZ hP hD hS hA [] rfl rfl) rfl rfl hl.1 rfl (lv_room (Nat.le_of_ble_eq_true rfl)) dX11_vote_2 ⟨Nat.zero_le _, Nat.zero_le _⟩) hD hS hA [] rfl (fun r_1 w9 H locs hw hP9 hk9 hS => ?_)
  obtain ⟨rfl, hw⟩ := hw
  have hP : va_P D vwCl [(q0, .inr (10, [u0, .ref q1, u1, u2, .ref q6, u3, u4, u5, u6])), (q1, .inr (7, [.ref q2, u7, u8, u9])), (q2, .inr (8, [.int zparish_roll_dogs, u10, .ref q3, .ref q4, .ref q5, u11])), (q3, .inl (ci, 7, .inl zparish_roll_halves)), (q4, .inl (ci, 7, .inl zparish_roll_likings)), (q5, .inl (ci, 7, .inl zparish_roll_fears)), (q6, .inr (0, [.int zballot_left, .int zballot_right, .int zballot_leftDogs, .int zballot_rightDogs]))] H := gjoin3 hP hD [] hP9 hk9 rfl rfl [none, none, none, none, none, none, none] rfl rfl
  clear hP9 hk9
  refine lv_if_eq (tgt := 16) hx hb dX11_vote_5 (by decide) (fun hc => ?_) (fun hc => ?_)
  · have hw := hw.1 hc
    refine lv_bipush (v := (-2 : Int32)) hx hb dX11_vote_16 (by decide) ?_
    exact hret _ _ H locs _ _ ⟨_, _, _, _, rfl, hw⟩ hP hS dX11_vote_18
  · have hw := hw.2 hc
    refine lv_iload_n hx hb dX11_vote_8 rfl (lv_at hl 3 rfl) ?_
    refine lv_iconst (v := (2 : Int32)) hx hb dX11_vote_9 (by decide) ?_
    refine gcalli (va_runS (As := [.int a3, .int (2 : Int32)]) (rest := []) ⟨hx, hb, hml, hown, ht⟩ (c_X11_isWithin l D ci cz tr  H.size a3 (2 : Int32) _ hw) (va_cwS 2 ht (gi_S mM_X11_140 mT_X11_isWithin mN_X11 mC_X11_isWithin) rfl rfl rfl (by decide +kernel) ⟨Nat.le_trans (Nat.le_of_ble_eq_true rfl) hfr, Nat.le_trans (Nat.le_of_ble_eq_true rfl) hlc⟩) (gpre (wc := []) hK hZ hP hD hS hA [] rfl rfl) rfl rfl hl.1 rfl (lv_room (Nat.le_of_ble_eq_true rfl)) dX11_vote_10 ⟨Nat.zero_le _, Nat.zero_le _⟩) hD hS hA [] rfl (fun r_2 w9 H locs hw hP9 hk9 hS => ?_)
    obtain ⟨rfl, hw⟩ := hw
    have hP : va_P D vwCl [(q0, .inr (10, [u0, .ref q1, u1, u2, .ref q6, u3, u4, u5, u6])), (q1, .inr (7, [.ref q2, u7, u8, u9])), (q2, .inr (8, [.int zparish_roll_dogs, u10, .ref q3, .ref q4, .ref q5, u11])), (q3, .inl (ci, 7, .inl zparish_roll_halves)), (q4, .inl (ci, 7, .inl zparish_roll_likings)), (q5, .inl (ci, 7, .inl zparish_roll_fears)), (q6, .inr (0, [.int zballot_left, .int zballot_right, .int zballot_leftDogs, .int zballot_rightDogs]))] H := gjoin3 hP hD [] hP9 hk9 rfl rfl [none, none, none, none, none, none, none] rfl rfl
    clear hP9 hk9
    refine lv_if_ne (tgt := 19) hx hb dX11_vote_13 (by decide) (fun hc => ?_) (fun hc => ?_)
    · have hw := hw.1 hc
      refine lv_aload_n hx hb dX11_vote_19 rfl (lv_at hl 0 rfl) ?_
      refine va_get (D := D) (ci := 10) (v := .ref q6) (C := RX11) (T := TX11) (N := 9) hx hb ht in_X11 hown hK.1 hP 0 rfl rfl 4 (by decide) (ht _ mF_X11_30) (fun _ h9 => h9) rfl dX11_vote_20 ?_
      refine lv_aload_n hx hb dX11_vote_23 rfl (lv_at hl 0 rfl) ?_
      refine va_get (D := D) (ci := 10) (v := .ref q1) (C := RX11) (T := TX11) (N := 9) hx hb ht in_X11 hown hK.1 hP 0 rfl rfl 1 (by decide) (ht _ mF_X11_19) (fun _ h9 => h9) rfl dX11_vote_24 ?_
      refine va_get (D := D) (ci := 7) (v := .ref q2) (C := RX8) (T := TX8) (N := 4) hx hb ht in_X8 hown hK.1 hP 1 rfl rfl 0 (by decide) (ht _ mF_X11_74) (fun _ h9 => h9) rfl dX11_vote_27 ?_
      refine lv_iload_n hx hb dX11_vote_30 rfl (lv_at hl 1 rfl) ?_
      refine lv_iload_n hx hb dX11_vote_31 rfl (lv_at hl 2 rfl) ?_
      refine lv_isub hx hb dX11_vote_32 ?_
      refine lv_iconst (v := (0 : Int32)) hx hb dX11_vote_33 (by decide) ?_
      refine lv_iconst (v := (0 : Int32)) hx hb dX11_vote_34 (by decide) ?_
      refine gcallv (va_runV (As := [.ref q2, .int (a1 - a2), .int (0 : Int32), .int (0 : Int32)]) (rest := []) ⟨hx, hb, hml, hown, ht⟩ (c_X0_hold l D ci cz tr q6 q2 q3 q4 q5 H.size u10 u11 zballot_left zballot_right zballot_leftDogs zballot_rightDogs zparish_roll_dogs zparish_roll_halves zparish_roll_likings zparish_roll_fears (a1 - a2) (0 : Int32) (0 : Int32) _ hw) (cwV 4 ht (gi_V mM_X11_133 mI_X0_hold mS_X0_hold mN_X0 mC_X0_hold) rfl rfl rfl (by decide +kernel) ⟨Nat.le_trans (Nat.le_of_ble_eq_true rfl) hfr, Nat.le_trans (Nat.le_of_ble_eq_true rfl) hlc⟩) (gpreV (wc := [(q6, .inr (0, [.int zballot_left, .int zballot_right, .int zballot_leftDogs, .int zballot_rightDogs])), (q2, .inr (8, [.int zparish_roll_dogs, u10, .ref q3, .ref q4, .ref q5, u11])), (q3, .inl (ci, 7, .inl zparish_roll_halves)), (q4, .inl (ci, 7, .inl zparish_roll_likings)), (q5, .inl (ci, 7, .inl zparish_roll_fears))]) (k := 0) (q0 := 6) hK hZ hP hD hS hA [6, 2, 3, 4, 5] rfl rfl rfl rfl rfl) rfl rfl hl.1 rfl (lv_room (Nat.le_of_ble_eq_true rfl)) dX11_vote_35 ⟨Nat.zero_le _, Nat.zero_le _⟩) hD hS hA [6, 2, 3, 4, 5] rfl (fun w9 H locs hw hP9 hk9 hS => ?_)
      obtain ⟨zballot_left_4, zballot_right_5, zballot_leftDogs_6, zballot_rightDogs_7, rfl, hw⟩ := hw
      have hP : va_P D vwCl [(q0, .inr (10, [u0, .ref q1, u1, u2, .ref q6, u3, u4, u5, u6])), (q1, .inr (7, [.ref q2, u7, u8, u9])), (q2, .inr (8, [.int zparish_roll_dogs, u10, .ref q3, .ref q4, .ref q5, u11])), (q3, .inl (ci, 7, .inl zparish_roll_halves)), (q4, .inl (ci, 7, .inl zparish_roll_likings)), (q5, .inl (ci, 7, .inl zparish_roll_fears)), (q6, .inr (0, [.int zballot_left_4, .int zballot_right_5, .int zballot_leftDogs_6, .int zballot_rightDogs_7]))] H := gjoin3 hP hD [6, 2, 3, 4, 5] hP9 hk9 rfl rfl [none, none, some 1, some 2, some 3, some 4, some 0] rfl rfl
      have hD : va_D A [(q0, .inr (10, [u0, .ref q1, u1, u2, .ref q6, u3, u4, u5, u6])), (q1, .inr (7, [.ref q2, u7, u8, u9])), (q2, .inr (8, [.int zparish_roll_dogs, u10, .ref q3, .ref q4, .ref q5, u11])), (q3, .inl (ci, 7, .inl zparish_roll_halves)), (q4, .inl (ci, 7, .inl zparish_roll_likings)), (q5, .inl (ci, 7, .inl zparish_roll_fears)), (q6, .inr (0, [.int zballot_left_4, .int zballot_right_5, .int zballot_leftDogs_6, .int zballot_rightDogs_7]))] := gD_re hD rfl
      clear hP9 hk9
      refine lv_iload_n hx hb dX11_vote_38 rfl (lv_at hl 3 rfl) ?_
      by_cases hk0 : a3 = (0 : Int32)
      · have hw := hw.1 hk0
        refine lv_lookup (off := 25) (tgt := 64) hx hb dX11_vote_39 (by decide) (by rw [hk0]; try rfl) (by decide) ?_
        refine lv_aload_n hx hb dX11_vote_64 rfl (lv_at hl 0 rfl) ?_
        refine va_get (D := D) (ci := 10) (v := .ref q6) (C := RX11) (T := TX11) (N := 9) hx hb ht in_X11 hown hK.1 hP 0 rfl rfl 4 (by decide) (ht _ mF_X11_30) (fun _ h9 => h9) rfl dX11_vote_65 ?_
        refine va_get (D := D) (ci := 0) (v := .int zballot_left_4) (C := RX0) (T := TX0) (N := 4) hx hb ht in_X0 hown hK.1 hP 6 rfl rfl 0 (by decide) (ht _ mF_X11_143) (fun _ h9 => h9) rfl dX11_vote_68 ?_
        exact hret _ _ H locs _ _ ⟨_, _, _, _, rfl, hw⟩ hP hS dX11_vote_71
      have hw := hw.2 hk0
      by_cases hk1 : a3 = (1 : Int32)
      · have hw := hw.1 hk1
        refine lv_lookup (off := 33) (tgt := 72) hx hb dX11_vote_39 (by decide) (by rw [hk1]; try rfl) (by decide) ?_
        refine lv_aload_n hx hb dX11_vote_72 rfl (lv_at hl 0 rfl) ?_
        refine va_get (D := D) (ci := 10) (v := .ref q6) (C := RX11) (T := TX11) (N := 9) hx hb ht in_X11 hown hK.1 hP 0 rfl rfl 4 (by decide) (ht _ mF_X11_30) (fun _ h9 => h9) rfl dX11_vote_73 ?_
        refine va_get (D := D) (ci := 0) (v := .int zballot_right_5) (C := RX0) (T := TX0) (N := 4) hx hb ht in_X0 hown hK.1 hP 6 rfl rfl 1 (by decide) (ht _ mF_X11_146) (fun _ h9 => h9) rfl dX11_vote_76 ?_
        exact hret _ _ H locs _ _ ⟨_, _, _, _, rfl, hw⟩ hP hS dX11_vote_79
      have hw := hw.2 hk1
      refine lv_lookup (off := 41) (tgt := 80) hx hb dX11_vote_39 (by decide) ((lv_osw hk0 (by decide)).trans ((lv_osw hk1 (by decide)).trans (rfl))) (by decide) ?_
      refine lv_aload_n hx hb dX11_vote_80 rfl (lv_at hl 0 rfl) ?_
      refine va_get (D := D) (ci := 10) (v := .ref q6) (C := RX11) (T := TX11) (N := 9) hx hb ht in_X11 hown hK.1 hP 0 rfl rfl 4 (by decide) (ht _ mF_X11_30) (fun _ h9 => h9) rfl dX11_vote_81 ?_
      refine gcalli (va_runV (As := []) (rest := []) ⟨hx, hb, hml, hown, ht⟩ (c_X0_winner l D ci cz tr q6 H.size (.int zballot_leftDogs_6) (.int zballot_rightDogs_7) zballot_left_4 zballot_right_5 _ hw) (cwV 0 ht (gi_V mM_X11_149 mI_X0_winner mS_X0_winner mN_X0 mC_X0_winner) rfl rfl rfl (by decide +kernel) ⟨Nat.le_trans (Nat.le_of_ble_eq_true rfl) hfr, Nat.le_trans (Nat.le_of_ble_eq_true rfl) hlc⟩) (gpreV (wc := [(q6, .inr (0, [.int zballot_left_4, .int zballot_right_5, .int zballot_leftDogs_6, .int zballot_rightDogs_7]))]) (k := 0) (q0 := 6) hK hZ hP hD hS hA [6] rfl rfl rfl rfl rfl) rfl rfl hl.1 rfl (lv_room (Nat.le_of_ble_eq_true rfl)) dX11_vote_84 ⟨Nat.zero_le _, Nat.zero_le _⟩) hD hS hA [6] rfl (fun r_8 w9 H locs hw hP9 hk9 hS => ?_)
      obtain ⟨rfl, hw⟩ := hw
      have hP : va_P D vwCl [(q0, .inr (10, [u0, .ref q1, u1, u2, .ref q6, u3, u4, u5, u6])), (q1, .inr (7, [.ref q2, u7, u8, u9])), (q2, .inr (8, [.int zparish_roll_dogs, u10, .ref q3, .ref q4, .ref q5, u11])), (q3, .inl (ci, 7, .inl zparish_roll_halves)), (q4, .inl (ci, 7, .inl zparish_roll_likings)), (q5, .inl (ci, 7, .inl zparish_roll_fears)), (q6, .inr (0, [.int zballot_left_4, .int zballot_right_5, .int zballot_leftDogs_6, .int zballot_rightDogs_7]))] H := gjoin3 hP hD [6] hP9 hk9 rfl rfl [none, none, none, none, none, none, some 0] rfl rfl
      clear hP9 hk9
      exact hret _ _ H locs _ _ ⟨_, _, _, _, rfl, hw⟩ hP hS dX11_vote_87
    · have hw := hw.2 hc
      refine lv_bipush (v := (-2 : Int32)) hx hb dX11_vote_16 (by decide) ?_
      exact hret _ _ H locs _ _ ⟨_, _, _, _, rfl, hw⟩ hP hS dX11_vote_18

def wp_X11_wipe (zpad_size : Int32)  (post : Int32 → Int32 → Prop) : Prop :=
  post zpad_size (0 : Int32)
set_option maxHeartbeats 4000000 in
set_option maxRecDepth 100000 in
theorem c_X11_wipe (l : Launch) (D : va_G) (ci cz : ClassId) (tr : List (ClassId × FieldType)) (q0 q1 : Nat) (sz : Nat) (u0 u1 u2 u3 u4 u5 u6 u7 u8 u9 u10 u11 u12 : Value) (zpad_size : Int32)  (post : Int32 → Int32 → Prop) (hw : wp_X11_wipe zpad_size post) : gM l yX11_wipe cX11_wipe 2 (some .int) 0 0 D ci cz tr [(q0, .inr (10, [.ref q1, u0, u1, u2, u3, u4, u5, u6, u7])), (q1, .inr (6, [u8, .int zpad_size, u9, u10, u11, u12]))] sz [.ref q0] (gQi D [(q0, .inr (10, [.ref q1, u0, u1, u2, u3, u4, u5, u6, u7])), (q1, .inr (6, [u8, .int zpad_size, u9, u10, u11, u12]))] sz (fun (r : Int32) w => ∃ (o_zpad_size : Int32), w = [(q0, .inr (10, [.ref q1, u0, u1, u2, u3, u4, u5, u6, u7])), (q1, .inr (6, [u8, .int o_zpad_size, u9, u10, u11, u12]))] ∧ post r o_zpad_size)) := by
  refine gmet_i RX11 (by decide +kernel) rfl (Nat.le_of_ble_eq_true rfl) ?_
  intro p e s m args below meth c A R Q C hfr hlc hP hD hret ls hl
  obtain ⟨hx, hb, hml, hown, ht, hK, hZ, hA⟩ := C
  have hl : lv_has ls 2 [(0, .ref q0)] := hl
  unfold wp_X11_wipe at hw
  refine g_in (fun H locs => W p l e R s m args below meth c H locs 0 0 Q (F0 m 0 ls [])) (fun H locs hS0 hP => ?_) hP (va_S.rf (A := A) (H0 := s.heap))
  have hS : va_S A s.heap H locs := hS0
  clear hS0
  refine lv_aload_n hx hb dX11_wipe_0 rfl (lv_at hl 0 rfl) ?_
  refine va_get (D := D) (ci := 10) (v := .ref q1) (C := RX11) (T := TX11) (N := 9) hx hb ht in_X11 hown hK.1 hP 0 rfl rfl 0 (by decide) (ht _ mF_X11_12) (fun _ h9 => h9) rfl dX11_wipe_1 ?_
  refine va_get (D := D) (ci := 6) (v := .int zpad_size) (C := RX7) (T := TX7) (N := 6) hx hb ht in_X7 hown hK.1 hP 1 rfl rfl 1 (by decide) (ht _ mF_X11_66) (fun _ h9 => h9) rfl dX11_wipe_4 ?_
  refine lv_istore_n (lv' := [(1, .int zpad_size), (0, .ref q0)]) hx hb dX11_wipe_7 rfl hl (by decide) rfl (fun ls hl => ?_)
  refine lv_aload_n hx hb dX11_wipe_8 rfl (lv_at hl 1 rfl) ?_
  refine va_get (D := D) (ci := 10) (v := .ref q1) (C := RX11) (T := TX11) (N := 9) hx hb ht in_X11 hown hK.1 hP 0 rfl rfl 0 (by decide) (ht _ mF_X11_12) (fun _ h9 => h9) rfl dX11_wipe_9 ?_
  refine lv_iconst (v := (0 : Int32)) hx hb dX11_wipe_12 (by decide) ?_
  refine va_put (D := D) (ci := 6) (v := .int (0 : Int32)) (ty := .int) (C := RX7) (T := TX7) (N := 6) hx hb ht in_X7 tyX7 tyX7_ok nmX7 hown hK.1 hP hD hS 1 rfl rfl 1 (by decide) (ht _ mF_X11_66) (fun _ h9 => h9) rfl (by decide +kernel) rfl rfl (Nat.le_of_ble_eq_true rfl) dX11_wipe_13 (fun H locs hP hD hS => ?_)
  have hP : va_P D vwCl [(q0, .inr (10, [.ref q1, u0, u1, u2, u3, u4, u5, u6, u7])), (q1, .inr (6, [u8, .int (0 : Int32), u9, u10, u11, u12]))] H := hP
  have hD : va_D A [(q0, .inr (10, [.ref q1, u0, u1, u2, u3, u4, u5, u6, u7])), (q1, .inr (6, [u8, .int (0 : Int32), u9, u10, u11, u12]))] := hD
  refine lv_iload_n hx hb dX11_wipe_16 rfl (lv_at hl 0 rfl) ?_
  exact hret _ _ H locs _ _ ⟨_, rfl, hw⟩ hP hS dX11_wipe_17

def wp_X11_won (zparish_roll_dogs : Int32) (zparish_roll_halves : Nat → Int32) (zparish_roll_likings : Nat → Int32) (zparish_roll_fears : Nat → Int32) (zballot_left : Int32) (zballot_right : Int32) (zballot_leftDogs : Int32) (zballot_rightDogs : Int32) (a1 : Int32) (post : Int32 → Int32 → Int32 → Int32 → Int32 → Prop) : Prop :=
  wp_X11_isWithin a1 (20 : Int32) (fun (r_1 : Int32) => ((¬ r_1 = 0 → lo (fun _ _ _ _ _ => False) (fun (G14 : Int32 → Int32 → Int32 → Int32 → Int32 → Prop) (x2_2 : Int32) (zballot_left_3 : Int32) (zballot_right_4 : Int32) (zballot_leftDogs_5 : Int32) (zballot_rightDogs_6 : Int32) => (((20 : Int32) < x2_2 → post (-6 : Int32) zballot_left_3 zballot_right_4 zballot_leftDogs_5 zballot_rightDogs_6) ∧ (¬ (20 : Int32) < x2_2 → wp_X0_hold zballot_left_3 zballot_right_4 zballot_leftDogs_5 zballot_rightDogs_6 zparish_roll_dogs zparish_roll_halves zparish_roll_likings zparish_roll_fears (x2_2 - a1) (0 : Int32) (0 : Int32) (fun (zballot_left_8 : Int32) (zballot_right_9 : Int32) (zballot_leftDogs_10 : Int32) (zballot_rightDogs_11 : Int32) => wp_X0_winner zballot_left_8 zballot_right_9 (fun (r_12 : Int32) => ((¬ r_12 = 0 → G14 (x2_2 + (1 : Int32)) zballot_left_8 zballot_right_9 zballot_leftDogs_10 zballot_rightDogs_11) ∧ (r_12 = 0 → post x2_2 zballot_left_8 zballot_right_9 zballot_leftDogs_10 zballot_rightDogs_11))))))) (fun G14 => G14 (0 : Int32) zballot_left zballot_right zballot_leftDogs zballot_rightDogs)) ∧ (r_1 = 0 → post (-2 : Int32) zballot_left zballot_right zballot_leftDogs zballot_rightDogs)))
set_option maxHeartbeats 4000000 in
set_option maxRecDepth 100000 in
theorem c_X11_won (l : Launch) (D : va_G) (ci cz : ClassId) (tr : List (ClassId × FieldType)) (q0 q1 q2 q3 q4 q5 q6 : Nat) (sz : Nat) (u0 u1 u2 u3 u4 u5 u6 u7 u8 u9 u10 u11 : Value) (zparish_roll_dogs : Int32) (zparish_roll_halves : Nat → Int32) (zparish_roll_likings : Nat → Int32) (zparish_roll_fears : Nat → Int32) (zballot_left : Int32) (zballot_right : Int32) (zballot_leftDogs : Int32) (zballot_rightDogs : Int32) (a1 : Int32) (post : Int32 → Int32 → Int32 → Int32 → Int32 → Prop) (hw : wp_X11_won zparish_roll_dogs zparish_roll_halves zparish_roll_likings zparish_roll_fears zballot_left zballot_right zballot_leftDogs zballot_rightDogs a1 post) : gM l yX11_won cX11_won 3 (some .int) 3 73 D ci cz tr [(q0, .inr (10, [u0, .ref q1, u1, u2, .ref q6, u3, u4, u5, u6])), (q1, .inr (7, [.ref q2, u7, u8, u9])), (q2, .inr (8, [.int zparish_roll_dogs, u10, .ref q3, .ref q4, .ref q5, u11])), (q3, .inl (ci, 7, .inl zparish_roll_halves)), (q4, .inl (ci, 7, .inl zparish_roll_likings)), (q5, .inl (ci, 7, .inl zparish_roll_fears)), (q6, .inr (0, [.int zballot_left, .int zballot_right, .int zballot_leftDogs, .int zballot_rightDogs]))] sz [.ref q0, .int a1] (gQi D [(q0, .inr (10, [u0, .ref q1, u1, u2, .ref q6, u3, u4, u5, u6])), (q1, .inr (7, [.ref q2, u7, u8, u9])), (q2, .inr (8, [.int zparish_roll_dogs, u10, .ref q3, .ref q4, .ref q5, u11])), (q3, .inl (ci, 7, .inl zparish_roll_halves)), (q4, .inl (ci, 7, .inl zparish_roll_likings)), (q5, .inl (ci, 7, .inl zparish_roll_fears)), (q6, .inr (0, [.int zballot_left, .int zballot_right, .int zballot_leftDogs, .int zballot_rightDogs]))] sz (fun (r : Int32) w => ∃ (o_zballot_left : Int32) (o_zballot_right : Int32) (o_zballot_leftDogs : Int32) (o_zballot_rightDogs : Int32), w = [(q0, .inr (10, [u0, .ref q1, u1, u2, .ref q6, u3, u4, u5, u6])), (q1, .inr (7, [.ref q2, u7, u8, u9])), (q2, .inr (8, [.int zparish_roll_dogs, u10, .ref q3, .ref q4, .ref q5, u11])), (q3, .inl (ci, 7, .inl zparish_roll_halves)), (q4, .inl (ci, 7, .inl zparish_roll_likings)), (q5, .inl (ci, 7, .inl zparish_roll_fears)), (q6, .inr (0, [.int o_zballot_left, .int o_zballot_right, .int o_zballot_leftDogs, .int o_zballot_rightDogs]))] ∧ post r o_zballot_left o_zballot_right o_zballot_leftDogs o_zballot_rightDogs)) := by
  refine gmet_i RX11 (by decide +kernel) rfl (Nat.le_of_ble_eq_true rfl) ?_
  intro p e s m args below meth c A R Q C hfr hlc hP hD hret ls hl
  obtain ⟨hx, hb, hml, hown, ht, hK, hZ, hA⟩ := C
  have hl : lv_has ls 3 [(0, .ref q0), (1, .int a1)] := hl
  unfold wp_X11_won at hw
  refine g_in (fun H locs => W p l e R s m args below meth c H locs 0 0 Q (F0 m 0 ls [])) (fun H locs hS0 hP => ?_) hP (va_S.rf (A := A) (H0 := s.heap))
  have hS : va_S A s.heap H locs := hS0
  clear hS0
  refine lv_iload_n hx hb dX11_won_0 rfl (lv_at hl 1 rfl) ?_
  refine lv_bipush (v := (20 : Int32)) hx hb dX11_won_1 (by decide) ?_
  refine gcalli (va_runS (As := [.int a1, .int (20 : Int32)]) (rest := []) ⟨hx, hb, hml, hown, ht⟩ (c_X11_isWithin l D ci cz tr  H.size a1 (20 : Int32) _ hw) (va_cwS 2 ht (gi_S mM_X11_140 mT_X11_isWithin mN_X11 mC_X11_isWithin) rfl rfl rfl (by decide +kernel) ⟨Nat.le_trans (Nat.le_of_ble_eq_true rfl) hfr, Nat.le_trans (Nat.le_of_ble_eq_true rfl) hlc⟩) (gpre (wc := []) hK hZ hP hD hS hA [] rfl rfl) rfl rfl hl.1 rfl (lv_room (Nat.le_of_ble_eq_true rfl)) dX11_won_3 ⟨Nat.zero_le _, Nat.zero_le _⟩) hD hS hA [] rfl (fun r_1 w9 H locs hw hP9 hk9 hS => ?_)
  obtain ⟨rfl, hw⟩ := hw
  have hP : va_P D vwCl [(q0, .inr (10, [u0, .ref q1, u1, u2, .ref q6, u3, u4, u5, u6])), (q1, .inr (7, [.ref q2, u7, u8, u9])), (q2, .inr (8, [.int zparish_roll_dogs, u10, .ref q3, .ref q4, .ref q5, u11])), (q3, .inl (ci, 7, .inl zparish_roll_halves)), (q4, .inl (ci, 7, .inl zparish_roll_likings)), (q5, .inl (ci, 7, .inl zparish_roll_fears)), (q6, .inr (0, [.int zballot_left, .int zballot_right, .int zballot_leftDogs, .int zballot_rightDogs]))] H := gjoin3 hP hD [] hP9 hk9 rfl rfl [none, none, none, none, none, none, none] rfl rfl
  clear hP9 hk9
  refine lv_if_ne (tgt := 12) hx hb dX11_won_6 (by decide) (fun hc => ?_) (fun hc => ?_)
  · have hw := hw.1 hc
    refine lv_iconst (v := (0 : Int32)) hx hb dX11_won_12 (by decide) ?_
    refine lv_istore_n (lv' := [(2, .int (0 : Int32)), (0, .ref q0), (1, .int a1)]) hx hb dX11_won_13 rfl hl (by decide) rfl (fun ls hl => ?_)
    refine lo_walk hw (fun G14 => ∀ (x2_2 : Int32) (zballot_left_3 : Int32) (zballot_right_4 : Int32) (zballot_leftDogs_5 : Int32) (zballot_rightDogs_6 : Int32) (H : Heap) (locs : List Loc) (ls : Array Slot), G14 x2_2 zballot_left_3 zballot_right_4 zballot_leftDogs_5 zballot_rightDogs_6 → va_P D vwCl [(q0, .inr (10, [u0, .ref q1, u1, u2, .ref q6, u3, u4, u5, u6])), (q1, .inr (7, [.ref q2, u7, u8, u9])), (q2, .inr (8, [.int zparish_roll_dogs, u10, .ref q3, .ref q4, .ref q5, u11])), (q3, .inl (ci, 7, .inl zparish_roll_halves)), (q4, .inl (ci, 7, .inl zparish_roll_likings)), (q5, .inl (ci, 7, .inl zparish_roll_fears)), (q6, .inr (0, [.int zballot_left_3, .int zballot_right_4, .int zballot_leftDogs_5, .int zballot_rightDogs_6]))] H → va_S A s.heap H locs → lv_has ls 3 [(0, .ref q0), (1, .int a1), (2, .int x2_2)] → W p l e R s m args below meth c H locs 0 0 Q (F0 m 14 ls [])) (fun _ _ _ _ _ _ _ _ hw _ _ _ => False.elim hw) (fun G14 hG14 x2_2 zballot_left_3 zballot_right_4 zballot_leftDogs_5 zballot_rightDogs_6 H locs ls hw hP hS hl => ?_) (fun G14 hG14 hw => hG14 _ _ _ _ _ H locs ls hw hP hS (lv_sub hl [1, 2, 0] rfl))
    have hD : va_D A [(q0, .inr (10, [u0, .ref q1, u1, u2, .ref q6, u3, u4, u5, u6])), (q1, .inr (7, [.ref q2, u7, u8, u9])), (q2, .inr (8, [.int zparish_roll_dogs, u10, .ref q3, .ref q4, .ref q5, u11])), (q3, .inl (ci, 7, .inl zparish_roll_halves)), (q4, .inl (ci, 7, .inl zparish_roll_likings)), (q5, .inl (ci, 7, .inl zparish_roll_fears)), (q6, .inr (0, [.int zballot_left_3, .int zballot_right_4, .int zballot_leftDogs_5, .int zballot_rightDogs_6]))] := gD_re hD rfl
    refine lv_iload_n hx hb dX11_won_14 rfl (lv_at hl 2 rfl) ?_
    refine lv_bipush (v := (20 : Int32)) hx hb dX11_won_15 (by decide) ?_
    refine lv_icmp_gt (tgt := 57) hx hb dX11_won_17 (by decide) (fun hc => ?_) (fun hc => ?_)
    · have hw := hw.1 hc
      refine lv_bipush (v := (-6 : Int32)) hx hb dX11_won_57 (by decide) ?_
      exact hret _ _ H locs _ _ ⟨_, _, _, _, rfl, hw⟩ hP hS dX11_won_59
    · have hw := hw.2 hc
      refine lv_aload_n hx hb dX11_won_20 rfl (lv_at hl 0 rfl) ?_
      refine va_get (D := D) (ci := 10) (v := .ref q6) (C := RX11) (T := TX11) (N := 9) hx hb ht in_X11 hown hK.1 hP 0 rfl rfl 4 (by decide) (ht _ mF_X11_30) (fun _ h9 => h9) rfl dX11_won_21 ?_
      refine lv_aload_n hx hb dX11_won_24 rfl (lv_at hl 0 rfl) ?_
      refine va_get (D := D) (ci := 10) (v := .ref q1) (C := RX11) (T := TX11) (N := 9) hx hb ht in_X11 hown hK.1 hP 0 rfl rfl 1 (by decide) (ht _ mF_X11_19) (fun _ h9 => h9) rfl dX11_won_25 ?_
      refine va_get (D := D) (ci := 7) (v := .ref q2) (C := RX8) (T := TX8) (N := 4) hx hb ht in_X8 hown hK.1 hP 1 rfl rfl 0 (by decide) (ht _ mF_X11_74) (fun _ h9 => h9) rfl dX11_won_28 ?_
      refine lv_iload_n hx hb dX11_won_31 rfl (lv_at hl 2 rfl) ?_
      refine lv_iload_n hx hb dX11_won_32 rfl (lv_at hl 1 rfl) ?_
      refine lv_isub hx hb dX11_won_33 ?_
      refine lv_iconst (v := (0 : Int32)) hx hb dX11_won_34 (by decide) ?_
      refine lv_iconst (v := (0 : Int32)) hx hb dX11_won_35 (by decide) ?_
      refine gcallv (va_runV (As := [.ref q2, .int (x2_2 - a1), .int (0 : Int32), .int (0 : Int32)]) (rest := []) ⟨hx, hb, hml, hown, ht⟩ (c_X0_hold l D ci cz tr q6 q2 q3 q4 q5 H.size u10 u11 zballot_left_3 zballot_right_4 zballot_leftDogs_5 zballot_rightDogs_6 zparish_roll_dogs zparish_roll_halves zparish_roll_likings zparish_roll_fears (x2_2 - a1) (0 : Int32) (0 : Int32) _ hw) (cwV 4 ht (gi_V mM_X11_133 mI_X0_hold mS_X0_hold mN_X0 mC_X0_hold) rfl rfl rfl (by decide +kernel) ⟨Nat.le_trans (Nat.le_of_ble_eq_true rfl) hfr, Nat.le_trans (Nat.le_of_ble_eq_true rfl) hlc⟩) (gpreV (wc := [(q6, .inr (0, [.int zballot_left_3, .int zballot_right_4, .int zballot_leftDogs_5, .int zballot_rightDogs_6])), (q2, .inr (8, [.int zparish_roll_dogs, u10, .ref q3, .ref q4, .ref q5, u11])), (q3, .inl (ci, 7, .inl zparish_roll_halves)), (q4, .inl (ci, 7, .inl zparish_roll_likings)), (q5, .inl (ci, 7, .inl zparish_roll_fears))]) (k := 0) (q0 := 6) hK hZ hP hD hS hA [6, 2, 3, 4, 5] rfl rfl rfl rfl rfl) rfl rfl hl.1 rfl (lv_room (Nat.le_of_ble_eq_true rfl)) dX11_won_36 ⟨Nat.zero_le _, Nat.zero_le _⟩) hD hS hA [6, 2, 3, 4, 5] rfl (fun w9 H locs hw hP9 hk9 hS => ?_)
      obtain ⟨zballot_left_8, zballot_right_9, zballot_leftDogs_10, zballot_rightDogs_11, rfl, hw⟩ := hw
      have hP : va_P D vwCl [(q0, .inr (10, [u0, .ref q1, u1, u2, .ref q6, u3, u4, u5, u6])), (q1, .inr (7, [.ref q2, u7, u8, u9])), (q2, .inr (8, [.int zparish_roll_dogs, u10, .ref q3, .ref q4, .ref q5, u11])), (q3, .inl (ci, 7, .inl zparish_roll_halves)), (q4, .inl (ci, 7, .inl zparish_roll_likings)), (q5, .inl (ci, 7, .inl zparish_roll_fears)), (q6, .inr (0, [.int zballot_left_8, .int zballot_right_9, .int zballot_leftDogs_10, .int zballot_rightDogs_11]))] H := gjoin3 hP hD [6, 2, 3, 4, 5] hP9 hk9 rfl rfl [none, none, some 1, some 2, some 3, some 4, some 0] rfl rfl
      have hD : va_D A [(q0, .inr (10, [u0, .ref q1, u1, u2, .ref q6, u3, u4, u5, u6])), (q1, .inr (7, [.ref q2, u7, u8, u9])), (q2, .inr (8, [.int zparish_roll_dogs, u10, .ref q3, .ref q4, .ref q5, u11])), (q3, .inl (ci, 7, .inl zparish_roll_halves)), (q4, .inl (ci, 7, .inl zparish_roll_likings)), (q5, .inl (ci, 7, .inl zparish_roll_fears)), (q6, .inr (0, [.int zballot_left_8, .int zballot_right_9, .int zballot_leftDogs_10, .int zballot_rightDogs_11]))] := gD_re hD rfl
      clear hP9 hk9
      refine lv_aload_n hx hb dX11_won_39 rfl (lv_at hl 0 rfl) ?_
      refine va_get (D := D) (ci := 10) (v := .ref q6) (C := RX11) (T := TX11) (N := 9) hx hb ht in_X11 hown hK.1 hP 0 rfl rfl 4 (by decide) (ht _ mF_X11_30) (fun _ h9 => h9) rfl dX11_won_40 ?_
      refine gcalli (va_runV (As := []) (rest := []) ⟨hx, hb, hml, hown, ht⟩ (c_X0_winner l D ci cz tr q6 H.size (.int zballot_leftDogs_10) (.int zballot_rightDogs_11) zballot_left_8 zballot_right_9 _ hw) (cwV 0 ht (gi_V mM_X11_149 mI_X0_winner mS_X0_winner mN_X0 mC_X0_winner) rfl rfl rfl (by decide +kernel) ⟨Nat.le_trans (Nat.le_of_ble_eq_true rfl) hfr, Nat.le_trans (Nat.le_of_ble_eq_true rfl) hlc⟩) (gpreV (wc := [(q6, .inr (0, [.int zballot_left_8, .int zballot_right_9, .int zballot_leftDogs_10, .int zballot_rightDogs_11]))]) (k := 0) (q0 := 6) hK hZ hP hD hS hA [6] rfl rfl rfl rfl rfl) rfl rfl hl.1 rfl (lv_room (Nat.le_of_ble_eq_true rfl)) dX11_won_43 ⟨Nat.zero_le _, Nat.zero_le _⟩) hD hS hA [6] rfl (fun r_12 w9 H locs hw hP9 hk9 hS => ?_)
      obtain ⟨rfl, hw⟩ := hw
      have hP : va_P D vwCl [(q0, .inr (10, [u0, .ref q1, u1, u2, .ref q6, u3, u4, u5, u6])), (q1, .inr (7, [.ref q2, u7, u8, u9])), (q2, .inr (8, [.int zparish_roll_dogs, u10, .ref q3, .ref q4, .ref q5, u11])), (q3, .inl (ci, 7, .inl zparish_roll_halves)), (q4, .inl (ci, 7, .inl zparish_roll_likings)), (q5, .inl (ci, 7, .inl zparish_roll_fears)), (q6, .inr (0, [.int zballot_left_8, .int zballot_right_9, .int zballot_leftDogs_10, .int zballot_rightDogs_11]))] H := gjoin3 hP hD [6] hP9 hk9 rfl rfl [none, none, none, none, none, none, some 0] rfl rfl
      clear hP9 hk9
      refine lv_if_ne (tgt := 51) hx hb dX11_won_46 (by decide) (fun hc => ?_) (fun hc => ?_)
      · have hw := hw.1 hc
        refine lv_iinc (v := (x2_2 + (1 : Int32))) (lv' := [(2, .int (x2_2 + (1 : Int32))), (0, .ref q0), (1, .int a1)]) hx hb dX11_won_51 hl (k := 2) rfl rfl (by decide) rfl (fun ls hl => ?_)
        refine lv_goto (tgt := 14) hx hb dX11_won_54 (by decide) ?_
        exact hG14 _ _ _ _ _ H locs ls hw hP hS (lv_sub hl [1, 2, 0] rfl)
      · have hw := hw.2 hc
        refine lv_iload_n hx hb dX11_won_49 rfl (lv_at hl 2 rfl) ?_
        exact hret _ _ H locs _ _ ⟨_, _, _, _, rfl, hw⟩ hP hS dX11_won_50
  · have hw := hw.2 hc
    refine lv_bipush (v := (-2 : Int32)) hx hb dX11_won_9 (by decide) ?_
    exact hret _ _ H locs _ _ ⟨_, _, _, _, rfl, hw⟩ hP hS dX11_won_11
