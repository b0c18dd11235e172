def wp_X12_wipe (zsigns : Int32)  (post : Int32 → Int32 → Prop) : Prop :=
  post zsigns (0 : Int32)
set_option maxHeartbeats 4000000 in
set_option maxRecDepth 100000 in
theorem c_X12_wipe (l : Launch) (D : va_G) (ci cz : ClassId) (tr : List (ClassId × FieldType)) (q0 : Nat) (sz : Nat) (u0 u1 u2 u3 u4 u5 u6 u7 u8 u9 u10 u11 u12 u13 u14 u15 u16 u17 u18 u19 u20 u21 : Value) (zsigns : Int32)  (post : Int32 → Int32 → Prop) (hw : wp_X12_wipe zsigns post) : gM l yX12_wipe cX12_wipe 2 (some .int) 0 0 D ci cz tr [(q0, .inr (11, [u0, u1, u2, u3, u4, u5, u6, u7, u8, u9, u10, .int zsigns, u11, u12, u13, u14, u15, u16, u17, u18, u19, u20, u21]))] sz [.ref q0] (gQi D [(q0, .inr (11, [u0, u1, u2, u3, u4, u5, u6, u7, u8, u9, u10, .int zsigns, u11, u12, u13, u14, u15, u16, u17, u18, u19, u20, u21]))] sz (fun (r : Int32) w => ∃ (o_zsigns : Int32), w = [(q0, .inr (11, [u0, u1, u2, u3, u4, u5, u6, u7, u8, u9, u10, .int o_zsigns, u11, u12, u13, u14, u15, u16, u17, u18, u19, u20, u21]))] ∧ post r o_zsigns)) := by
  refine gmet_i RX12 (by decide +kernel) rfl (Nat.le_of_ble_eq_true rfl) ?_
  intro p e s m args below meth c A R Q C hfr hlc hP hD hret ls hl
  obtain ⟨hx, hb, hml, hown, ht, hK, hZ, hA⟩ := C
  have hl : lv_has ls 2 [(0, .ref q0)] := hl
  unfold wp_X12_wipe at hw
  refine g_in (fun H locs => W p l e R s m args below meth c H locs 0 0 Q (F0 m 0 ls [])) (fun H locs hS0 hP => ?_) hP (va_S.rf (A := A) (H0 := s.heap))
  have hS : va_S A s.heap H locs := hS0
  clear hS0
  refine lv_aload_n hx hb dX12_wipe_0 rfl (lv_at hl 0 rfl) ?_
  refine va_get (D := D) (ci := 11) (v := .int zsigns) (C := RX12) (T := TX12) (N := 23) hx hb ht in_X12 hown hK.1 hP 0 rfl rfl 11 (by decide) (ht _ mF_X12_70) (fun _ h9 => h9) rfl dX12_wipe_1 ?_
  refine lv_istore_n (lv' := [(1, .int zsigns), (0, .ref q0)]) hx hb dX12_wipe_4 rfl hl (by decide) rfl (fun ls hl => ?_)
  refine lv_aload_n hx hb dX12_wipe_5 rfl (lv_at hl 1 rfl) ?_
  refine lv_iconst (v := (0 : Int32)) hx hb dX12_wipe_6 (by decide) ?_
  refine va_put (D := D) (ci := 11) (v := .int (0 : Int32)) (ty := .int) (C := RX12) (T := TX12) (N := 23) hx hb ht in_X12 tyX12 tyX12_ok nmX12 hown hK.1 hP hD hS 0 rfl rfl 11 (by decide) (ht _ mF_X12_70) (fun _ h9 => h9) rfl (by decide +kernel) rfl rfl (Nat.le_of_ble_eq_true rfl) dX12_wipe_7 (fun H locs hP hD hS => ?_)
  have hP : va_P D vwCl [(q0, .inr (11, [u0, u1, u2, u3, u4, u5, u6, u7, u8, u9, u10, .int (0 : Int32), u11, u12, u13, u14, u15, u16, u17, u18, u19, u20, u21]))] H := hP
  have hD : va_D A [(q0, .inr (11, [u0, u1, u2, u3, u4, u5, u6, u7, u8, u9, u10, .int (0 : Int32), u11, u12, u13, u14, u15, u16, u17, u18, u19, u20, u21]))] := hD
  refine lv_iload_n hx hb dX12_wipe_10 rfl (lv_at hl 0 rfl) ?_
  exact hret _ _ H locs _ _ ⟨_, rfl, hw⟩ hP hS dX12_wipe_11

def wp_X12_won (zdogs : Int32) (zhungry : Int32) (zatLeft : Int32) (zatRight : Int32) (zhalves : Nat → Int32) (zlikes : Nat → Int32) (zfears : Nat → Int32) (zorder : Nat → Int32) (zwent : Nat → Int32) (zfill : Nat → Int32) (a1 : Int32) (post : Int32 → Int32 → Int32 → (Nat → Int32) → (Nat → Int32) → (Nat → Int32) → Prop) : Prop :=
  wp_X12_in a1 (0 : Int32) (20 : Int32) (fun (r_1 : Int32) => ((¬ r_1 = 0 → lo (fun _ _ _ _ _ _ => False) (fun (G15 : Int32 → Int32 → Int32 → (Nat → Int32) → (Nat → Int32) → (Nat → Int32) → Prop) (x2_2 : Int32) (zatLeft_3 : Int32) (zatRight_4 : Int32) (zorder_5 : Nat → Int32) (zwent_6 : Nat → Int32) (zfill_7 : Nat → Int32) => (((20 : Int32) < x2_2 → post (-6 : Int32) zatLeft_3 zatRight_4 zorder_5 zwent_6 zfill_7) ∧ (¬ (20 : Int32) < x2_2 → wp_X12_fresh zdogs zhungry zatLeft_3 zatRight_4 zhalves zlikes zfears zorder_5 zwent_6 zfill_7 x2_2 a1 (-6 : Int32) (fun (zatLeft_9 : Int32) (zatRight_10 : Int32) (zorder_11 : Nat → Int32) (zwent_12 : Nat → Int32) (zfill_13 : Nat → Int32) => wp_X12_winner zatLeft_9 zatRight_10 (fun (r_14 : Int32) => ((¬ r_14 = 0 → G15 (x2_2 + (1 : Int32)) zatLeft_9 zatRight_10 zorder_11 zwent_12 zfill_13) ∧ (r_14 = 0 → post x2_2 zatLeft_9 zatRight_10 zorder_11 zwent_12 zfill_13))))))) (fun G15 => G15 (0 : Int32) zatLeft zatRight zorder zwent zfill)) ∧ (r_1 = 0 → post (-2 : Int32) zatLeft zatRight zorder zwent zfill)))
set_option maxHeartbeats 4000000 in
set_option maxRecDepth 100000 in
theorem c_X12_won (l : Launch) (D : va_G) (ci cz : ClassId) (tr : List (ClassId × FieldType)) (q0 q1 q2 q3 q4 q5 q6 : Nat) (sz : Nat) (u0 u1 u2 u3 u4 u5 u6 u7 u8 u9 u10 u11 u12 : Value) (zdogs : Int32) (zhungry : Int32) (zatLeft : Int32) (zatRight : Int32) (zhalves : Nat → Int32) (zlikes : Nat → Int32) (zfears : Nat → Int32) (zorder : Nat → Int32) (zwent : Nat → Int32) (zfill : Nat → Int32) (a1 : Int32) (post : Int32 → Int32 → Int32 → (Nat → Int32) → (Nat → Int32) → (Nat → Int32) → Prop) (hw : wp_X12_won zdogs zhungry zatLeft zatRight zhalves zlikes zfears zorder zwent zfill a1 post) : gM l yX12_won cX12_won 3 (some .int) 4 95 D ci cz tr [(q0, .inr (11, [.int zdogs, .ref q1, .ref q2, u0, .ref q3, u1, .int zhungry, u2, u3, u4, u5, u6, u7, .ref q4, .ref q5, .ref q6, .int zatLeft, .int zatRight, u8, u9, u10, u11, u12])), (q1, .inl (ci, 7, .inl zhalves)), (q2, .inl (ci, 7, .inl zlikes)), (q3, .inl (ci, 7, .inl zfears)), (q4, .inl (ci, 7, .inl zorder)), (q5, .inl (ci, 7, .inl zwent)), (q6, .inl (ci, 7, .inl zfill))] sz [.ref q0, .int a1] (gQi D [(q0, .inr (11, [.int zdogs, .ref q1, .ref q2, u0, .ref q3, u1, .int zhungry, u2, u3, u4, u5, u6, u7, .ref q4, .ref q5, .ref q6, .int zatLeft, .int zatRight, u8, u9, u10, u11, u12])), (q1, .inl (ci, 7, .inl zhalves)), (q2, .inl (ci, 7, .inl zlikes)), (q3, .inl (ci, 7, .inl zfears)), (q4, .inl (ci, 7, .inl zorder)), (q5, .inl (ci, 7, .inl zwent)), (q6, .inl (ci, 7, .inl zfill))] sz (fun (r : Int32) w => ∃ (o_zatLeft : Int32) (o_zatRight : Int32) (o_zorder : Nat → Int32) (o_zwent : Nat → Int32) (o_zfill : Nat → Int32), w = [(q0, .inr (11, [.int zdogs, .ref q1, .ref q2, u0, .ref q3, u1, .int zhungry, u2, u3, u4, u5, u6, u7, .ref q4, .ref q5, .ref q6, .int o_zatLeft, .int o_zatRight, u8, u9, u10, u11, u12])), (q1, .inl (ci, 7, .inl zhalves)), (q2, .inl (ci, 7, .inl zlikes)), (q3, .inl (ci, 7, .inl zfears)), (q4, .inl (ci, 7, .inl o_zorder)), (q5, .inl (ci, 7, .inl o_zwent)), (q6, .inl (ci, 7, .inl o_zfill))] ∧ post r o_zatLeft o_zatRight o_zorder o_zwent o_zfill)) := by
  refine gmet_i RX12 (by decide +kernel) rfl (Nat.le_of_ble_eq_true rfl) ?_
  intro p e s m args below meth c A R Q C hfr hlc hP hD hret ls hl
  obtain ⟨hx, hb, hml, hown, ht, hK, hZ, hA⟩ := C
  have hl : lv_has ls 3 [(0, .ref q0), (1, .int a1)] := hl
  unfold wp_X12_won at hw
  refine g_in (fun H locs => W p l e R s m args below meth c H locs 0 0 Q (F0 m 0 ls [])) (fun H locs hS0 hP => ?_) hP (va_S.rf (A := A) (H0 := s.heap))
  have hS : va_S A s.heap H locs := hS0
  clear hS0
  refine lv_iload_n hx hb dX12_won_0 rfl (lv_at hl 1 rfl) ?_
  refine lv_iconst (v := (0 : Int32)) hx hb dX12_won_1 (by decide) ?_
  refine lv_bipush (v := (20 : Int32)) hx hb dX12_won_2 (by decide) ?_
  refine gcalli (va_runS (As := [.int a1, .int (0 : Int32), .int (20 : Int32)]) (rest := []) ⟨hx, hb, hml, hown, ht⟩ (c_X12_in l D ci cz tr  H.size a1 (0 : Int32) (20 : Int32) _ hw) (va_cwS 3 ht (gi_S mM_X12_66 mT_X12_in mN_X12 mC_X12_in) rfl rfl rfl (by decide +kernel) ⟨Nat.le_trans (Nat.le_of_ble_eq_true rfl) hfr, Nat.le_trans (Nat.le_of_ble_eq_true rfl) hlc⟩) (gpre (wc := []) hK hZ hP hD hS hA [] rfl rfl) rfl rfl hl.1 rfl (lv_room (Nat.le_of_ble_eq_true rfl)) dX12_won_4 ⟨Nat.zero_le _, Nat.zero_le _⟩) hD hS hA [] rfl (fun r_1 w9 H locs hw hP9 hk9 hS => ?_)
  obtain ⟨rfl, hw⟩ := hw
  have hP : va_P D vwCl [(q0, .inr (11, [.int zdogs, .ref q1, .ref q2, u0, .ref q3, u1, .int zhungry, u2, u3, u4, u5, u6, u7, .ref q4, .ref q5, .ref q6, .int zatLeft, .int zatRight, u8, u9, u10, u11, u12])), (q1, .inl (ci, 7, .inl zhalves)), (q2, .inl (ci, 7, .inl zlikes)), (q3, .inl (ci, 7, .inl zfears)), (q4, .inl (ci, 7, .inl zorder)), (q5, .inl (ci, 7, .inl zwent)), (q6, .inl (ci, 7, .inl zfill))] H := gjoin3 hP hD [] hP9 hk9 rfl rfl [none, none, none, none, none, none, none] rfl rfl
  clear hP9 hk9
  refine lv_if_ne (tgt := 13) hx hb dX12_won_7 (by decide) (fun hc => ?_) (fun hc => ?_)
  · have hw := hw.1 hc
    refine lv_iconst (v := (0 : Int32)) hx hb dX12_won_13 (by decide) ?_
    refine lv_istore_n (lv' := [(2, .int (0 : Int32)), (0, .ref q0), (1, .int a1)]) hx hb dX12_won_14 rfl hl (by decide) rfl (fun ls hl => ?_)
    refine lo_walk hw (fun G15 => ∀ (x2_2 : Int32) (zatLeft_3 : Int32) (zatRight_4 : Int32) (zorder_5 : Nat → Int32) (zwent_6 : Nat → Int32) (zfill_7 : Nat → Int32) (H : Heap) (locs : List Loc) (ls : Array Slot), G15 x2_2 zatLeft_3 zatRight_4 zorder_5 zwent_6 zfill_7 → va_P D vwCl [(q0, .inr (11, [.int zdogs, .ref q1, .ref q2, u0, .ref q3, u1, .int zhungry, u2, u3, u4, u5, u6, u7, .ref q4, .ref q5, .ref q6, .int zatLeft_3, .int zatRight_4, u8, u9, u10, u11, u12])), (q1, .inl (ci, 7, .inl zhalves)), (q2, .inl (ci, 7, .inl zlikes)), (q3, .inl (ci, 7, .inl zfears)), (q4, .inl (ci, 7, .inl zorder_5)), (q5, .inl (ci, 7, .inl zwent_6)), (q6, .inl (ci, 7, .inl zfill_7))] H → va_S A s.heap H locs → lv_has ls 3 [(0, .ref q0), (1, .int a1), (2, .int x2_2)] → W p l e R s m args below meth c H locs 0 0 Q (F0 m 15 ls [])) (fun _ _ _ _ _ _ _ _ _ hw _ _ _ => False.elim hw) (fun G15 hG15 x2_2 zatLeft_3 zatRight_4 zorder_5 zwent_6 zfill_7 H locs ls hw hP hS hl => ?_) (fun G15 hG15 hw => hG15 _ _ _ _ _ _ H locs ls hw hP hS (lv_sub hl [1, 2, 0] rfl))
    have hD : va_D A [(q0, .inr (11, [.int zdogs, .ref q1, .ref q2, u0, .ref q3, u1, .int zhungry, u2, u3, u4, u5, u6, u7, .ref q4, .ref q5, .ref q6, .int zatLeft_3, .int zatRight_4, u8, u9, u10, u11, u12])), (q1, .inl (ci, 7, .inl zhalves)), (q2, .inl (ci, 7, .inl zlikes)), (q3, .inl (ci, 7, .inl zfears)), (q4, .inl (ci, 7, .inl zorder_5)), (q5, .inl (ci, 7, .inl zwent_6)), (q6, .inl (ci, 7, .inl zfill_7))] := gD_re hD rfl
    refine lv_iload_n hx hb dX12_won_15 rfl (lv_at hl 2 rfl) ?_
    refine lv_bipush (v := (20 : Int32)) hx hb dX12_won_16 (by decide) ?_
    refine lv_icmp_gt (tgt := 44) hx hb dX12_won_18 (by decide) (fun hc => ?_) (fun hc => ?_)
    · have hw := hw.1 hc
      refine lv_bipush (v := (-6 : Int32)) hx hb dX12_won_44 (by decide) ?_
      exact hret _ _ H locs _ _ ⟨_, _, _, _, _, rfl, hw⟩ hP hS dX12_won_46
    · have hw := hw.2 hc
      refine lv_aload_n hx hb dX12_won_21 rfl (lv_at hl 0 rfl) ?_
      refine lv_iload_n hx hb dX12_won_22 rfl (lv_at hl 2 rfl) ?_
      refine lv_iload_n hx hb dX12_won_23 rfl (lv_at hl 1 rfl) ?_
      refine lv_bipush (v := (-6 : Int32)) hx hb dX12_won_24 (by decide) ?_
      refine gcallv (va_runV (As := [.int x2_2, .int a1, .int (-6 : Int32)]) (rest := []) ⟨hx, hb, hml, hown, ht⟩ (c_X12_fresh l D ci cz tr q0 q1 q2 q3 q4 q5 q6 H.size u0 u1 u2 u3 u4 u5 u6 u7 u8 u9 u10 u11 u12 zdogs zhungry zatLeft_3 zatRight_4 zhalves zlikes zfears zorder_5 zwent_6 zfill_7 x2_2 a1 (-6 : Int32) _ hw) (cwV 3 ht (gi_V mM_X12_110 mI_X12_fresh mS_X12_fresh mN_X12 mC_X12_fresh) rfl rfl rfl (by decide +kernel) ⟨Nat.le_trans (Nat.le_of_ble_eq_true rfl) hfr, Nat.le_trans (Nat.le_of_ble_eq_true rfl) hlc⟩) (gpreV (wc := [(q0, .inr (11, [.int zdogs, .ref q1, .ref q2, u0, .ref q3, u1, .int zhungry, u2, u3, u4, u5, u6, u7, .ref q4, .ref q5, .ref q6, .int zatLeft_3, .int zatRight_4, u8, u9, u10, u11, u12])), (q1, .inl (ci, 7, .inl zhalves)), (q2, .inl (ci, 7, .inl zlikes)), (q3, .inl (ci, 7, .inl zfears)), (q4, .inl (ci, 7, .inl zorder_5)), (q5, .inl (ci, 7, .inl zwent_6)), (q6, .inl (ci, 7, .inl zfill_7))]) (k := 11) (q0 := 0) hK hZ hP hD hS hA [0, 1, 2, 3, 4, 5, 6] rfl rfl rfl rfl rfl) rfl rfl hl.1 rfl (lv_room (Nat.le_of_ble_eq_true rfl)) dX12_won_26 ⟨Nat.zero_le _, Nat.zero_le _⟩) hD hS hA [0, 1, 2, 3, 4, 5, 6] rfl (fun w9 H locs hw hP9 hk9 hS => ?_)
      obtain ⟨zatLeft_9, zatRight_10, zorder_11, zwent_12, zfill_13, rfl, hw⟩ := hw
      have hP : va_P D vwCl [(q0, .inr (11, [.int zdogs, .ref q1, .ref q2, u0, .ref q3, u1, .int zhungry, u2, u3, u4, u5, u6, u7, .ref q4, .ref q5, .ref q6, .int zatLeft_9, .int zatRight_10, u8, u9, u10, u11, u12])), (q1, .inl (ci, 7, .inl zhalves)), (q2, .inl (ci, 7, .inl zlikes)), (q3, .inl (ci, 7, .inl zfears)), (q4, .inl (ci, 7, .inl zorder_11)), (q5, .inl (ci, 7, .inl zwent_12)), (q6, .inl (ci, 7, .inl zfill_13))] H := gjoin3 hP hD [0, 1, 2, 3, 4, 5, 6] hP9 hk9 rfl rfl [some 0, some 1, some 2, some 3, some 4, some 5, some 6] rfl rfl
      have hD : va_D A [(q0, .inr (11, [.int zdogs, .ref q1, .ref q2, u0, .ref q3, u1, .int zhungry, u2, u3, u4, u5, u6, u7, .ref q4, .ref q5, .ref q6, .int zatLeft_9, .int zatRight_10, u8, u9, u10, u11, u12])), (q1, .inl (ci, 7, .inl zhalves)), (q2, .inl (ci, 7, .inl zlikes)), (q3, .inl (ci, 7, .inl zfears)), (q4, .inl (ci, 7, .inl zorder_11)), (q5, .inl (ci, 7, .inl zwent_12)), (q6, .inl (ci, 7, .inl zfill_13))] := gD_re hD rfl
      clear hP9 hk9
      refine lv_aload_n hx hb dX12_won_29 rfl (lv_at hl 0 rfl) ?_
      refine gcalli (va_runV (As := []) (rest := []) ⟨hx, hb, hml, hown, ht⟩ (c_X12_winner l D ci cz tr q0 H.size (.int zdogs) (.ref q1) (.ref q2) u0 (.ref q3) u1 (.int zhungry) u2 u3 u4 u5 u6 u7 (.ref q4) (.ref q5) (.ref q6) u8 u9 u10 u11 u12 zatLeft_9 zatRight_10 _ hw) (cwV 0 ht (gi_V mM_X12_113 mI_X12_winner mS_X12_winner mN_X12 mC_X12_winner) rfl rfl rfl (by decide +kernel) ⟨Nat.le_trans (Nat.le_of_ble_eq_true rfl) hfr, Nat.le_trans (Nat.le_of_ble_eq_true rfl) hlc⟩) (gpreV (wc := [(q0, .inr (11, [.int zdogs, .ref q1, .ref q2, u0, .ref q3, u1, .int zhungry, u2, u3, u4, u5, u6, u7, .ref q4, .ref q5, .ref q6, .int zatLeft_9, .int zatRight_10, u8, u9, u10, u11, u12]))]) (k := 11) (q0 := 0) hK hZ hP hD hS hA [0] rfl rfl rfl rfl rfl) rfl rfl hl.1 rfl (lv_room (Nat.le_of_ble_eq_true rfl)) dX12_won_30 ⟨Nat.zero_le _, Nat.zero_le _⟩) hD hS hA [0] rfl (fun r_14 w9 H locs hw hP9 hk9 hS => ?_)
      obtain ⟨rfl, hw⟩ := hw
      have hP : va_P D vwCl [(q0, .inr (11, [.int zdogs, .ref q1, .ref q2, u0, .ref q3, u1, .int zhungry, u2, u3, u4, u5, u6, u7, .ref q4, .ref q5, .ref q6, .int zatLeft_9, .int zatRight_10, u8, u9, u10, u11, u12])), (q1, .inl (ci, 7, .inl zhalves)), (q2, .inl (ci, 7, .inl zlikes)), (q3, .inl (ci, 7, .inl zfears)), (q4, .inl (ci, 7, .inl zorder_11)), (q5, .inl (ci, 7, .inl zwent_12)), (q6, .inl (ci, 7, .inl zfill_13))] H := gjoin3 hP hD [0] hP9 hk9 rfl rfl [some 0, none, none, none, none, none, none] rfl rfl
      clear hP9 hk9
      refine lv_if_ne (tgt := 38) hx hb dX12_won_33 (by decide) (fun hc => ?_) (fun hc => ?_)
      · have hw := hw.1 hc
        refine lv_iinc (v := (x2_2 + (1 : Int32))) (lv' := [(2, .int (x2_2 + (1 : Int32))), (0, .ref q0), (1, .int a1)]) hx hb dX12_won_38 hl (k := 2) rfl rfl (by decide) rfl (fun ls hl => ?_)
        refine lv_goto (tgt := 15) hx hb dX12_won_41 (by decide) ?_
        exact hG15 _ _ _ _ _ _ H locs ls hw hP hS (lv_sub hl [1, 2, 0] rfl)
      · have hw := hw.2 hc
        refine lv_iload_n hx hb dX12_won_36 rfl (lv_at hl 2 rfl) ?_
        exact hret _ _ H locs _ _ ⟨_, _, _, _, _, rfl, hw⟩ hP hS dX12_won_37
  · have hw := hw.2 hc
    refine lv_bipush (v := (-2 : Int32)) hx hb dX12_won_10 (by decide) ?_
    exact hret _ _ H locs _ _ ⟨_, _, _, _, _, rfl, hw⟩ hP hS dX12_won_12
