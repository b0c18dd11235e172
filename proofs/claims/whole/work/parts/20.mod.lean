def wp_X12_allHalves (zdogs : Int32) (zhalves : Nat → Int32)  (post : Int32 → Prop) : Prop :=
  lo (fun _ _ => False) (fun (G4 : Int32 → Int32 → Prop) (x1_1 : Int32) (x2_2 : Int32) => ((zdogs ≤ x2_2 → post x1_1 ) ∧ (¬ zdogs ≤ x2_2 → (vp_in x2_2 7 ∧ G4 (x1_1 + (zhalves (x2_2).toNatClampNeg)) (x2_2 + (1 : Int32)))))) (fun G4 => G4 (0 : Int32) (0 : Int32))
set_option maxHeartbeats 4000000 in
set_option maxRecDepth 100000 in
theorem c_X12_allHalves (l : Launch) (D : va_G) (ci cz : ClassId) (tr : List (ClassId × FieldType)) (q0 q1 : Nat) (sz : Nat) (u0 u1 u2 u3 u4 u5 u6 u7 u8 u9 u10 u11 u12 u13 u14 u15 u16 u17 u18 u19 u20 : Value) (zdogs : Int32) (zhalves : Nat → Int32)  (post : Int32 → Prop) (hw : wp_X12_allHalves zdogs zhalves post) : gM l yX12_allHalves cX12_allHalves 3 (some .int) 0 0 D ci cz tr [(q0, .inr (11, [.int zdogs, .ref q1, u0, u1, u2, u3, u4, u5, u6, u7, u8, u9, u10, u11, u12, u13, u14, u15, u16, u17, u18, u19, u20])), (q1, .inl (ci, 7, .inl zhalves))] sz [.ref q0] (gQi D [(q0, .inr (11, [.int zdogs, .ref q1, u0, u1, u2, u3, u4, u5, u6, u7, u8, u9, u10, u11, u12, u13, u14, u15, u16, u17, u18, u19, u20])), (q1, .inl (ci, 7, .inl zhalves))] sz (fun (r : Int32) w => w = [(q0, .inr (11, [.int zdogs, .ref q1, u0, u1, u2, u3, u4, u5, u6, u7, u8, u9, u10, u11, u12, u13, u14, u15, u16, u17, u18, u19, u20])), (q1, .inl (ci, 7, .inl zhalves))] ∧ post r )) := by
  refine gmet_i RX12 (by decide +kernel) rfl (Nat.le_of_ble_eq_true rfl) ?_
  intro p e s m args below meth c A R Q C hfr hlc hP hD hret ls hl
  obtain ⟨hx, hb, hml, hown, ht, hK, hZ, hA⟩ := C
  have hl : lv_has ls 3 [(0, .ref q0)] := hl
  unfold wp_X12_allHalves at hw
  refine g_in (fun H locs => W p l e R s m args below meth c H locs 0 0 Q (F0 m 0 ls [])) (fun H locs hS0 hP => ?_) hP (va_S.rf (A := A) (H0 := s.heap))
  have hS : va_S A s.heap H locs := hS0
  clear hS0
  refine lv_iconst (v := (0 : Int32)) hx hb dX12_allHalves_0 (by decide) ?_
  refine lv_istore_n (lv' := [(1, .int (0 : Int32)), (0, .ref q0)]) hx hb dX12_allHalves_1 rfl hl (by decide) rfl (fun ls hl => ?_)
  refine lv_iconst (v := (0 : Int32)) hx hb dX12_allHalves_2 (by decide) ?_
  refine lv_istore_n (lv' := [(2, .int (0 : Int32)), (1, .int (0 : Int32)), (0, .ref q0)]) hx hb dX12_allHalves_3 rfl hl (by decide) rfl (fun ls hl => ?_)
  refine lo_walk hw (fun G4 => ∀ (x1_1 : Int32) (x2_2 : Int32) (H : Heap) (locs : List Loc) (ls : Array Slot), G4 x1_1 x2_2 → va_P D vwCl [(q0, .inr (11, [.int zdogs, .ref q1, u0, u1, u2, u3, u4, u5, u6, u7, u8, u9, u10, u11, u12, u13, u14, u15, u16, u17, u18, u19, u20])), (q1, .inl (ci, 7, .inl zhalves))] H → va_S A s.heap H locs → lv_has ls 3 [(0, .ref q0), (1, .int x1_1), (2, .int x2_2)] → W p l e R s m args below meth c H locs 0 0 Q (F0 m 4 ls [])) (fun _ _ _ _ _ hw _ _ _ => False.elim hw) (fun G4 hG4 x1_1 x2_2 H locs ls hw hP hS hl => ?_) (fun G4 hG4 hw => hG4 _ _ H locs ls hw hP hS (lv_sub hl [2, 1, 0] rfl))
  have hD : va_D A [(q0, .inr (11, [.int zdogs, .ref q1, u0, u1, u2, u3, u4, u5, u6, u7, u8, u9, u10, u11, u12, u13, u14, u15, u16, u17, u18, u19, u20])), (q1, .inl (ci, 7, .inl zhalves))] := gD_re hD rfl
  refine lv_iload_n hx hb dX12_allHalves_4 rfl (lv_at hl 2 rfl) ?_
  refine lv_aload_n hx hb dX12_allHalves_5 rfl (lv_at hl 0 rfl) ?_
  refine va_get (D := D) (ci := 11) (v := .int zdogs) (C := RX12) (T := TX12) (N := 23) hx hb ht in_X12 hown hK.1 hP 0 rfl rfl 0 (by decide) (ht _ mF_X12_63) (fun _ h9 => h9) rfl dX12_allHalves_6 ?_
  refine lv_icmp_ge (tgt := 27) hx hb dX12_allHalves_9 (by decide) (fun hc => ?_) (fun hc => ?_)
  · have hw := hw.1 hc
    refine lv_iload_n hx hb dX12_allHalves_27 rfl (lv_at hl 1 rfl) ?_
    exact hret _ _ H locs _ _ ⟨rfl, hw⟩ hP hS dX12_allHalves_28
  · have hw := hw.2 hc
    refine lv_iload_n hx hb dX12_allHalves_12 rfl (lv_at hl 1 rfl) ?_
    refine lv_aload_n hx hb dX12_allHalves_13 rfl (lv_at hl 0 rfl) ?_
    refine va_get (D := D) (ci := 11) (v := .ref q1) (C := RX12) (T := TX12) (N := 23) hx hb ht in_X12 hown hK.1 hP 0 rfl rfl 1 (by decide) (ht _ mF_X12_7) (fun _ h9 => h9) rfl dX12_allHalves_14 ?_
    refine lv_iload_n hx hb dX12_allHalves_17 rfl (lv_at hl 2 rfl) ?_
    obtain ⟨hin, hw⟩ := hw
    refine va_iald (D := D) hx hb hK.1 hP 1 0 rfl rfl hin dX12_allHalves_18 ?_
    refine lv_iadd hx hb dX12_allHalves_19 ?_
    refine lv_istore_n (lv' := [(1, .int (x1_1 + (zhalves (x2_2).toNatClampNeg))), (0, .ref q0), (2, .int x2_2)]) hx hb dX12_allHalves_20 rfl hl (by decide) rfl (fun ls hl => ?_)
    refine lv_iinc (v := (x2_2 + (1 : Int32))) (lv' := [(2, .int (x2_2 + (1 : Int32))), (1, .int (x1_1 + (zhalves (x2_2).toNatClampNeg))), (0, .ref q0)]) hx hb dX12_allHalves_21 hl (k := 2) rfl rfl (by decide) rfl (fun ls hl => ?_)
    refine lv_goto (tgt := 4) hx hb dX12_allHalves_24 (by decide) ?_
    exact hG4 _ _ H locs ls hw hP hS (lv_sub hl [2, 1, 0] rfl)

def wp_X12_in  (a0 : Int32) (a1 : Int32) (a2 : Int32) (post : Int32 → Prop) : Prop :=
  ((a0 < a1 → post (0 : Int32) ) ∧ (¬ a0 < a1 → ((a2 < a0 → post (0 : Int32) ) ∧ (¬ a2 < a0 → post (1 : Int32) ))))
set_option maxHeartbeats 4000000 in
set_option maxRecDepth 100000 in
theorem c_X12_in (l : Launch) (D : va_G) (ci cz : ClassId) (tr : List (ClassId × FieldType)) (sz : Nat)  (a0 : Int32) (a1 : Int32) (a2 : Int32) (post : Int32 → Prop) (hw : wp_X12_in a0 a1 a2 post) : gM l yX12_in cX12_in 3 (some .boolean) 0 0 D ci cz tr [] sz [.int a0, .int a1, .int a2] (gQi D [] sz (fun (r : Int32) w => w = [] ∧ post r )) := by
  refine gmet_z RX12 (by decide +kernel) rfl (Nat.le_of_ble_eq_true rfl) ?_
  intro p e s m args below meth c A R Q C hfr hlc hP hD hret ls hl
  obtain ⟨hx, hb, hml, hown, ht, hK, hZ, hA⟩ := C
  have hl : lv_has ls 3 [(0, .int a0), (1, .int a1), (2, .int a2)] := hl
  unfold wp_X12_in at hw
  refine g_in (fun H locs => W p l e R s m args below meth c H locs 0 0 Q (F0 m 0 ls [])) (fun H locs hS0 hP => ?_) hP (va_S.rf (A := A) (H0 := s.heap))
  have hS : va_S A s.heap H locs := hS0
  clear hS0
  refine lv_iload_n hx hb dX12_in_0 rfl (lv_at hl 0 rfl) ?_
  refine lv_iload_n hx hb dX12_in_1 rfl (lv_at hl 1 rfl) ?_
  refine lv_icmp_lt (tgt := 14) hx hb dX12_in_2 (by decide) (fun hc => ?_) (fun hc => ?_)
  · have hw := hw.1 hc
    refine lv_iconst (v := (0 : Int32)) hx hb dX12_in_14 (by decide) ?_
    exact hret _ _ H locs _ _ (by decide) ⟨rfl, hw⟩ hP hS dX12_in_15
  · have hw := hw.2 hc
    refine lv_iload_n hx hb dX12_in_5 rfl (lv_at hl 0 rfl) ?_
    refine lv_iload_n hx hb dX12_in_6 rfl (lv_at hl 2 rfl) ?_
    refine lv_icmp_gt (tgt := 14) hx hb dX12_in_7 (by decide) (fun hc => ?_) (fun hc => ?_)
    · have hw := hw.1 hc
      refine lv_iconst (v := (0 : Int32)) hx hb dX12_in_14 (by decide) ?_
      exact hret _ _ H locs _ _ (by decide) ⟨rfl, hw⟩ hP hS dX12_in_15
    · have hw := hw.2 hc
      refine lv_iconst (v := (1 : Int32)) hx hb dX12_in_10 (by decide) ?_
      refine lv_goto (tgt := 15) hx hb dX12_in_11 (by decide) ?_
      exact hret _ _ H locs _ _ (by decide) ⟨rfl, hw⟩ hP hS dX12_in_15

def wp_X12_areLivers  (a0 : Int32) (a1 : Int32) (post : Int32 → Prop) : Prop :=
  wp_X12_in a0 (0 : Int32) (20 : Int32) (fun (r_1 : Int32) => ((r_1 = 0 → post (0 : Int32) ) ∧ (¬ r_1 = 0 → wp_X12_in a1 (0 : Int32) (20 : Int32) (fun (r_2 : Int32) => ((r_2 = 0 → post (0 : Int32) ) ∧ (¬ r_2 = 0 → post (1 : Int32) ))))))
set_option maxHeartbeats 4000000 in
set_option maxRecDepth 100000 in
theorem c_X12_areLivers (l : Launch) (D : va_G) (ci cz : ClassId) (tr : List (ClassId × FieldType)) (sz : Nat)  (a0 : Int32) (a1 : Int32) (post : Int32 → Prop) (hw : wp_X12_areLivers a0 a1 post) : gM l yX12_areLivers cX12_areLivers 2 (some .boolean) 1 22 D ci cz tr [] sz [.int a0, .int a1] (gQi D [] sz (fun (r : Int32) w => w = [] ∧ post r )) := by
  refine gmet_z RX12 (by decide +kernel) rfl (Nat.le_of_ble_eq_true rfl) ?_
  intro p e s m args below meth c A R Q C hfr hlc hP hD hret ls hl
  obtain ⟨hx, hb, hml, hown, ht, hK, hZ, hA⟩ := C
  have hl : lv_has ls 2 [(0, .int a0), (1, .int a1)] := hl
  unfold wp_X12_areLivers at hw
  refine g_in (fun H locs => W p l e R s m args below meth c H locs 0 0 Q (F0 m 0 ls [])) (fun H locs hS0 hP => ?_) hP (va_S.rf (A := A) (H0 := s.heap))
  have hS : va_S A s.heap H locs := hS0
  clear hS0
  refine lv_iload_n hx hb dX12_areLivers_0 rfl (lv_at hl 0 rfl) ?_
  refine lv_iconst (v := (0 : Int32)) hx hb dX12_areLivers_1 (by decide) ?_
  refine lv_bipush (v := (20 : Int32)) hx hb dX12_areLivers_2 (by decide) ?_
  refine gcalli (va_runS (As := [.int a0, .int (0 : Int32), .int (20 : Int32)]) (rest := []) ⟨hx, hb, hml, hown, ht⟩ (c_X12_in l D ci cz tr  H.size a0 (0 : Int32) (20 : Int32) _ hw) (va_cwS 3 ht (gi_S mM_X12_66 mT_X12_in mN_X12 mC_X12_in) rfl rfl rfl (by decide +kernel) ⟨Nat.le_trans (Nat.le_of_ble_eq_true rfl) hfr, Nat.le_trans (Nat.le_of_ble_eq_true rfl) hlc⟩) (gpre (wc := []) hK hZ hP hD hS hA [] rfl rfl) rfl rfl hl.1 rfl (lv_room (Nat.le_of_ble_eq_true rfl)) dX12_areLivers_4 ⟨Nat.zero_le _, Nat.zero_le _⟩) hD hS hA [] rfl (fun r_1 w9 H locs hw hP9 hk9 hS => ?_)
  obtain ⟨rfl, hw⟩ := hw
  have hP : va_P D vwCl [] H := gjoin3 hP hD [] hP9 hk9 rfl rfl [] rfl rfl
  clear hP9 hk9
  refine lv_if_eq (tgt := 24) hx hb dX12_areLivers_7 (by decide) (fun hc => ?_) (fun hc => ?_)
  · have hw := hw.1 hc
    refine lv_iconst (v := (0 : Int32)) hx hb dX12_areLivers_24 (by decide) ?_
    exact hret _ _ H locs _ _ (by decide) ⟨rfl, hw⟩ hP hS dX12_areLivers_25
  · have hw := hw.2 hc
    refine lv_iload_n hx hb dX12_areLivers_10 rfl (lv_at hl 1 rfl) ?_
    refine lv_iconst (v := (0 : Int32)) hx hb dX12_areLivers_11 (by decide) ?_
    refine lv_bipush (v := (20 : Int32)) hx hb dX12_areLivers_12 (by decide) ?_
    refine gcalli (va_runS (As := [.int a1, .int (0 : Int32), .int (20 : Int32)]) (rest := []) ⟨hx, hb, hml, hown, ht⟩ (c_X12_in l D ci cz tr  H.size a1 (0 : Int32) (20 : Int32) _ hw) (va_cwS 3 ht (gi_S mM_X12_66 mT_X12_in mN_X12 mC_X12_in) rfl rfl rfl (by decide +kernel) ⟨Nat.le_trans (Nat.le_of_ble_eq_true rfl) hfr, Nat.le_trans (Nat.le_of_ble_eq_true rfl) hlc⟩) (gpre (wc := []) hK hZ hP hD hS hA [] rfl rfl) rfl rfl hl.1 rfl (lv_room (Nat.le_of_ble_eq_true rfl)) dX12_areLivers_14 ⟨Nat.zero_le _, Nat.zero_le _⟩) hD hS hA [] rfl (fun r_2 w9 H locs hw hP9 hk9 hS => ?_)
    obtain ⟨rfl, hw⟩ := hw
    have hP : va_P D vwCl [] H := gjoin3 hP hD [] hP9 hk9 rfl rfl [] rfl rfl
    clear hP9 hk9
    refine lv_if_eq (tgt := 24) hx hb dX12_areLivers_17 (by decide) (fun hc => ?_) (fun hc => ?_)
    · have hw := hw.1 hc
      refine lv_iconst (v := (0 : Int32)) hx hb dX12_areLivers_24 (by decide) ?_
      exact hret _ _ H locs _ _ (by decide) ⟨rfl, hw⟩ hP hS dX12_areLivers_25
    · have hw := hw.2 hc
      refine lv_iconst (v := (1 : Int32)) hx hb dX12_areLivers_20 (by decide) ?_
      refine lv_goto (tgt := 25) hx hb dX12_areLivers_21 (by decide) ?_
      exact hret _ _ H locs _ _ (by decide) ⟨rfl, hw⟩ hP hS dX12_areLivers_25

def wp_X12_ask (zasked : Int32) (zquestion : Nat → Int32) (a1 : Int32) (a2 : Int32) (a3 : Int32) (post : Int32 → Int32 → (Nat → Int32) → Prop) : Prop :=
  wp_X12_areLivers a1 a2 (fun (r_1 : Int32) => ((r_1 = 0 → post (-2 : Int32) zasked zquestion) ∧ (¬ r_1 = 0 → wp_X12_in a3 (0 : Int32) (99 : Int32) (fun (r_2 : Int32) => ((¬ r_2 = 0 → ((¬ zasked = (5 : Int32) → (vp_in ((3 : Int32) * zasked) 15 ∧ (vp_in (((3 : Int32) * zasked) + (1 : Int32)) 15 ∧ (vp_in (((3 : Int32) * zasked) + (2 : Int32)) 15 ∧ post (zasked + (1 : Int32)) (zasked + (1 : Int32)) (upd (upd (upd zquestion (((3 : Int32) * zasked)).toNatClampNeg a1) ((((3 : Int32) * zasked) + (1 : Int32))).toNatClampNeg a2) ((((3 : Int32) * zasked) + (2 : Int32))).toNatClampNeg a3))))) ∧ (zasked = (5 : Int32) → post (-4 : Int32) zasked zquestion))) ∧ (r_2 = 0 → post (-2 : Int32) zasked zquestion))))))
set_option maxHeartbeats 4000000 in
set_option maxRecDepth 100000 in
theorem c_X12_ask (l : Launch) (D : va_G) (ci cz : ClassId) (tr : List (ClassId × FieldType)) (q0 q1 : Nat) (sz : Nat) (u0 u1 u2 u3 u4 u5 u6 u7 u8 u9 u10 u11 u12 u13 u14 u15 u16 u17 u18 u19 u20 : Value) (zasked : Int32) (zquestion : Nat → Int32) (a1 : Int32) (a2 : Int32) (a3 : Int32) (post : Int32 → Int32 → (Nat → Int32) → Prop) (hw : wp_X12_ask zasked zquestion a1 a2 a3 post) : gM l yX12_ask cX12_ask 4 (some .int) 2 43 D ci cz tr [(q0, .inr (11, [u0, u1, u2, u3, u4, u5, u6, u7, u8, .int zasked, .ref q1, u9, u10, u11, u12, u13, u14, u15, u16, u17, u18, u19, u20])), (q1, .inl (ci, 15, .inl zquestion))] sz [.ref q0, .int a1, .int a2, .int a3] (gQi D [(q0, .inr (11, [u0, u1, u2, u3, u4, u5, u6, u7, u8, .int zasked, .ref q1, u9, u10, u11, u12, u13, u14, u15, u16, u17, u18, u19, u20])), (q1, .inl (ci, 15, .inl zquestion))] sz (fun (r : Int32) w => ∃ (o_zasked : Int32) (o_zquestion : Nat → Int32), w = [(q0, .inr (11, [u0, u1, u2, u3, u4, u5, u6, u7, u8, .int o_zasked, .ref q1, u9, u10, u11, u12, u13, u14, u15, u16, u17, u18, u19, u20])), (q1, .inl (ci, 15, .inl o_zquestion))] ∧ post r o_zasked o_zquestion)) := by
  refine gmet_i RX12 (by decide +kernel) rfl (Nat.le_of_ble_eq_true rfl) ?_
  intro p e s m args below meth c A R Q C hfr hlc hP hD hret ls hl
  obtain ⟨hx, hb, hml, hown, ht, hK, hZ, hA⟩ := C
  have hl : lv_has ls 4 [(0, .ref q0), (1, .int a1), (2, .int a2), (3, .int a3)] := hl
  unfold wp_X12_ask at hw
  refine g_in (fun H locs => W p l e R s m args below meth c H locs 0 0 Q (F0 m 0 ls [])) (fun H locs hS0 hP => ?_) hP (va_S.rf (A := A) (H0 := s.heap))
  have hS : va_S A s.heap H locs := hS0
  clear hS0
  refine lv_iload_n hx hb dX12_ask_0 rfl (lv_at hl 1 rfl) ?_
  refine lv_iload_n hx hb dX12_ask_1 rfl (lv_at hl 2 rfl) ?_
  refine gcalli (va_runS (As := [.int a1, .int a2]) (rest := []) ⟨hx, hb, hml, hown, ht⟩ (c_X12_areLivers l D ci cz tr  H.size a1 a2 _ hw) (va_cwS 2 ht (gi_S mM_X12_107 mT_X12_areLivers mN_X12 mC_X12_areLivers) rfl rfl rfl (by decide +kernel) ⟨Nat.le_trans (Nat.le_of_ble_eq_true rfl) hfr, Nat.le_trans (Nat.le_of_ble_eq_true rfl) hlc⟩) (gpre (wc := []) hK hZ hP hD hS hA [] rfl rfl) rfl rfl hl.1 rfl (lv_room (Nat.le_of_ble_eq_true rfl)) dX12_ask_2 ⟨Nat.zero_le _, Nat.zero_le _⟩) hD hS hA [] rfl (fun r_1 w9 H locs hw hP9 hk9 hS => ?_)
  obtain ⟨rfl, hw⟩ := hw
  have hP : va_P D vwCl [(q0, .inr (11, [u0, u1, u2, u3, u4, u5, u6, u7, u8, .int zasked, .ref q1, u9, u10, u11, u12, u13, u14, u15, u16, u17, u18, u19, u20])), (q1, .inl (ci, 15, .inl zquestion))] H := gjoin3 hP hD [] hP9 hk9 rfl rfl [none, none] rfl rfl
  clear hP9 hk9
  refine lv_if_eq (tgt := 18) hx hb dX12_ask_5 (by decide) (fun hc => ?_) (fun hc => ?_)
  · have hw := hw.1 hc
    refine lv_bipush (v := (-2 : Int32)) hx hb dX12_ask_18 (by decide) ?_
    exact hret _ _ H locs _ _ ⟨_, _, rfl, hw⟩ hP hS dX12_ask_20
  · have hw := hw.2 hc
    refine lv_iload_n hx hb dX12_ask_8 rfl (lv_at hl 3 rfl) ?_
    refine lv_iconst (v := (0 : Int32)) hx hb dX12_ask_9 (by decide) ?_
    refine lv_bipush (v := (99 : Int32)) hx hb dX12_ask_10 (by decide) ?_
    refine gcalli (va_runS (As := [.int a3, .int (0 : Int32), .int (99 : Int32)]) (rest := []) ⟨hx, hb, hml, hown, ht⟩ (c_X12_in l D ci cz tr  H.size a3 (0 : Int32) (99 : Int32) _ hw) (va_cwS 3 ht (gi_S mM_X12_66 mT_X12_in mN_X12 mC_X12_in) rfl rfl rfl (by decide +kernel) ⟨Nat.le_trans (Nat.le_of_ble_eq_true rfl) hfr, Nat.le_trans (Nat.le_of_ble_eq_true rfl) hlc⟩) (gpre (wc := []) hK hZ hP hD hS hA [] rfl rfl) rfl rfl hl.1 rfl (lv_room (Nat.le_of_ble_eq_true rfl)) dX12_ask_12 ⟨Nat.zero_le _, Nat.zero_le _⟩) hD hS hA [] rfl (fun r_2 w9 H locs hw hP9 hk9 hS => ?_)
    obtain ⟨rfl, hw⟩ := hw
    have hP : va_P D vwCl [(q0, .inr (11, [u0, u1, u2, u3, u4, u5, u6, u7, u8, .int zasked, .ref q1, u9, u10, u11, u12, u13, u14, u15, u16, u17, u18, u19, u20])), (q1, .inl (ci, 15, .inl zquestion))] H := gjoin3 hP hD [] hP9 hk9 rfl rfl [none, none] rfl rfl
    clear hP9 hk9
    refine lv_if_ne (tgt := 21) hx hb dX12_ask_15 (by decide) (fun hc => ?_) (fun hc => ?_)
    · have hw := hw.1 hc
      refine lv_aload_n hx hb dX12_ask_21 rfl (lv_at hl 0 rfl) ?_
      refine va_get (D := D) (ci := 11) (v := .int zasked) (C := RX12) (T := TX12) (N := 23) hx hb ht in_X12 hown hK.1 hP 0 rfl rfl 9 (by decide) (ht _ mF_X12_165) (fun _ h9 => h9) rfl dX12_ask_22 ?_
      refine lv_iconst (v := (5 : Int32)) hx hb dX12_ask_25 (by decide) ?_
      refine lv_icmp_ne (tgt := 32) hx hb dX12_ask_26 (by decide) (fun hc => ?_) (fun hc => ?_)
      · have hw := hw.1 hc
        refine lv_aload_n hx hb dX12_ask_32 rfl (lv_at hl 0 rfl) ?_
        refine va_get (D := D) (ci := 11) (v := .ref q1) (C := RX12) (T := TX12) (N := 23) hx hb ht in_X12 hown hK.1 hP 0 rfl rfl 10 (by decide) (ht _ mF_X12_33) (fun _ h9 => h9) rfl dX12_ask_33 ?_
        refine lv_iconst (v := (3 : Int32)) hx hb dX12_ask_36 (by decide) ?_
        refine lv_aload_n hx hb dX12_ask_37 rfl (lv_at hl 0 rfl) ?_
        refine va_get (D := D) (ci := 11) (v := .int zasked) (C := RX12) (T := TX12) (N := 23) hx hb ht in_X12 hown hK.1 hP 0 rfl rfl 9 (by decide) (ht _ mF_X12_165) (fun _ h9 => h9) rfl dX12_ask_38 ?_
        refine lv_imul hx hb dX12_ask_41 ?_
        refine lv_iload_n hx hb dX12_ask_42 rfl (lv_at hl 1 rfl) ?_
        obtain ⟨hin, hw⟩ := hw
        refine va_iast (D := D) hx hb hK.1 hP hD hS 1 0 rfl rfl hin dX12_ask_43 (fun H locs hP hD hS => ?_)
        have hP : va_P D vwCl [(q0, .inr (11, [u0, u1, u2, u3, u4, u5, u6, u7, u8, .int zasked, .ref q1, u9, u10, u11, u12, u13, u14, u15, u16, u17, u18, u19, u20])), (q1, .inl (ci, 15, .inl (upd zquestion (((3 : Int32) * zasked)).toNatClampNeg a1)))] H := hP
        have hD : va_D A [(q0, .inr (11, [u0, u1, u2, u3, u4, u5, u6, u7, u8, .int zasked, .ref q1, u9, u10, u11, u12, u13, u14, u15, u16, u17, u18, u19, u20])), (q1, .inl (ci, 15, .inl (upd zquestion (((3 : Int32) * zasked)).toNatClampNeg a1)))] := hD
        refine lv_aload_n hx hb dX12_ask_44 rfl (lv_at hl 0 rfl) ?_
        refine va_get (D := D) (ci := 11) (v := .ref q1) (C := RX12) (T := TX12) (N := 23) hx hb ht in_X12 hown hK.1 hP 0 rfl rfl 10 (by decide) (ht _ mF_X12_33) (fun _ h9 => h9) rfl dX12_ask_45 ?_
        refine lv_iconst (v := (3 : Int32)) hx hb dX12_ask_48 (by decide) ?_
        refine lv_aload_n hx hb dX12_ask_49 rfl (lv_at hl 0 rfl) ?_
        refine va_get (D := D) (ci := 11) (v := .int zasked) (C := RX12) (T := TX12) (N := 23) hx hb ht in_X12 hown hK.1 hP 0 rfl rfl 9 (by decide) (ht _ mF_X12_165) (fun _ h9 => h9) rfl dX12_ask_50 ?_
        refine lv_imul hx hb dX12_ask_53 ?_
        refine lv_iconst (v := (1 : Int32)) hx hb dX12_ask_54 (by decide) ?_
        refine lv_iadd hx hb dX12_ask_55 ?_
        refine lv_iload_n hx hb dX12_ask_56 rfl (lv_at hl 2 rfl) ?_
        obtain ⟨hin, hw⟩ := hw
        refine va_iast (D := D) hx hb hK.1 hP hD hS 1 0 rfl rfl hin dX12_ask_57 (fun H locs hP hD hS => ?_)
        have hP : va_P D vwCl [(q0, .inr (11, [u0, u1, u2, u3, u4, u5, u6, u7, u8, .int zasked, .ref q1, u9, u10, u11, u12, u13, u14, u15, u16, u17, u18, u19, u20])), (q1, .inl (ci, 15, .inl (upd (upd zquestion (((3 : Int32) * zasked)).toNatClampNeg a1) ((((3 : Int32) * zasked) + (1 : Int32))).toNatClampNeg a2)))] H := hP
        have hD : va_D A [(q0, .inr (11, [u0, u1, u2, u3, u4, u5, u6, u7, u8, .int zasked, .ref q1, u9, u10, u11, u12, u13, u14, u15, u16, u17, u18, u19, u20])), (q1, .inl (ci, 15, .inl (upd (upd zquestion (((3 : Int32) * zasked)).toNatClampNeg a1) ((((3 : Int32) * zasked) + (1 : Int32))).toNatClampNeg a2)))] := hD
        refine lv_aload_n hx hb dX12_ask_58 rfl (lv_at hl 0 rfl) ?_
        refine va_get (D := D) (ci := 11) (v := .ref q1) (C := RX12) (T := TX12) (N := 23) hx hb ht in_X12 hown hK.1 hP 0 rfl rfl 10 (by decide) (ht _ mF_X12_33) (fun _ h9 => h9) rfl dX12_ask_59 ?_
        refine lv_iconst (v := (3 : Int32)) hx hb dX12_ask_62 (by decide) ?_
        refine lv_aload_n hx hb dX12_ask_63 rfl (lv_at hl 0 rfl) ?_
        refine va_get (D := D) (ci := 11) (v := .int zasked) (C := RX12) (T := TX12) (N := 23) hx hb ht in_X12 hown hK.1 hP 0 rfl rfl 9 (by decide) (ht _ mF_X12_165) (fun _ h9 => h9) rfl dX12_ask_64 ?_
        refine lv_imul hx hb dX12_ask_67 ?_
        refine lv_iconst (v := (2 : Int32)) hx hb dX12_ask_68 (by decide) ?_
        refine lv_iadd hx hb dX12_ask_69 ?_
        refine lv_iload_n hx hb dX12_ask_70 rfl (lv_at hl 3 rfl) ?_
        obtain ⟨hin, hw⟩ := hw
        refine va_iast (D := D) hx hb hK.1 hP hD hS 1 0 rfl rfl hin dX12_ask_71 (fun H locs hP hD hS => ?_)
        have hP : va_P D vwCl [(q0, .inr (11, [u0, u1, u2, u3, u4, u5, u6, u7, u8, .int zasked, .ref q1, u9, u10, u11, u12, u13, u14, u15, u16, u17, u18, u19, u20])), (q1, .inl (ci, 15, .inl (upd (upd (upd zquestion (((3 : Int32) * zasked)).toNatClampNeg a1) ((((3 : Int32) * zasked) + (1 : Int32))).toNatClampNeg a2) ((((3 : Int32) * zasked) + (2 : Int32))).toNatClampNeg a3)))] H := hP
        have hD : va_D A [(q0, .inr (11, [u0, u1, u2, u3, u4, u5, u6, u7, u8, .int zasked, .ref q1, u9, u10, u11, u12, u13, u14, u15, u16, u17, u18, u19, u20])), (q1, .inl (ci, 15, .inl (upd (upd (upd zquestion (((3 : Int32) * zasked)).toNatClampNeg a1) ((((3 : Int32) * zasked) + (1 : Int32))).toNatClampNeg a2) ((((3 : Int32) * zasked) + (2 : Int32))).toNatClampNeg a3)))] := hD
        refine lv_aload_n hx hb dX12_ask_72 rfl (lv_at hl 0 rfl) ?_
        refine lv_dup hx hb dX12_ask_73 rfl ?_
        refine va_get (D := D) (ci := 11) (v := .int zasked) (C := RX12) (T := TX12) (N := 23) hx hb ht in_X12 hown hK.1 hP 0 rfl rfl 9 (by decide) (ht _ mF_X12_165) (fun _ h9 => h9) rfl dX12_ask_74 ?_
        refine lv_iconst (v := (1 : Int32)) hx hb dX12_ask_77 (by decide) ?_
        refine lv_iadd hx hb dX12_ask_78 ?_
        refine va_put (D := D) (ci := 11) (v := .int (zasked + (1 : Int32))) (ty := .int) (C := RX12) (T := TX12) (N := 23) hx hb ht in_X12 tyX12 tyX12_ok nmX12 hown hK.1 hP hD hS 0 rfl rfl 9 (by decide) (ht _ mF_X12_165) (fun _ h9 => h9) rfl (by decide +kernel) rfl rfl (Nat.le_of_ble_eq_true rfl) dX12_ask_79 (fun H locs hP hD hS => ?_)
        have hP : va_P D vwCl [(q0, .inr (11, [u0, u1, u2, u3, u4, u5, u6, u7, u8, .int (zasked + (1 : Int32)), .ref q1, u9, u10, u11, u12, u13, u14, u15, u16, u17, u18, u19, u20])), (q1, .inl (ci, 15, .inl (upd (upd (upd zquestion (((3 : Int32) * zasked)).toNatClampNeg a1) ((((3 : Int32) * zasked) + (1 : Int32))).toNatClampNeg a2) ((((3 : Int32) * zasked) + (2 : Int32))).toNatClampNeg a3)))] H := hP
        have hD : va_D A [(q0, .inr (11, [u0, u1, u2, u3, u4, u5, u6, u7, u8, .int (zasked + (1 : Int32)), .ref q1, u9, u10, u11, u12, u13, u14, u15, u16, u17, u18, u19, u20])), (q1, .inl (ci, 15, .inl (upd (upd (upd zquestion (((3 : Int32) * zasked)).toNatClampNeg a1) ((((3 : Int32) * zasked) + (1 : Int32))).toNatClampNeg a2) ((((3 : Int32) * zasked) + (2 : Int32))).toNatClampNeg a3)))] := hD
        refine lv_aload_n hx hb dX12_ask_82 rfl (lv_at hl 0 rfl) ?_
        refine va_get (D := D) (ci := 11) (v := .int (zasked + (1 : Int32))) (C := RX12) (T := TX12) (N := 23) hx hb ht in_X12 hown hK.1 hP 0 rfl rfl 9 (by decide) (ht _ mF_X12_165) (fun _ h9 => h9) rfl dX12_ask_83 ?_
        exact hret _ _ H locs _ _ ⟨_, _, rfl, hw⟩ hP hS dX12_ask_86
      · have hw := hw.2 hc
        refine lv_bipush (v := (-4 : Int32)) hx hb dX12_ask_29 (by decide) ?_
        exact hret _ _ H locs _ _ ⟨_, _, rfl, hw⟩ hP hS dX12_ask_31
    · have hw := hw.2 hc
      refine lv_bipush (v := (-2 : Int32)) hx hb dX12_ask_18 (by decide) ?_
      exact hret _ _ H locs _ _ ⟨_, _, rfl, hw⟩ hP hS dX12_ask_20

def wp_X12_byLetters (zorder : Nat → Int32)  (post : (Nat → Int32) → Prop) : Prop :=
  lo (fun _ _ => False) (fun (G2 : Int32 → (Nat → Int32) → Prop) (x1_1 : Int32) (zorder_2 : Nat → Int32) => (((7 : Int32) ≤ x1_1 → post zorder_2) ∧ (¬ (7 : Int32) ≤ x1_1 → (vp_in x1_1 7 ∧ G2 (x1_1 + (1 : Int32)) (upd zorder_2 (x1_1).toNatClampNeg x1_1))))) (fun G2 => G2 (0 : Int32) zorder)
set_option maxHeartbeats 4000000 in
set_option maxRecDepth 100000 in
theorem c_X12_byLetters (l : Launch) (D : va_G) (ci cz : ClassId) (tr : List (ClassId × FieldType)) (q0 q1 : Nat) (sz : Nat) (u0 u1 u2 u3 u4 u5 u6 u7 u8 u9 u10 u11 u12 u13 u14 u15 u16 u17 u18 u19 u20 u21 : Value) (zorder : Nat → Int32)  (post : (Nat → Int32) → Prop) (hw : wp_X12_byLetters zorder post) : gM l yX12_byLetters cX12_byLetters 2 none 0 0 D ci cz tr [(q0, .inr (11, [u0, u1, u2, u3, u4, u5, u6, u7, u8, u9, u10, u11, u12, .ref q1, u13, u14, u15, u16, u17, u18, u19, u20, u21])), (q1, .inl (ci, 7, .inl zorder))] sz [.ref q0] (gQv D [(q0, .inr (11, [u0, u1, u2, u3, u4, u5, u6, u7, u8, u9, u10, u11, u12, .ref q1, u13, u14, u15, u16, u17, u18, u19, u20, u21])), (q1, .inl (ci, 7, .inl zorder))] sz (fun w => ∃ (o_zorder : Nat → Int32), w = [(q0, .inr (11, [u0, u1, u2, u3, u4, u5, u6, u7, u8, u9, u10, u11, u12, .ref q1, u13, u14, u15, u16, u17, u18, u19, u20, u21])), (q1, .inl (ci, 7, .inl o_zorder))] ∧ post o_zorder)) := by
  refine gmet_v RX12 (by decide +kernel) rfl (Nat.le_of_ble_eq_true rfl) ?_
  intro p e s m args below meth c A R Q C hfr hlc hP hD hret ls hl
  obtain ⟨hx, hb, hml, hown, ht, hK, hZ, hA⟩ := C
  have hl : lv_has ls 2 [(0, .ref q0)] := hl
  unfold wp_X12_byLetters at hw
  refine g_in (fun H locs => W p l e R s m args below meth c H locs 0 0 Q (F0 m 0 ls [])) (fun H locs hS0 hP => ?_) hP (va_S.rf (A := A) (H0 := s.heap))
  have hS : va_S A s.heap H locs := hS0
  clear hS0
  refine lv_iconst (v := (0 : Int32)) hx hb dX12_byLetters_0 (by decide) ?_
  refine lv_istore_n (lv' := [(1, .int (0 : Int32)), (0, .ref q0)]) hx hb dX12_byLetters_1 rfl hl (by decide) rfl (fun ls hl => ?_)
  refine lo_walk hw (fun G2 => ∀ (x1_1 : Int32) (zorder_2 : Nat → Int32) (H : Heap) (locs : List Loc) (ls : Array Slot), G2 x1_1 zorder_2 → va_P D vwCl [(q0, .inr (11, [u0, u1, u2, u3, u4, u5, u6, u7, u8, u9, u10, u11, u12, .ref q1, u13, u14, u15, u16, u17, u18, u19, u20, u21])), (q1, .inl (ci, 7, .inl zorder_2))] H → va_S A s.heap H locs → lv_has ls 2 [(0, .ref q0), (1, .int x1_1)] → W p l e R s m args below meth c H locs 0 0 Q (F0 m 2 ls [])) (fun _ _ _ _ _ hw _ _ _ => False.elim hw) (fun G2 hG2 x1_1 zorder_2 H locs ls hw hP hS hl => ?_) (fun G2 hG2 hw => hG2 _ _ H locs ls hw hP hS (lv_sub hl [1, 0] rfl))
  have hD : va_D A [(q0, .inr (11, [u0, u1, u2, u3, u4, u5, u6, u7, u8, u9, u10, u11, u12, .ref q1, u13, u14, u15, u16, u17, u18, u19, u20, u21])), (q1, .inl (ci, 7, .inl zorder_2))] := gD_re hD rfl
  refine lv_iload_n hx hb dX12_byLetters_2 rfl (lv_at hl 1 rfl) ?_
  refine lv_bipush (v := (7 : Int32)) hx hb dX12_byLetters_3 (by decide) ?_
  refine lv_icmp_ge (tgt := 21) hx hb dX12_byLetters_5 (by decide) (fun hc => ?_) (fun hc => ?_)
  · have hw := hw.1 hc
    exact hret _ H locs _ _ ⟨_, rfl, hw⟩ hP hS dX12_byLetters_21
  · have hw := hw.2 hc
    refine lv_aload_n hx hb dX12_byLetters_8 rfl (lv_at hl 0 rfl) ?_
    refine va_get (D := D) (ci := 11) (v := .ref q1) (C := RX12) (T := TX12) (N := 23) hx hb ht in_X12 hown hK.1 hP 0 rfl rfl 13 (by decide) (ht _ mF_X12_39) (fun _ h9 => h9) rfl dX12_byLetters_9 ?_
    refine lv_iload_n hx hb dX12_byLetters_12 rfl (lv_at hl 1 rfl) ?_
    refine lv_iload_n hx hb dX12_byLetters_13 rfl (lv_at hl 1 rfl) ?_
    obtain ⟨hin, hw⟩ := hw
    refine va_iast (D := D) hx hb hK.1 hP hD hS 1 0 rfl rfl hin dX12_byLetters_14 (fun H locs hP hD hS => ?_)
    have hP : va_P D vwCl [(q0, .inr (11, [u0, u1, u2, u3, u4, u5, u6, u7, u8, u9, u10, u11, u12, .ref q1, u13, u14, u15, u16, u17, u18, u19, u20, u21])), (q1, .inl (ci, 7, .inl (upd zorder_2 (x1_1).toNatClampNeg x1_1)))] H := hP
    have hD : va_D A [(q0, .inr (11, [u0, u1, u2, u3, u4, u5, u6, u7, u8, u9, u10, u11, u12, .ref q1, u13, u14, u15, u16, u17, u18, u19, u20, u21])), (q1, .inl (ci, 7, .inl (upd zorder_2 (x1_1).toNatClampNeg x1_1)))] := hD
    refine lv_iinc (v := (x1_1 + (1 : Int32))) (lv' := [(1, .int (x1_1 + (1 : Int32))), (0, .ref q0)]) hx hb dX12_byLetters_15 hl (k := 1) rfl rfl (by decide) rfl (fun ls hl => ?_)
    refine lv_goto (tgt := 2) hx hb dX12_byLetters_18 (by decide) ?_
    exact hG2 _ _ H locs ls hw hP hS (lv_sub hl [1, 0] rfl)

def wp_X12_layEvening (zasked : Int32) (zevening : Nat → Int32) (a1 : Int32) (post : Int32 → (Nat → Int32) → Prop) : Prop :=
  jn (fun (x3_1 : Int32) (zevening_2 : Nat → Int32) => ((¬ x3_1 = (((1 : Int32) <<< (zasked &&& 31)) - (1 : Int32)) → post (0 : Int32) zevening_2) ∧ (x3_1 = (((1 : Int32) <<< (zasked &&& 31)) - (1 : Int32)) → post (1 : Int32) zevening_2))) (fun (J55 : Int32 → (Nat → Int32) → Prop) => lo (fun _ _ _ _ => False) (fun (G12 : Int32 → Int32 → Int32 → (Nat → Int32) → Prop) (x2_3 : Int32) (x3_4 : Int32) (x4_5 : Int32) (zevening_6 : Nat → Int32) => ((x4_5 < 0 → J55 x3_4 zevening_6) ∧ (¬ x4_5 < 0 → (¬ zasked = 0 ∧ (vp_in x4_5 5 ∧ (¬ zasked = 0 ∧ (vp_in x4_5 5 ∧ G12 (x2_3 / zasked) (x3_4 ||| ((1 : Int32) <<< (((upd zevening_6 (x4_5).toNatClampNeg (x2_3 - x2_3 / zasked * zasked)) (x4_5).toNatClampNeg) &&& 31))) (x4_5 + (-1 : Int32)) (upd zevening_6 (x4_5).toNatClampNeg (x2_3 - x2_3 / zasked * zasked))))))))) (fun G12 => G12 a1 (0 : Int32) (zasked - (1 : Int32)) zevening))
set_option maxHeartbeats 4000000 in
set_option maxRecDepth 100000 in
theorem c_X12_layEvening (l : Launch) (D : va_G) (ci cz : ClassId) (tr : List (ClassId × FieldType)) (q0 q1 : Nat) (sz : Nat) (u0 u1 u2 u3 u4 u5 u6 u7 u8 u9 u10 u11 u12 u13 u14 u15 u16 u17 u18 u19 u20 : Value) (zasked : Int32) (zevening : Nat → Int32) (a1 : Int32) (post : Int32 → (Nat → Int32) → Prop) (hw : wp_X12_layEvening zasked zevening a1 post) : gM l yX12_layEvening cX12_layEvening 5 (some .boolean) 0 0 D ci cz tr [(q0, .inr (11, [u0, u1, u2, u3, u4, u5, u6, u7, u8, .int zasked, u9, u10, u11, u12, u13, u14, u15, u16, u17, u18, .ref q1, u19, u20])), (q1, .inl (ci, 5, .inl zevening))] sz [.ref q0, .int a1] (gQi D [(q0, .inr (11, [u0, u1, u2, u3, u4, u5, u6, u7, u8, .int zasked, u9, u10, u11, u12, u13, u14, u15, u16, u17, u18, .ref q1, u19, u20])), (q1, .inl (ci, 5, .inl zevening))] sz (fun (r : Int32) w => ∃ (o_zevening : Nat → Int32), w = [(q0, .inr (11, [u0, u1, u2, u3, u4, u5, u6, u7, u8, .int zasked, u9, u10, u11, u12, u13, u14, u15, u16, u17, u18, .ref q1, u19, u20])), (q1, .inl (ci, 5, .inl o_zevening))] ∧ post r o_zevening)) := by
  refine gmet_z RX12 (by decide +kernel) rfl (Nat.le_of_ble_eq_true rfl) ?_
  intro p e s m args below meth c A R Q C hfr hlc hP hD hret ls hl
  obtain ⟨hx, hb, hml, hown, ht, hK, hZ, hA⟩ := C
  have hl : lv_has ls 5 [(0, .ref q0), (1, .int a1)] := hl
  unfold wp_X12_layEvening at hw
  refine g_in (fun H locs => W p l e R s m args below meth c H locs 0 0 Q (F0 m 0 ls [])) (fun H locs hS0 hP => ?_) hP (va_S.rf (A := A) (H0 := s.heap))
  have hS : va_S A s.heap H locs := hS0
  clear hS0
  refine lv_iload_n hx hb dX12_layEvening_0 rfl (lv_at hl 1 rfl) ?_
  refine lv_istore_n (lv' := [(2, .int a1), (0, .ref q0), (1, .int a1)]) hx hb dX12_layEvening_1 rfl hl (by decide) rfl (fun ls hl => ?_)
  refine lv_iconst (v := (0 : Int32)) hx hb dX12_layEvening_2 (by decide) ?_
  refine lv_istore_n (lv' := [(3, .int (0 : Int32)), (2, .int a1), (0, .ref q0), (1, .int a1)]) hx hb dX12_layEvening_3 rfl hl (by decide) rfl (fun ls hl => ?_)
  refine lv_aload_n hx hb dX12_layEvening_4 rfl (lv_at hl 2 rfl) ?_
  refine va_get (D := D) (ci := 11) (v := .int zasked) (C := RX12) (T := TX12) (N := 23) hx hb ht in_X12 hown hK.1 hP 0 rfl rfl 9 (by decide) (ht _ mF_X12_165) (fun _ h9 => h9) rfl dX12_layEvening_5 ?_
  refine lv_iconst (v := (1 : Int32)) hx hb dX12_layEvening_8 (by decide) ?_
  refine lv_isub hx hb dX12_layEvening_9 ?_
  refine lv_istore (lv' := [(4, .int (zasked - (1 : Int32))), (3, .int (0 : Int32)), (2, .int a1), (0, .ref q0), (1, .int a1)]) hx hb dX12_layEvening_10 hl (by decide) rfl (fun ls hl => ?_)
  refine jn_walk hw (fun J55 => ∀ (x3_1 : Int32) (zevening_2 : Nat → Int32) (H : Heap) (locs : List Loc) (ls : Array Slot), J55 x3_1 zevening_2 → va_P D vwCl [(q0, .inr (11, [u0, u1, u2, u3, u4, u5, u6, u7, u8, .int zasked, u9, u10, u11, u12, u13, u14, u15, u16, u17, u18, .ref q1, u19, u20])), (q1, .inl (ci, 5, .inl zevening_2))] H → va_S A s.heap H locs → lv_has ls 5 [(0, .ref q0), (3, .int x3_1)] → W p l e R s m args below meth c H locs 0 0 Q (F0 m 55 ls [])) ?_ ?_
  · intro x3_1 zevening_2 H locs ls hw hP hS hl
    have hD : va_D A [(q0, .inr (11, [u0, u1, u2, u3, u4, u5, u6, u7, u8, .int zasked, u9, u10, u11, u12, u13, u14, u15, u16, u17, u18, .ref q1, u19, u20])), (q1, .inl (ci, 5, .inl zevening_2))] := gD_re hD rfl
    refine lv_iload_n hx hb dX12_layEvening_55 rfl (lv_at hl 1 rfl) ?_
    refine lv_iconst (v := (1 : Int32)) hx hb dX12_layEvening_56 (by decide) ?_
    refine lv_aload_n hx hb dX12_layEvening_57 rfl (lv_at hl 0 rfl) ?_
    refine va_get (D := D) (ci := 11) (v := .int zasked) (C := RX12) (T := TX12) (N := 23) hx hb ht in_X12 hown hK.1 hP 0 rfl rfl 9 (by decide) (ht _ mF_X12_165) (fun _ h9 => h9) rfl dX12_layEvening_58 ?_
    refine lv_ishl hx hb dX12_layEvening_61 ?_
    refine lv_iconst (v := (1 : Int32)) hx hb dX12_layEvening_62 (by decide) ?_
    refine lv_isub hx hb dX12_layEvening_63 ?_
    refine lv_icmp_ne (tgt := 71) hx hb dX12_layEvening_64 (by decide) (fun hc => ?_) (fun hc => ?_)
    · have hw := hw.1 hc
      refine lv_iconst (v := (0 : Int32)) hx hb dX12_layEvening_71 (by decide) ?_
      exact hret _ _ H locs _ _ (by decide) ⟨_, rfl, hw⟩ hP hS dX12_layEvening_72
    · have hw := hw.2 hc
      refine lv_iconst (v := (1 : Int32)) hx hb dX12_layEvening_67 (by decide) ?_
      refine lv_goto (tgt := 72) hx hb dX12_layEvening_68 (by decide) ?_
      exact hret _ _ H locs _ _ (by decide) ⟨_, rfl, hw⟩ hP hS dX12_layEvening_72
  · intro J55 hJ55 hw
    refine lo_walk hw (fun G12 => ∀ (x2_3 : Int32) (x3_4 : Int32) (x4_5 : Int32) (zevening_6 : Nat → Int32) (H : Heap) (locs : List Loc) (ls : Array Slot), G12 x2_3 x3_4 x4_5 zevening_6 → va_P D vwCl [(q0, .inr (11, [u0, u1, u2, u3, u4, u5, u6, u7, u8, .int zasked, u9, u10, u11, u12, u13, u14, u15, u16, u17, u18, .ref q1, u19, u20])), (q1, .inl (ci, 5, .inl zevening_6))] H → va_S A s.heap H locs → lv_has ls 5 [(0, .ref q0), (2, .int x2_3), (3, .int x3_4), (4, .int x4_5)] → W p l e R s m args below meth c H locs 0 0 Q (F0 m 12 ls [])) (fun _ _ _ _ _ _ _ hw _ _ _ => False.elim hw) (fun G12 hG12 x2_3 x3_4 x4_5 zevening_6 H locs ls hw hP hS hl => ?_) (fun G12 hG12 hw => hG12 _ _ _ _ H locs ls hw hP hS (lv_sub hl [3, 2, 1, 0] rfl))
    have hD : va_D A [(q0, .inr (11, [u0, u1, u2, u3, u4, u5, u6, u7, u8, .int zasked, u9, u10, u11, u12, u13, u14, u15, u16, u17, u18, .ref q1, u19, u20])), (q1, .inl (ci, 5, .inl zevening_6))] := gD_re hD rfl
    refine lv_iload hx hb dX12_layEvening_12 (lv_at hl 3 rfl) ?_
    refine lv_if_lt (tgt := 55) hx hb dX12_layEvening_14 (by decide) (fun hc => ?_) (fun hc => ?_)
    · have hw := hw.1 hc
      exact hJ55 _ _ H locs ls hw hP hS (lv_sub hl [0, 2] rfl)
    · have hw := hw.2 hc
      refine lv_aload_n hx hb dX12_layEvening_17 rfl (lv_at hl 0 rfl) ?_
      refine va_get (D := D) (ci := 11) (v := .ref q1) (C := RX12) (T := TX12) (N := 23) hx hb ht in_X12 hown hK.1 hP 0 rfl rfl 20 (by decide) (ht _ mF_X12_54) (fun _ h9 => h9) rfl dX12_layEvening_18 ?_
      refine lv_iload hx hb dX12_layEvening_21 (lv_at hl 3 rfl) ?_
      refine lv_iload_n hx hb dX12_layEvening_23 rfl (lv_at hl 1 rfl) ?_
      refine lv_aload_n hx hb dX12_layEvening_24 rfl (lv_at hl 0 rfl) ?_
      refine va_get (D := D) (ci := 11) (v := .int zasked) (C := RX12) (T := TX12) (N := 23) hx hb ht in_X12 hown hK.1 hP 0 rfl rfl 9 (by decide) (ht _ mF_X12_165) (fun _ h9 => h9) rfl dX12_layEvening_25 ?_
      obtain ⟨hne, hw⟩ := hw
      refine lv_irem hx hb dX12_layEvening_28 hne ?_
      obtain ⟨hin, hw⟩ := hw
      refine va_iast (D := D) hx hb hK.1 hP hD hS 1 0 rfl rfl hin dX12_layEvening_29 (fun H locs hP hD hS => ?_)
      have hP : va_P D vwCl [(q0, .inr (11, [u0, u1, u2, u3, u4, u5, u6, u7, u8, .int zasked, u9, u10, u11, u12, u13, u14, u15, u16, u17, u18, .ref q1, u19, u20])), (q1, .inl (ci, 5, .inl (upd zevening_6 (x4_5).toNatClampNeg (x2_3 - x2_3 / zasked * zasked))))] H := hP
      have hD : va_D A [(q0, .inr (11, [u0, u1, u2, u3, u4, u5, u6, u7, u8, .int zasked, u9, u10, u11, u12, u13, u14, u15, u16, u17, u18, .ref q1, u19, u20])), (q1, .inl (ci, 5, .inl (upd zevening_6 (x4_5).toNatClampNeg (x2_3 - x2_3 / zasked * zasked))))] := hD
      refine lv_iload_n hx hb dX12_layEvening_30 rfl (lv_at hl 1 rfl) ?_
      refine lv_aload_n hx hb dX12_layEvening_31 rfl (lv_at hl 0 rfl) ?_
      refine va_get (D := D) (ci := 11) (v := .int zasked) (C := RX12) (T := TX12) (N := 23) hx hb ht in_X12 hown hK.1 hP 0 rfl rfl 9 (by decide) (ht _ mF_X12_165) (fun _ h9 => h9) rfl dX12_layEvening_32 ?_
      obtain ⟨hne, hw⟩ := hw
      refine lv_idiv hx hb dX12_layEvening_35 hne ?_
      refine lv_istore_n (lv' := [(2, .int (x2_3 / zasked)), (0, .ref q0), (3, .int x3_4), (4, .int x4_5)]) hx hb dX12_layEvening_36 rfl hl (by decide) rfl (fun ls hl => ?_)
      refine lv_iload_n hx hb dX12_layEvening_37 rfl (lv_at hl 2 rfl) ?_
      refine lv_iconst (v := (1 : Int32)) hx hb dX12_layEvening_38 (by decide) ?_
      refine lv_aload_n hx hb dX12_layEvening_39 rfl (lv_at hl 1 rfl) ?_
      refine va_get (D := D) (ci := 11) (v := .ref q1) (C := RX12) (T := TX12) (N := 23) hx hb ht in_X12 hown hK.1 hP 0 rfl rfl 20 (by decide) (ht _ mF_X12_54) (fun _ h9 => h9) rfl dX12_layEvening_40 ?_
      refine lv_iload hx hb dX12_layEvening_43 (lv_at hl 3 rfl) ?_
      obtain ⟨hin, hw⟩ := hw
      refine va_iald (D := D) hx hb hK.1 hP 1 0 rfl rfl hin dX12_layEvening_45 ?_
      refine lv_ishl hx hb dX12_layEvening_46 ?_
      refine lv_ior hx hb dX12_layEvening_47 ?_
      refine lv_istore_n (lv' := [(3, .int (x3_4 ||| ((1 : Int32) <<< (((upd zevening_6 (x4_5).toNatClampNeg (x2_3 - x2_3 / zasked * zasked)) (x4_5).toNatClampNeg) &&& 31)))), (2, .int (x2_3 / zasked)), (0, .ref q0), (4, .int x4_5)]) hx hb dX12_layEvening_48 rfl hl (by decide) rfl (fun ls hl => ?_)
      refine lv_iinc (v := (x4_5 + (-1 : Int32))) (lv' := [(4, .int (x4_5 + (-1 : Int32))), (3, .int (x3_4 ||| ((1 : Int32) <<< (((upd zevening_6 (x4_5).toNatClampNeg (x2_3 - x2_3 / zasked * zasked)) (x4_5).toNatClampNeg) &&& 31)))), (2, .int (x2_3 / zasked)), (0, .ref q0)]) hx hb dX12_layEvening_49 hl (k := 3) rfl rfl (by decide) rfl (fun ls hl => ?_)
      refine lv_goto (tgt := 12) hx hb dX12_layEvening_52 (by decide) ?_
      exact hG12 _ _ _ _ H locs ls hw hP hS (lv_sub hl [3, 2, 1, 0] rfl)

def wp_X12_nobodyFull (zfill : Nat → Int32)  (post : (Nat → Int32) → Prop) : Prop :=
  lo (fun _ _ => False) (fun (G2 : Int32 → (Nat → Int32) → Prop) (x1_1 : Int32) (zfill_2 : Nat → Int32) => (((7 : Int32) ≤ x1_1 → post zfill_2) ∧ (¬ (7 : Int32) ≤ x1_1 → (vp_in x1_1 7 ∧ G2 (x1_1 + (1 : Int32)) (upd zfill_2 (x1_1).toNatClampNeg (0 : Int32)))))) (fun G2 => G2 (0 : Int32) zfill)
set_option maxHeartbeats 4000000 in
set_option maxRecDepth 100000 in
theorem c_X12_nobodyFull (l : Launch) (D : va_G) (ci cz : ClassId) (tr : List (ClassId × FieldType)) (q0 q1 : Nat) (sz : Nat) (u0 u1 u2 u3 u4 u5 u6 u7 u8 u9 u10 u11 u12 u13 u14 u15 u16 u17 u18 u19 u20 u21 : Value) (zfill : Nat → Int32)  (post : (Nat → Int32) → Prop) (hw : wp_X12_nobodyFull zfill post) : gM l yX12_nobodyFull cX12_nobodyFull 2 none 0 0 D ci cz tr [(q0, .inr (11, [u0, u1, u2, u3, u4, u5, u6, u7, u8, u9, u10, u11, u12, u13, u14, .ref q1, u15, u16, u17, u18, u19, u20, u21])), (q1, .inl (ci, 7, .inl zfill))] sz [.ref q0] (gQv D [(q0, .inr (11, [u0, u1, u2, u3, u4, u5, u6, u7, u8, u9, u10, u11, u12, u13, u14, .ref q1, u15, u16, u17, u18, u19, u20, u21])), (q1, .inl (ci, 7, .inl zfill))] sz (fun w => ∃ (o_zfill : Nat → Int32), w = [(q0, .inr (11, [u0, u1, u2, u3, u4, u5, u6, u7, u8, u9, u10, u11, u12, u13, u14, .ref q1, u15, u16, u17, u18, u19, u20, u21])), (q1, .inl (ci, 7, .inl o_zfill))] ∧ post o_zfill)) := by
  refine gmet_v RX12 (by decide +kernel) rfl (Nat.le_of_ble_eq_true rfl) ?_
  intro p e s m args below meth c A R Q C hfr hlc hP hD hret ls hl
  obtain ⟨hx, hb, hml, hown, ht, hK, hZ, hA⟩ := C
  have hl : lv_has ls 2 [(0, .ref q0)] := hl
  unfold wp_X12_nobodyFull at hw
  refine g_in (fun H locs => W p l e R s m args below meth c H locs 0 0 Q (F0 m 0 ls [])) (fun H locs hS0 hP => ?_) hP (va_S.rf (A := A) (H0 := s.heap))
  have hS : va_S A s.heap H locs := hS0
  clear hS0
  refine lv_iconst (v := (0 : Int32)) hx hb dX12_nobodyFull_0 (by decide) ?_
  refine lv_istore_n (lv' := [(1, .int (0 : Int32)), (0, .ref q0)]) hx hb dX12_nobodyFull_1 rfl hl (by decide) rfl (fun ls hl => ?_)
  refine lo_walk hw (fun G2 => ∀ (x1_1 : Int32) (zfill_2 : Nat → Int32) (H : Heap) (locs : List Loc) (ls : Array Slot), G2 x1_1 zfill_2 → va_P D vwCl [(q0, .inr (11, [u0, u1, u2, u3, u4, u5, u6, u7, u8, u9, u10, u11, u12, u13, u14, .ref q1, u15, u16, u17, u18, u19, u20, u21])), (q1, .inl (ci, 7, .inl zfill_2))] H → va_S A s.heap H locs → lv_has ls 2 [(0, .ref q0), (1, .int x1_1)] → W p l e R s m args below meth c H locs 0 0 Q (F0 m 2 ls [])) (fun _ _ _ _ _ hw _ _ _ => False.elim hw) (fun G2 hG2 x1_1 zfill_2 H locs ls hw hP hS hl => ?_) (fun G2 hG2 hw => hG2 _ _ H locs ls hw hP hS (lv_sub hl [1, 0] rfl))
  have hD : va_D A [(q0, .inr (11, [u0, u1, u2, u3, u4, u5, u6, u7, u8, u9, u10, u11, u12, u13, u14, .ref q1, u15, u16, u17, u18, u19, u20, u21])), (q1, .inl (ci, 7, .inl zfill_2))] := gD_re hD rfl
  refine lv_iload_n hx hb dX12_nobodyFull_2 rfl (lv_at hl 1 rfl) ?_
  refine lv_bipush (v := (7 : Int32)) hx hb dX12_nobodyFull_3 (by decide) ?_
  refine lv_icmp_ge (tgt := 21) hx hb dX12_nobodyFull_5 (by decide) (fun hc => ?_) (fun hc => ?_)
  · have hw := hw.1 hc
    exact hret _ H locs _ _ ⟨_, rfl, hw⟩ hP hS dX12_nobodyFull_21
  · have hw := hw.2 hc
    refine lv_aload_n hx hb dX12_nobodyFull_8 rfl (lv_at hl 0 rfl) ?_
    refine va_get (D := D) (ci := 11) (v := .ref q1) (C := RX12) (T := TX12) (N := 23) hx hb ht in_X12 hown hK.1 hP 0 rfl rfl 15 (by decide) (ht _ mF_X12_45) (fun _ h9 => h9) rfl dX12_nobodyFull_9 ?_
    refine lv_iload_n hx hb dX12_nobodyFull_12 rfl (lv_at hl 1 rfl) ?_
    refine lv_iconst (v := (0 : Int32)) hx hb dX12_nobodyFull_13 (by decide) ?_
    obtain ⟨hin, hw⟩ := hw
    refine va_iast (D := D) hx hb hK.1 hP hD hS 1 0 rfl rfl hin dX12_nobodyFull_14 (fun H locs hP hD hS => ?_)
    have hP : va_P D vwCl [(q0, .inr (11, [u0, u1, u2, u3, u4, u5, u6, u7, u8, u9, u10, u11, u12, u13, u14, .ref q1, u15, u16, u17, u18, u19, u20, u21])), (q1, .inl (ci, 7, .inl (upd zfill_2 (x1_1).toNatClampNeg (0 : Int32))))] H := hP
    have hD : va_D A [(q0, .inr (11, [u0, u1, u2, u3, u4, u5, u6, u7, u8, u9, u10, u11, u12, u13, u14, .ref q1, u15, u16, u17, u18, u19, u20, u21])), (q1, .inl (ci, 7, .inl (upd zfill_2 (x1_1).toNatClampNeg (0 : Int32))))] := hD
    refine lv_iinc (v := (x1_1 + (1 : Int32))) (lv' := [(1, .int (x1_1 + (1 : Int32))), (0, .ref q0)]) hx hb dX12_nobodyFull_15 hl (k := 1) rfl rfl (by decide) rfl (fun ls hl => ?_)
    refine lv_goto (tgt := 2) hx hb dX12_nobodyFull_18 (by decide) ?_
    exact hG2 _ _ H locs ls hw hP hS (lv_sub hl [1, 0] rfl)

def wp_X12_has  (a0 : Int32) (a1 : Int32) (post : Int32 → Prop) : Prop :=
  ((¬ ((a0 >>> (a1 &&& 31)) &&& (1 : Int32)) = (1 : Int32) → post (0 : Int32) ) ∧ (((a0 >>> (a1 &&& 31)) &&& (1 : Int32)) = (1 : Int32) → post (1 : Int32) ))
set_option maxHeartbeats 4000000 in
set_option maxRecDepth 100000 in
theorem c_X12_has (l : Launch) (D : va_G) (ci cz : ClassId) (tr : List (ClassId × FieldType)) (sz : Nat)  (a0 : Int32) (a1 : Int32) (post : Int32 → Prop) (hw : wp_X12_has a0 a1 post) : gM l yX12_has cX12_has 2 (some .boolean) 0 0 D ci cz tr [] sz [.int a0, .int a1] (gQi D [] sz (fun (r : Int32) w => w = [] ∧ post r )) := by
  refine gmet_z RX12 (by decide +kernel) rfl (Nat.le_of_ble_eq_true rfl) ?_
  intro p e s m args below meth c A R Q C hfr hlc hP hD hret ls hl
  obtain ⟨hx, hb, hml, hown, ht, hK, hZ, hA⟩ := C
  have hl : lv_has ls 2 [(0, .int a0), (1, .int a1)] := hl
  unfold wp_X12_has at hw
  refine g_in (fun H locs => W p l e R s m args below meth c H locs 0 0 Q (F0 m 0 ls [])) (fun H locs hS0 hP => ?_) hP (va_S.rf (A := A) (H0 := s.heap))
  have hS : va_S A s.heap H locs := hS0
  clear hS0
  refine lv_iload_n hx hb dX12_has_0 rfl (lv_at hl 0 rfl) ?_
  refine lv_iload_n hx hb dX12_has_1 rfl (lv_at hl 1 rfl) ?_
  refine lv_ishr hx hb dX12_has_2 ?_
  refine lv_iconst (v := (1 : Int32)) hx hb dX12_has_3 (by decide) ?_
  refine lv_iand hx hb dX12_has_4 ?_
  refine lv_iconst (v := (1 : Int32)) hx hb dX12_has_5 (by decide) ?_
  refine lv_icmp_ne (tgt := 13) hx hb dX12_has_6 (by decide) (fun hc => ?_) (fun hc => ?_)
  · have hw := hw.1 hc
    refine lv_iconst (v := (0 : Int32)) hx hb dX12_has_13 (by decide) ?_
    exact hret _ _ H locs _ _ (by decide) ⟨rfl, hw⟩ hP hS dX12_has_14
  · have hw := hw.2 hc
    refine lv_iconst (v := (1 : Int32)) hx hb dX12_has_9 (by decide) ?_
    refine lv_goto (tgt := 14) hx hb dX12_has_10 (by decide) ?_
    exact hret _ _ H locs _ _ (by decide) ⟨rfl, hw⟩ hP hS dX12_has_14

def wp_X12_isFeared (zdogs : Int32) (zfears : Nat → Int32) (zwent : Nat → Int32) (a1 : Int32) (a2 : Int32) (post : Int32 → Prop) : Prop :=
  lo (fun _ _ => False) (fun (G5 : Int32 → Int32 → Prop) (x3_1 : Int32) (x4_2 : Int32) => ((zdogs ≤ x4_2 → ((x3_1 = 0 ∨ x3_1 = 1) ∧ post x3_1 )) ∧ (¬ zdogs ≤ x4_2 → jn (fun (t_3 : Int32) => G5 t_3 (x4_2 + (1 : Int32))) (fun (J48 : Int32 → Prop) => jn ( J48 (1 : Int32)) (fun (J43 : Prop) => ((¬ x3_1 = 0 → J43) ∧ (x3_1 = 0 → (vp_in a1 7 ∧ wp_X12_has (zfears (a1).toNatClampNeg) x4_2 (fun (r_4 : Int32) => jn ( J48 (0 : Int32)) (fun (J47 : Prop) => ((r_4 = 0 → J47) ∧ (¬ r_4 = 0 → (vp_in x4_2 7 ∧ ((¬ (zwent (x4_2).toNatClampNeg) = a2 → J47) ∧ ((zwent (x4_2).toNatClampNeg) = a2 → J43))))))))))))))) (fun G5 => G5 (0 : Int32) (0 : Int32))
set_option maxHeartbeats 4000000 in
set_option maxRecDepth 100000 in
theorem c_X12_isFeared (l : Launch) (D : va_G) (ci cz : ClassId) (tr : List (ClassId × FieldType)) (q0 q1 q2 : Nat) (sz : Nat) (u0 u1 u2 u3 u4 u5 u6 u7 u8 u9 u10 u11 u12 u13 u14 u15 u16 u17 u18 u19 : Value) (zdogs : Int32) (zfears : Nat → Int32) (zwent : Nat → Int32) (a1 : Int32) (a2 : Int32) (post : Int32 → Prop) (hw : wp_X12_isFeared zdogs zfears zwent a1 a2 post) : gM l yX12_isFeared cX12_isFeared 5 (some .boolean) 1 21 D ci cz tr [(q0, .inr (11, [.int zdogs, u0, u1, u2, .ref q1, u3, u4, u5, u6, u7, u8, u9, u10, u11, .ref q2, u12, u13, u14, u15, u16, u17, u18, u19])), (q1, .inl (ci, 7, .inl zfears)), (q2, .inl (ci, 7, .inl zwent))] sz [.ref q0, .int a1, .int a2] (gQi D [(q0, .inr (11, [.int zdogs, u0, u1, u2, .ref q1, u3, u4, u5, u6, u7, u8, u9, u10, u11, .ref q2, u12, u13, u14, u15, u16, u17, u18, u19])), (q1, .inl (ci, 7, .inl zfears)), (q2, .inl (ci, 7, .inl zwent))] sz (fun (r : Int32) w => w = [(q0, .inr (11, [.int zdogs, u0, u1, u2, .ref q1, u3, u4, u5, u6, u7, u8, u9, u10, u11, .ref q2, u12, u13, u14, u15, u16, u17, u18, u19])), (q1, .inl (ci, 7, .inl zfears)), (q2, .inl (ci, 7, .inl zwent))] ∧ post r )) := by
  refine gmet_z RX12 (by decide +kernel) rfl (Nat.le_of_ble_eq_true rfl) ?_
  intro p e s m args below meth c A R Q C hfr hlc hP hD hret ls hl
  obtain ⟨hx, hb, hml, hown, ht, hK, hZ, hA⟩ := C
  have hl : lv_has ls 5 [(0, .ref q0), (1, .int a1), (2, .int a2)] := hl
  unfold wp_X12_isFeared at hw
  refine g_in (fun H locs => W p l e R s m args below meth c H locs 0 0 Q (F0 m 0 ls [])) (fun H locs hS0 hP => ?_) hP (va_S.rf (A := A) (H0 := s.heap))
  have hS : va_S A s.heap H locs := hS0
  clear hS0
  refine lv_iconst (v := (0 : Int32)) hx hb dX12_isFeared_0 (by decide) ?_
  refine lv_istore_n (lv' := [(3, .int (0 : Int32)), (0, .ref q0), (1, .int a1), (2, .int a2)]) hx hb dX12_isFeared_1 rfl hl (by decide) rfl (fun ls hl => ?_)
  refine lv_iconst (v := (0 : Int32)) hx hb dX12_isFeared_2 (by decide) ?_
  refine lv_istore (lv' := [(4, .int (0 : Int32)), (3, .int (0 : Int32)), (0, .ref q0), (1, .int a1), (2, .int a2)]) hx hb dX12_isFeared_3 hl (by decide) rfl (fun ls hl => ?_)
  refine lo_walk hw (fun G5 => ∀ (x3_1 : Int32) (x4_2 : Int32) (H : Heap) (locs : List Loc) (ls : Array Slot), G5 x3_1 x4_2 → va_P D vwCl [(q0, .inr (11, [.int zdogs, u0, u1, u2, .ref q1, u3, u4, u5, u6, u7, u8, u9, u10, u11, .ref q2, u12, u13, u14, u15, u16, u17, u18, u19])), (q1, .inl (ci, 7, .inl zfears)), (q2, .inl (ci, 7, .inl zwent))] H → va_S A s.heap H locs → lv_has ls 5 [(0, .ref q0), (1, .int a1), (2, .int a2), (3, .int x3_1), (4, .int x4_2)] → W p l e R s m args below meth c H locs 0 0 Q (F0 m 5 ls [])) (fun _ _ _ _ _ hw _ _ _ => False.elim hw) (fun G5 hG5 x3_1 x4_2 H locs ls hw hP hS hl => ?_) (fun G5 hG5 hw => hG5 _ _ H locs ls hw hP hS (lv_sub hl [2, 3, 4, 1, 0] rfl))
  have hD : va_D A [(q0, .inr (11, [.int zdogs, u0, u1, u2, .ref q1, u3, u4, u5, u6, u7, u8, u9, u10, u11, .ref q2, u12, u13, u14, u15, u16, u17, u18, u19])), (q1, .inl (ci, 7, .inl zfears)), (q2, .inl (ci, 7, .inl zwent))] := gD_re hD rfl
  refine lv_iload hx hb dX12_isFeared_5 (lv_at hl 4 rfl) ?_
  refine lv_aload_n hx hb dX12_isFeared_7 rfl (lv_at hl 0 rfl) ?_
  refine va_get (D := D) (ci := 11) (v := .int zdogs) (C := RX12) (T := TX12) (N := 23) hx hb ht in_X12 hown hK.1 hP 0 rfl rfl 0 (by decide) (ht _ mF_X12_63) (fun _ h9 => h9) rfl dX12_isFeared_8 ?_
  refine lv_icmp_ge (tgt := 55) hx hb dX12_isFeared_11 (by decide) (fun hc => ?_) (fun hc => ?_)
  · have hw := hw.1 hc
    refine lv_iload_n hx hb dX12_isFeared_55 rfl (lv_at hl 3 rfl) ?_
    obtain ⟨h01, hw⟩ := hw
    exact hret _ _ H locs _ _ h01 ⟨rfl, hw⟩ hP hS dX12_isFeared_56
  · have hw := hw.2 hc
    refine lv_iload_n hx hb dX12_isFeared_14 rfl (lv_at hl 3 rfl) ?_
    refine jn_walk hw (fun J48 => ∀ (t_3 : Int32) (H : Heap) (locs : List Loc) (ls : Array Slot), J48 t_3 → va_P D vwCl [(q0, .inr (11, [.int zdogs, u0, u1, u2, .ref q1, u3, u4, u5, u6, u7, u8, u9, u10, u11, .ref q2, u12, u13, u14, u15, u16, u17, u18, u19])), (q1, .inl (ci, 7, .inl zfears)), (q2, .inl (ci, 7, .inl zwent))] H → va_S A s.heap H locs → lv_has ls 5 [(0, .ref q0), (1, .int a1), (2, .int a2), (4, .int x4_2)] → W p l e R s m args below meth c H locs 0 0 Q (F0 m 48 ls [.int t_3])) ?_ ?_
    · intro t_3 H locs ls hw hP hS hl
      have hD : va_D A [(q0, .inr (11, [.int zdogs, u0, u1, u2, .ref q1, u3, u4, u5, u6, u7, u8, u9, u10, u11, .ref q2, u12, u13, u14, u15, u16, u17, u18, u19])), (q1, .inl (ci, 7, .inl zfears)), (q2, .inl (ci, 7, .inl zwent))] := gD_re hD rfl
      refine lv_istore_n (lv' := [(3, .int t_3), (0, .ref q0), (1, .int a1), (2, .int a2), (4, .int x4_2)]) hx hb dX12_isFeared_48 rfl hl (by decide) rfl (fun ls hl => ?_)
      refine lv_iinc (v := (x4_2 + (1 : Int32))) (lv' := [(4, .int (x4_2 + (1 : Int32))), (3, .int t_3), (0, .ref q0), (1, .int a1), (2, .int a2)]) hx hb dX12_isFeared_49 hl (k := 4) rfl rfl (by decide) rfl (fun ls hl => ?_)
      refine lv_goto (tgt := 5) hx hb dX12_isFeared_52 (by decide) ?_
      exact hG5 _ _ H locs ls hw hP hS (lv_sub hl [2, 3, 4, 1, 0] rfl)
    · intro J48 hJ48 hw
      refine jn_walk hw (fun J43 => ∀  (H : Heap) (locs : List Loc) (ls : Array Slot), J43 → va_P D vwCl [(q0, .inr (11, [.int zdogs, u0, u1, u2, .ref q1, u3, u4, u5, u6, u7, u8, u9, u10, u11, .ref q2, u12, u13, u14, u15, u16, u17, u18, u19])), (q1, .inl (ci, 7, .inl zfears)), (q2, .inl (ci, 7, .inl zwent))] H → va_S A s.heap H locs → lv_has ls 5 [(0, .ref q0), (1, .int a1), (2, .int a2), (4, .int x4_2)] → W p l e R s m args below meth c H locs 0 0 Q (F0 m 43 ls [])) ?_ ?_
      · intro  H locs ls hw hP hS hl
        have hD : va_D A [(q0, .inr (11, [.int zdogs, u0, u1, u2, .ref q1, u3, u4, u5, u6, u7, u8, u9, u10, u11, .ref q2, u12, u13, u14, u15, u16, u17, u18, u19])), (q1, .inl (ci, 7, .inl zfears)), (q2, .inl (ci, 7, .inl zwent))] := gD_re hD rfl
        refine lv_iconst (v := (1 : Int32)) hx hb dX12_isFeared_43 (by decide) ?_
        refine lv_goto (tgt := 48) hx hb dX12_isFeared_44 (by decide) ?_
        exact hJ48 _ H locs ls hw hP hS (lv_sub hl [0, 1, 2, 3] rfl)
      · intro J43 hJ43 hw
        refine lv_if_ne (tgt := 43) hx hb dX12_isFeared_15 (by decide) (fun hc => ?_) (fun hc => ?_)
        · have hw := hw.1 hc
          exact hJ43  H locs ls hw hP hS (lv_sub hl [0, 1, 2, 4] rfl)
        · have hw := hw.2 hc
          refine lv_aload_n hx hb dX12_isFeared_18 rfl (lv_at hl 0 rfl) ?_
          refine va_get (D := D) (ci := 11) (v := .ref q1) (C := RX12) (T := TX12) (N := 23) hx hb ht in_X12 hown hK.1 hP 0 rfl rfl 4 (by decide) (ht _ mF_X12_20) (fun _ h9 => h9) rfl dX12_isFeared_19 ?_
          refine lv_iload_n hx hb dX12_isFeared_22 rfl (lv_at hl 1 rfl) ?_
          obtain ⟨hin, hw⟩ := hw
          refine va_iald (D := D) hx hb hK.1 hP 1 0 rfl rfl hin dX12_isFeared_23 ?_
          refine lv_iload hx hb dX12_isFeared_24 (lv_at hl 4 rfl) ?_
          refine gcalli (va_runS (As := [.int (zfears (a1).toNatClampNeg), .int x4_2]) (rest := []) ⟨hx, hb, hml, hown, ht⟩ (c_X12_has l D ci cz tr  H.size (zfears (a1).toNatClampNeg) x4_2 _ hw) (va_cwS 2 ht (gi_S mM_X12_84 mT_X12_has mN_X12 mC_X12_has) rfl rfl rfl (by decide +kernel) ⟨Nat.le_trans (Nat.le_of_ble_eq_true rfl) hfr, Nat.le_trans (Nat.le_of_ble_eq_true rfl) hlc⟩) (gpre (wc := []) hK hZ hP hD hS hA [] rfl rfl) rfl rfl hl.1 rfl (lv_room (Nat.le_of_ble_eq_true rfl)) dX12_isFeared_26 ⟨Nat.zero_le _, Nat.zero_le _⟩) hD hS hA [] rfl (fun r_4 w9 H locs hw hP9 hk9 hS => ?_)
          obtain ⟨rfl, hw⟩ := hw
          have hP : va_P D vwCl [(q0, .inr (11, [.int zdogs, u0, u1, u2, .ref q1, u3, u4, u5, u6, u7, u8, u9, u10, u11, .ref q2, u12, u13, u14, u15, u16, u17, u18, u19])), (q1, .inl (ci, 7, .inl zfears)), (q2, .inl (ci, 7, .inl zwent))] H := gjoin3 hP hD [] hP9 hk9 rfl rfl [none, none, none] rfl rfl
          clear hP9 hk9
          refine jn_walk hw (fun J47 => ∀  (H : Heap) (locs : List Loc) (ls : Array Slot), J47 → va_P D vwCl [(q0, .inr (11, [.int zdogs, u0, u1, u2, .ref q1, u3, u4, u5, u6, u7, u8, u9, u10, u11, .ref q2, u12, u13, u14, u15, u16, u17, u18, u19])), (q1, .inl (ci, 7, .inl zfears)), (q2, .inl (ci, 7, .inl zwent))] H → va_S A s.heap H locs → lv_has ls 5 [(0, .ref q0), (1, .int a1), (2, .int a2), (4, .int x4_2)] → W p l e R s m args below meth c H locs 0 0 Q (F0 m 47 ls [])) ?_ ?_
          · intro  H locs ls hw hP hS hl
            have hD : va_D A [(q0, .inr (11, [.int zdogs, u0, u1, u2, .ref q1, u3, u4, u5, u6, u7, u8, u9, u10, u11, .ref q2, u12, u13, u14, u15, u16, u17, u18, u19])), (q1, .inl (ci, 7, .inl zfears)), (q2, .inl (ci, 7, .inl zwent))] := gD_re hD rfl
            refine lv_iconst (v := (0 : Int32)) hx hb dX12_isFeared_47 (by decide) ?_
            exact hJ48 _ H locs ls hw hP hS (lv_sub hl [0, 1, 2, 3] rfl)
          · intro J47 hJ47 hw
            refine lv_if_eq (tgt := 47) hx hb dX12_isFeared_29 (by decide) (fun hc => ?_) (fun hc => ?_)
            · have hw := hw.1 hc
              exact hJ47  H locs ls hw hP hS (lv_sub hl [0, 1, 2, 4] rfl)
            · have hw := hw.2 hc
              refine lv_aload_n hx hb dX12_isFeared_32 rfl (lv_at hl 0 rfl) ?_
              refine va_get (D := D) (ci := 11) (v := .ref q2) (C := RX12) (T := TX12) (N := 23) hx hb ht in_X12 hown hK.1 hP 0 rfl rfl 14 (by decide) (ht _ mF_X12_42) (fun _ h9 => h9) rfl dX12_isFeared_33 ?_
              refine lv_iload hx hb dX12_isFeared_36 (lv_at hl 4 rfl) ?_
              obtain ⟨hin, hw⟩ := hw
              refine va_iald (D := D) hx hb hK.1 hP 2 0 rfl rfl hin dX12_isFeared_38 ?_
              refine lv_iload_n hx hb dX12_isFeared_39 rfl (lv_at hl 2 rfl) ?_
              refine lv_icmp_ne (tgt := 47) hx hb dX12_isFeared_40 (by decide) (fun hc => ?_) (fun hc => ?_)
              · have hw := hw.1 hc
                exact hJ47  H locs ls hw hP hS (lv_sub hl [0, 1, 2, 4] rfl)
              · have hw := hw.2 hc
                exact hJ43  H locs ls hw hP hS (lv_sub hl [0, 1, 2, 4] rfl)

def wp_X12_letGo (zdogs : Int32) (zhungry : Int32) (zatLeft : Int32) (zatRight : Int32) (zhalves : Nat → Int32) (zlikes : Nat → Int32) (zfears : Nat → Int32) (zorder : Nat → Int32) (zwent : Nat → Int32) (zfill : Nat → Int32) (a1 : Int32) (a2 : Int32) (a3 : Int32) (post : Int32 → Int32 → (Nat → Int32) → (Nat → Int32) → Prop) : Prop :=
  jn (fun (zwent_1 : Nat → Int32) => jn (fun (zatLeft_2 : Int32) (zatRight_3 : Int32) (zwent_4 : Nat → Int32) => lo (fun _ _ => False) (fun (G246 : Int32 → (Nat → Int32) → Prop) (x4_5 : Int32) (zfill_6 : Nat → Int32) => ((zdogs ≤ x4_5 → post zatLeft_2 zatRight_3 zwent_4 zfill_6) ∧ (¬ zdogs ≤ x4_5 → (vp_in x4_5 7 ∧ (vp_in x4_5 7 ∧ jn (fun (t_7 : Int32) => (vp_in x4_5 7 ∧ G246 (x4_5 + (1 : Int32)) (upd zfill_6 (x4_5).toNatClampNeg ((zfill_6 (x4_5).toNatClampNeg) + t_7)))) (fun (J297 : Int32 → Prop) => jn ( J297 (1 : Int32)) (fun (J292 : Prop) => jn ( (vp_in x4_5 7 ∧ jn ( J297 (0 : Int32)) (fun (J296 : Prop) => ((¬ (zwent_4 (x4_5).toNatClampNeg) = (1 : Int32) → J296) ∧ ((zwent_4 (x4_5).toNatClampNeg) = (1 : Int32) → ((a2 ≤ 0 → J296) ∧ (¬ a2 ≤ 0 → J292))))))) (fun (J277 : Prop) => ((¬ (zwent_4 (x4_5).toNatClampNeg) = 0 → J277) ∧ ((zwent_4 (x4_5).toNatClampNeg) = 0 → ((0 < a1 → J292) ∧ (¬ 0 < a1 → J277)))))))))))) (fun G246 => G246 (0 : Int32) zfill)) (fun (J243 : Int32 → Int32 → (Nat → Int32) → Prop) => lo (fun _ _ _ _ => False) (fun (G37 : Int32 → Int32 → Int32 → (Nat → Int32) → Prop) (x4_8 : Int32) (zatLeft_9 : Int32) (zatRight_10 : Int32) (zwent_11 : Nat → Int32) => ((zdogs ≤ x4_8 → J243 zatLeft_9 zatRight_10 zwent_11) ∧ (¬ zdogs ≤ x4_8 → (vp_in x4_8 7 ∧ (vp_in (zorder (x4_8).toNatClampNeg) 7 ∧ (((zhalves ((zorder (x4_8).toNatClampNeg)).toNatClampNeg) ≤ 0 → G37 (x4_8 + (1 : Int32)) zatLeft_9 zatRight_10 zwent_11) ∧ (¬ (zhalves ((zorder (x4_8).toNatClampNeg)).toNatClampNeg) ≤ 0 → (((zorder (x4_8).toNatClampNeg) = a3 → G37 (x4_8 + (1 : Int32)) zatLeft_9 zatRight_10 zwent_11) ∧ (¬ (zorder (x4_8).toNatClampNeg) = a3 → (vp_in (zorder (x4_8).toNatClampNeg) 7 ∧ (vp_in (zorder (x4_8).toNatClampNeg) 7 ∧ jn (fun (t_12 : Int32) => jn (fun (t_13 : Int32) => wp_X12_isFeared zdogs zfears zwent_11 (zorder (x4_8).toNatClampNeg) t_13 (fun (r_14 : Int32) => jn (fun (t_15 : Int32) => (vp_in (zorder (x4_8).toNatClampNeg) 7 ∧ jn (fun (t_16 : Int32) => jn (fun (t_17 : Int32) => G37 (x4_8 + (1 : Int32)) (zatLeft_9 + t_16) (zatRight_10 + t_17) (upd zwent_11 ((zorder (x4_8).toNatClampNeg)).toNatClampNeg t_15)) (fun (J233 : Int32 → Prop) => ((¬ t_15 = (1 : Int32) → J233 (0 : Int32)) ∧ (t_15 = (1 : Int32) → (vp_in (zorder (x4_8).toNatClampNeg) 7 ∧ J233 (zhalves ((zorder (x4_8).toNatClampNeg)).toNatClampNeg)))))) (fun (J207 : Int32 → Prop) => ((¬ t_15 = 0 → J207 (0 : Int32)) ∧ (t_15 = 0 → (vp_in (zorder (x4_8).toNatClampNeg) 7 ∧ J207 (zhalves ((zorder (x4_8).toNatClampNeg)).toNatClampNeg))))))) (fun (J175 : Int32 → Prop) => ((¬ r_14 = 0 → wp_X12_isFeared zdogs zfears zwent_11 (zorder (x4_8).toNatClampNeg) ((1 : Int32) - t_13) (fun (r_18 : Int32) => ((¬ r_18 = 0 → J175 (2 : Int32)) ∧ (r_18 = 0 → J175 ((1 : Int32) - t_13))))) ∧ (r_14 = 0 → J175 t_13))))) (fun (J136 : Int32 → Prop) => ((((zlikes ((zorder (x4_8).toNatClampNeg)).toNatClampNeg) + t_12) ≤ 0 → ((0 ≤ ((zlikes ((zorder (x4_8).toNatClampNeg)).toNatClampNeg) + t_12) → ((zatRight_10 ≤ zatLeft_9 → J136 (0 : Int32)) ∧ (¬ zatRight_10 ≤ zatLeft_9 → J136 (1 : Int32)))) ∧ (¬ 0 ≤ ((zlikes ((zorder (x4_8).toNatClampNeg)).toNatClampNeg) + t_12) → J136 (1 : Int32)))) ∧ (¬ ((zlikes ((zorder (x4_8).toNatClampNeg)).toNatClampNeg) + t_12) ≤ 0 → J136 (0 : Int32))))) (fun (J99 : Int32 → Prop) => (((zfill ((zorder (x4_8).toNatClampNeg)).toNatClampNeg) < zhungry → J99 (a1 - a2)) ∧ (¬ (zfill ((zorder (x4_8).toNatClampNeg)).toNatClampNeg) < zhungry → J99 (0 : Int32))))))))))))))) (fun G37 => G37 (0 : Int32) (0 : Int32) (0 : Int32) zwent_1))) (fun (J34 : (Nat → Int32) → Prop) => lo (fun _ _ => False) (fun (G13 : Int32 → (Nat → Int32) → Prop) (x4_19 : Int32) (zwent_20 : Nat → Int32) => (((7 : Int32) ≤ x4_19 → J34 zwent_20) ∧ (¬ (7 : Int32) ≤ x4_19 → (vp_in x4_19 7 ∧ G13 (x4_19 + (1 : Int32)) (upd zwent_20 (x4_19).toNatClampNeg (2 : Int32)))))) (fun G13 => G13 (0 : Int32) zwent))
set_option maxHeartbeats 4000000 in
set_option maxRecDepth 100000 in
theorem c_X12_letGo (l : Launch) (D : va_G) (ci cz : ClassId) (tr : List (ClassId × FieldType)) (q0 q1 q2 q3 q4 q5 q6 : Nat) (sz : Nat) (u0 u1 u2 u3 u4 u5 u6 u7 u8 u9 u10 u11 u12 : Value) (zdogs : Int32) (zhungry : Int32) (zatLeft : Int32) (zatRight : Int32) (zhalves : Nat → Int32) (zlikes : Nat → Int32) (zfears : Nat → Int32) (zorder : Nat → Int32) (zwent : Nat → Int32) (zfill : Nat → Int32) (a1 : Int32) (a2 : Int32) (a3 : Int32) (post : Int32 → Int32 → (Nat → Int32) → (Nat → Int32) → Prop) (hw : wp_X12_letGo zdogs zhungry zatLeft zatRight zhalves zlikes zfears zorder zwent zfill a1 a2 a3 post) : gM l yX12_letGo cX12_letGo 8 none 2 45 D ci cz tr [(q0, .inr (11, [.int zdogs, .ref q1, .ref q2, u0, .ref q3, u1, .int zhungry, u2, u3, u4, u5, u6, u7, .ref q4, .ref q5, .ref q6, .int zatLeft, .int zatRight, u8, u9, u10, u11, u12])), (q1, .inl (ci, 7, .inl zhalves)), (q2, .inl (ci, 7, .inl zlikes)), (q3, .inl (ci, 7, .inl zfears)), (q4, .inl (ci, 7, .inl zorder)), (q5, .inl (ci, 7, .inl zwent)), (q6, .inl (ci, 7, .inl zfill))] sz [.ref q0, .int a1, .int a2, .int a3] (gQv D [(q0, .inr (11, [.int zdogs, .ref q1, .ref q2, u0, .ref q3, u1, .int zhungry, u2, u3, u4, u5, u6, u7, .ref q4, .ref q5, .ref q6, .int zatLeft, .int zatRight, u8, u9, u10, u11, u12])), (q1, .inl (ci, 7, .inl zhalves)), (q2, .inl (ci, 7, .inl zlikes)), (q3, .inl (ci, 7, .inl zfears)), (q4, .inl (ci, 7, .inl zorder)), (q5, .inl (ci, 7, .inl zwent)), (q6, .inl (ci, 7, .inl zfill))] sz (fun w => ∃ (o_zatLeft : Int32) (o_zatRight : Int32) (o_zwent : Nat → Int32) (o_zfill : Nat → Int32), w = [(q0, .inr (11, [.int zdogs, .ref q1, .ref q2, u0, .ref q3, u1, .int zhungry, u2, u3, u4, u5, u6, u7, .ref q4, .ref q5, .ref q6, .int o_zatLeft, .int o_zatRight, u8, u9, u10, u11, u12])), (q1, .inl (ci, 7, .inl zhalves)), (q2, .inl (ci, 7, .inl zlikes)), (q3, .inl (ci, 7, .inl zfears)), (q4, .inl (ci, 7, .inl zorder)), (q5, .inl (ci, 7, .inl o_zwent)), (q6, .inl (ci, 7, .inl o_zfill))] ∧ post o_zatLeft o_zatRight o_zwent o_zfill)) := by
  refine gmet_v RX12 (by decide +kernel) rfl (Nat.le_of_ble_eq_true rfl) ?_
  intro p e s m args below meth c A R Q C hfr hlc hP hD hret ls hl
  obtain ⟨hx, hb, hml, hown, ht, hK, hZ, hA⟩ := C
  have hl : lv_has ls 8 [(0, .ref q0), (1, .int a1), (2, .int a2), (3, .int a3)] := hl
  unfold wp_X12_letGo at hw
  refine g_in (fun H locs => W p l e R s m args below meth c H locs 0 0 Q (F0 m 0 ls [])) (fun H locs hS0 hP => ?_) hP (va_S.rf (A := A) (H0 := s.heap))
  have hS : va_S A s.heap H locs := hS0
  clear hS0
  refine lv_aload_n hx hb dX12_letGo_0 rfl (lv_at hl 0 rfl) ?_
  refine lv_iconst (v := (0 : Int32)) hx hb dX12_letGo_1 (by decide) ?_
  refine va_put (D := D) (ci := 11) (v := .int (0 : Int32)) (ty := .int) (C := RX12) (T := TX12) (N := 23) hx hb ht in_X12 tyX12 tyX12_ok nmX12 hown hK.1 hP hD hS 0 rfl rfl 16 (by decide) (ht _ mF_X12_88) (fun _ h9 => h9) rfl (by decide +kernel) rfl rfl (Nat.le_of_ble_eq_true rfl) dX12_letGo_2 (fun H locs hP hD hS => ?_)
  have hP : va_P D vwCl [(q0, .inr (11, [.int zdogs, .ref q1, .ref q2, u0, .ref q3, u1, .int zhungry, u2, u3, u4, u5, u6, u7, .ref q4, .ref q5, .ref q6, .int (0 : Int32), .int zatRight, u8, u9, u10, u11, u12])), (q1, .inl (ci, 7, .inl zhalves)), (q2, .inl (ci, 7, .inl zlikes)), (q3, .inl (ci, 7, .inl zfears)), (q4, .inl (ci, 7, .inl zorder)), (q5, .inl (ci, 7, .inl zwent)), (q6, .inl (ci, 7, .inl zfill))] H := hP
  have hD : va_D A [(q0, .inr (11, [.int zdogs, .ref q1, .ref q2, u0, .ref q3, u1, .int zhungry, u2, u3, u4, u5, u6, u7, .ref q4, .ref q5, .ref q6, .int (0 : Int32), .int zatRight, u8, u9, u10, u11, u12])), (q1, .inl (ci, 7, .inl zhalves)), (q2, .inl (ci, 7, .inl zlikes)), (q3, .inl (ci, 7, .inl zfears)), (q4, .inl (ci, 7, .inl zorder)), (q5, .inl (ci, 7, .inl zwent)), (q6, .inl (ci, 7, .inl zfill))] := hD
  refine lv_aload_n hx hb dX12_letGo_5 rfl (lv_at hl 0 rfl) ?_
  refine lv_iconst (v := (0 : Int32)) hx hb dX12_letGo_6 (by decide) ?_
  refine va_put (D := D) (ci := 11) (v := .int (0 : Int32)) (ty := .int) (C := RX12) (T := TX12) (N := 23) hx hb ht in_X12 tyX12 tyX12_ok nmX12 hown hK.1 hP hD hS 0 rfl rfl 17 (by decide) (ht _ mF_X12_91) (fun _ h9 => h9) rfl (by decide +kernel) rfl rfl (Nat.le_of_ble_eq_true rfl) dX12_letGo_7 (fun H locs hP hD hS => ?_)
  have hP : va_P D vwCl [(q0, .inr (11, [.int zdogs, .ref q1, .ref q2, u0, .ref q3, u1, .int zhungry, u2, u3, u4, u5, u6, u7, .ref q4, .ref q5, .ref q6, .int (0 : Int32), .int (0 : Int32), u8, u9, u10, u11, u12])), (q1, .inl (ci, 7, .inl zhalves)), (q2, .inl (ci, 7, .inl zlikes)), (q3, .inl (ci, 7, .inl zfears)), (q4, .inl (ci, 7, .inl zorder)), (q5, .inl (ci, 7, .inl zwent)), (q6, .inl (ci, 7, .inl zfill))] H := hP
  have hD : va_D A [(q0, .inr (11, [.int zdogs, .ref q1, .ref q2, u0, .ref q3, u1, .int zhungry, u2, u3, u4, u5, u6, u7, .ref q4, .ref q5, .ref q6, .int (0 : Int32), .int (0 : Int32), u8, u9, u10, u11, u12])), (q1, .inl (ci, 7, .inl zhalves)), (q2, .inl (ci, 7, .inl zlikes)), (q3, .inl (ci, 7, .inl zfears)), (q4, .inl (ci, 7, .inl zorder)), (q5, .inl (ci, 7, .inl zwent)), (q6, .inl (ci, 7, .inl zfill))] := hD
  refine lv_iconst (v := (0 : Int32)) hx hb dX12_letGo_10 (by decide) ?_
  refine lv_istore (lv' := [(4, .int (0 : Int32)), (0, .ref q0), (1, .int a1), (2, .int a2), (3, .int a3)]) hx hb dX12_letGo_11 hl (by decide) rfl (fun ls hl => ?_)
  refine jn_walk hw (fun J34 => ∀ (zwent_1 : Nat → Int32) (H : Heap) (locs : List Loc) (ls : Array Slot), J34 zwent_1 → va_P D vwCl [(q0, .inr (11, [.int zdogs, .ref q1, .ref q2, u0, .ref q3, u1, .int zhungry, u2, u3, u4, u5, u6, u7, .ref q4, .ref q5, .ref q6, .int (0 : Int32), .int (0 : Int32), u8, u9, u10, u11, u12])), (q1, .inl (ci, 7, .inl zhalves)), (q2, .inl (ci, 7, .inl zlikes)), (q3, .inl (ci, 7, .inl zfears)), (q4, .inl (ci, 7, .inl zorder)), (q5, .inl (ci, 7, .inl zwent_1)), (q6, .inl (ci, 7, .inl zfill))] H → va_S A s.heap H locs → lv_has ls 8 [(0, .ref q0), (1, .int a1), (2, .int a2), (3, .int a3)] → W p l e R s m args below meth c H locs 0 0 Q (F0 m 34 ls [])) ?_ ?_
  · intro zwent_1 H locs ls hw hP hS hl
    have hD : va_D A [(q0, .inr (11, [.int zdogs, .ref q1, .ref q2, u0, .ref q3, u1, .int zhungry, u2, u3, u4, u5, u6, u7, .ref q4, .ref q5, .ref q6, .int (0 : Int32), .int (0 : Int32), u8, u9, u10, u11, u12])), (q1, .inl (ci, 7, .inl zhalves)), (q2, .inl (ci, 7, .inl zlikes)), (q3, .inl (ci, 7, .inl zfears)), (q4, .inl (ci, 7, .inl zorder)), (q5, .inl (ci, 7, .inl zwent_1)), (q6, .inl (ci, 7, .inl zfill))] := gD_re hD rfl
    refine lv_iconst (v := (0 : Int32)) hx hb dX12_letGo_34 (by decide) ?_
    refine lv_istore (lv' := [(4, .int (0 : Int32)), (0, .ref q0), (1, .int a1), (2, .int a2), (3, .int a3)]) hx hb dX12_letGo_35 hl (by decide) rfl (fun ls hl => ?_)
    refine jn_walk hw (fun J243 => ∀ (zatLeft_2 : Int32) (zatRight_3 : Int32) (zwent_4 : Nat → Int32) (H : Heap) (locs : List Loc) (ls : Array Slot), J243 zatLeft_2 zatRight_3 zwent_4 → va_P D vwCl [(q0, .inr (11, [.int zdogs, .ref q1, .ref q2, u0, .ref q3, u1, .int zhungry, u2, u3, u4, u5, u6, u7, .ref q4, .ref q5, .ref q6, .int zatLeft_2, .int zatRight_3, u8, u9, u10, u11, u12])), (q1, .inl (ci, 7, .inl zhalves)), (q2, .inl (ci, 7, .inl zlikes)), (q3, .inl (ci, 7, .inl zfears)), (q4, .inl (ci, 7, .inl zorder)), (q5, .inl (ci, 7, .inl zwent_4)), (q6, .inl (ci, 7, .inl zfill))] H → va_S A s.heap H locs → lv_has ls 8 [(0, .ref q0), (1, .int a1), (2, .int a2)] → W p l e R s m args below meth c H locs 0 0 Q (F0 m 243 ls [])) ?_ ?_
    · intro zatLeft_2 zatRight_3 zwent_4 H locs ls hw hP hS hl
      have hD : va_D A [(q0, .inr (11, [.int zdogs, .ref q1, .ref q2, u0, .ref q3, u1, .int zhungry, u2, u3, u4, u5, u6, u7, .ref q4, .ref q5, .ref q6, .int zatLeft_2, .int zatRight_3, u8, u9, u10, u11, u12])), (q1, .inl (ci, 7, .inl zhalves)), (q2, .inl (ci, 7, .inl zlikes)), (q3, .inl (ci, 7, .inl zfears)), (q4, .inl (ci, 7, .inl zorder)), (q5, .inl (ci, 7, .inl zwent_4)), (q6, .inl (ci, 7, .inl zfill))] := gD_re hD rfl
      refine lv_iconst (v := (0 : Int32)) hx hb dX12_letGo_243 (by decide) ?_
      refine lv_istore (lv' := [(4, .int (0 : Int32)), (0, .ref q0), (1, .int a1), (2, .int a2)]) hx hb dX12_letGo_244 hl (by decide) rfl (fun ls hl => ?_)
      refine lo_walk hw (fun G246 => ∀ (x4_5 : Int32) (zfill_6 : Nat → Int32) (H : Heap) (locs : List Loc) (ls : Array Slot), G246 x4_5 zfill_6 → va_P D vwCl [(q0, .inr (11, [.int zdogs, .ref q1, .ref q2, u0, .ref q3, u1, .int zhungry, u2, u3, u4, u5, u6, u7, .ref q4, .ref q5, .ref q6, .int zatLeft_2, .int zatRight_3, u8, u9, u10, u11, u12])), (q1, .inl (ci, 7, .inl zhalves)), (q2, .inl (ci, 7, .inl zlikes)), (q3, .inl (ci, 7, .inl zfears)), (q4, .inl (ci, 7, .inl zorder)), (q5, .inl (ci, 7, .inl zwent_4)), (q6, .inl (ci, 7, .inl zfill_6))] H → va_S A s.heap H locs → lv_has ls 8 [(0, .ref q0), (1, .int a1), (2, .int a2), (4, .int x4_5)] → W p l e R s m args below meth c H locs 0 0 Q (F0 m 246 ls [])) (fun _ _ _ _ _ hw _ _ _ => False.elim hw) (fun G246 hG246 x4_5 zfill_6 H locs ls hw hP hS hl => ?_) (fun G246 hG246 hw => hG246 _ _ H locs ls hw hP hS (lv_sub hl [1, 2, 3, 0] rfl))
      have hD : va_D A [(q0, .inr (11, [.int zdogs, .ref q1, .ref q2, u0, .ref q3, u1, .int zhungry, u2, u3, u4, u5, u6, u7, .ref q4, .ref q5, .ref q6, .int zatLeft_2, .int zatRight_3, u8, u9, u10, u11, u12])), (q1, .inl (ci, 7, .inl zhalves)), (q2, .inl (ci, 7, .inl zlikes)), (q3, .inl (ci, 7, .inl zfears)), (q4, .inl (ci, 7, .inl zorder)), (q5, .inl (ci, 7, .inl zwent_4)), (q6, .inl (ci, 7, .inl zfill_6))] := gD_re hD rfl
      refine lv_iload hx hb dX12_letGo_246 (lv_at hl 3 rfl) ?_
      refine lv_aload_n hx hb dX12_letGo_248 rfl (lv_at hl 0 rfl) ?_
      refine va_get (D := D) (ci := 11) (v := .int zdogs) (C := RX12) (T := TX12) (N := 23) hx hb ht in_X12 hown hK.1 hP 0 rfl rfl 0 (by decide) (ht _ mF_X12_63) (fun _ h9 => h9) rfl dX12_letGo_249 ?_
      refine lv_icmp_ge (tgt := 305) hx hb dX12_letGo_252 (by decide) (fun hc => ?_) (fun hc => ?_)
      · have hw := hw.1 hc
        exact hret _ H locs _ _ ⟨_, _, _, _, rfl, hw⟩ hP hS dX12_letGo_305
      · have hw := hw.2 hc
        refine lv_aload_n hx hb dX12_letGo_255 rfl (lv_at hl 0 rfl) ?_
        refine va_get (D := D) (ci := 11) (v := .ref q6) (C := RX12) (T := TX12) (N := 23) hx hb ht in_X12 hown hK.1 hP 0 rfl rfl 15 (by decide) (ht _ mF_X12_45) (fun _ h9 => h9) rfl dX12_letGo_256 ?_
        refine lv_iload hx hb dX12_letGo_259 (lv_at hl 3 rfl) ?_
        refine lv_dup2_11 hx hb dX12_letGo_261 rfl rfl ?_
        obtain ⟨hin, hw⟩ := hw
        refine va_iald (D := D) hx hb hK.1 hP 6 0 rfl rfl hin dX12_letGo_262 ?_
        refine lv_aload_n hx hb dX12_letGo_263 rfl (lv_at hl 0 rfl) ?_
        refine va_get (D := D) (ci := 11) (v := .ref q5) (C := RX12) (T := TX12) (N := 23) hx hb ht in_X12 hown hK.1 hP 0 rfl rfl 14 (by decide) (ht _ mF_X12_42) (fun _ h9 => h9) rfl dX12_letGo_264 ?_
        refine lv_iload hx hb dX12_letGo_267 (lv_at hl 3 rfl) ?_
        obtain ⟨hin, hw⟩ := hw
        refine va_iald (D := D) hx hb hK.1 hP 5 0 rfl rfl hin dX12_letGo_269 ?_
        refine jn_walk hw (fun J297 => ∀ (t_7 : Int32) (H : Heap) (locs : List Loc) (ls : Array Slot), J297 t_7 → va_P D vwCl [(q0, .inr (11, [.int zdogs, .ref q1, .ref q2, u0, .ref q3, u1, .int zhungry, u2, u3, u4, u5, u6, u7, .ref q4, .ref q5, .ref q6, .int zatLeft_2, .int zatRight_3, u8, u9, u10, u11, u12])), (q1, .inl (ci, 7, .inl zhalves)), (q2, .inl (ci, 7, .inl zlikes)), (q3, .inl (ci, 7, .inl zfears)), (q4, .inl (ci, 7, .inl zorder)), (q5, .inl (ci, 7, .inl zwent_4)), (q6, .inl (ci, 7, .inl zfill_6))] H → va_S A s.heap H locs → lv_has ls 8 [(0, .ref q0), (1, .int a1), (2, .int a2), (4, .int x4_5)] → W p l e R s m args below meth c H locs 0 0 Q (F0 m 297 ls [.int t_7, .int (zfill_6 (x4_5).toNatClampNeg), .int x4_5, .ref q6])) ?_ ?_
        · intro t_7 H locs ls hw hP hS hl
          have hD : va_D A [(q0, .inr (11, [.int zdogs, .ref q1, .ref q2, u0, .ref q3, u1, .int zhungry, u2, u3, u4, u5, u6, u7, .ref q4, .ref q5, .ref q6, .int zatLeft_2, .int zatRight_3, u8, u9, u10, u11, u12])), (q1, .inl (ci, 7, .inl zhalves)), (q2, .inl (ci, 7, .inl zlikes)), (q3, .inl (ci, 7, .inl zfears)), (q4, .inl (ci, 7, .inl zorder)), (q5, .inl (ci, 7, .inl zwent_4)), (q6, .inl (ci, 7, .inl zfill_6))] := gD_re hD rfl
          refine lv_iadd hx hb dX12_letGo_297 ?_
          obtain ⟨hin, hw⟩ := hw
          refine va_iast (D := D) hx hb hK.1 hP hD hS 6 0 rfl rfl hin dX12_letGo_298 (fun H locs hP hD hS => ?_)
          have hP : va_P D vwCl [(q0, .inr (11, [.int zdogs, .ref q1, .ref q2, u0, .ref q3, u1, .int zhungry, u2, u3, u4, u5, u6, u7, .ref q4, .ref q5, .ref q6, .int zatLeft_2, .int zatRight_3, u8, u9, u10, u11, u12])), (q1, .inl (ci, 7, .inl zhalves)), (q2, .inl (ci, 7, .inl zlikes)), (q3, .inl (ci, 7, .inl zfears)), (q4, .inl (ci, 7, .inl zorder)), (q5, .inl (ci, 7, .inl zwent_4)), (q6, .inl (ci, 7, .inl (upd zfill_6 (x4_5).toNatClampNeg ((zfill_6 (x4_5).toNatClampNeg) + t_7))))] H := hP
          have hD : va_D A [(q0, .inr (11, [.int zdogs, .ref q1, .ref q2, u0, .ref q3, u1, .int zhungry, u2, u3, u4, u5, u6, u7, .ref q4, .ref q5, .ref q6, .int zatLeft_2, .int zatRight_3, u8, u9, u10, u11, u12])), (q1, .inl (ci, 7, .inl zhalves)), (q2, .inl (ci, 7, .inl zlikes)), (q3, .inl (ci, 7, .inl zfears)), (q4, .inl (ci, 7, .inl zorder)), (q5, .inl (ci, 7, .inl zwent_4)), (q6, .inl (ci, 7, .inl (upd zfill_6 (x4_5).toNatClampNeg ((zfill_6 (x4_5).toNatClampNeg) + t_7))))] := hD
          refine lv_iinc (v := (x4_5 + (1 : Int32))) (lv' := [(4, .int (x4_5 + (1 : Int32))), (0, .ref q0), (1, .int a1), (2, .int a2)]) hx hb dX12_letGo_299 hl (k := 3) rfl rfl (by decide) rfl (fun ls hl => ?_)
          refine lv_goto (tgt := 246) hx hb dX12_letGo_302 (by decide) ?_
          exact hG246 _ _ H locs ls hw hP hS (lv_sub hl [1, 2, 3, 0] rfl)
        · intro J297 hJ297 hw
          refine jn_walk hw (fun J292 => ∀  (H : Heap) (locs : List Loc) (ls : Array Slot), J292 → va_P D vwCl [(q0, .inr (11, [.int zdogs, .ref q1, .ref q2, u0, .ref q3, u1, .int zhungry, u2, u3, u4, u5, u6, u7, .ref q4, .ref q5, .ref q6, .int zatLeft_2, .int zatRight_3, u8, u9, u10, u11, u12])), (q1, .inl (ci, 7, .inl zhalves)), (q2, .inl (ci, 7, .inl zlikes)), (q3, .inl (ci, 7, .inl zfears)), (q4, .inl (ci, 7, .inl zorder)), (q5, .inl (ci, 7, .inl zwent_4)), (q6, .inl (ci, 7, .inl zfill_6))] H → va_S A s.heap H locs → lv_has ls 8 [(0, .ref q0), (1, .int a1), (2, .int a2), (4, .int x4_5)] → W p l e R s m args below meth c H locs 0 0 Q (F0 m 292 ls [.int (zfill_6 (x4_5).toNatClampNeg), .int x4_5, .ref q6])) ?_ ?_
          · intro  H locs ls hw hP hS hl
            have hD : va_D A [(q0, .inr (11, [.int zdogs, .ref q1, .ref q2, u0, .ref q3, u1, .int zhungry, u2, u3, u4, u5, u6, u7, .ref q4, .ref q5, .ref q6, .int zatLeft_2, .int zatRight_3, u8, u9, u10, u11, u12])), (q1, .inl (ci, 7, .inl zhalves)), (q2, .inl (ci, 7, .inl zlikes)), (q3, .inl (ci, 7, .inl zfears)), (q4, .inl (ci, 7, .inl zorder)), (q5, .inl (ci, 7, .inl zwent_4)), (q6, .inl (ci, 7, .inl zfill_6))] := gD_re hD rfl
            refine lv_iconst (v := (1 : Int32)) hx hb dX12_letGo_292 (by decide) ?_
            refine lv_goto (tgt := 297) hx hb dX12_letGo_293 (by decide) ?_
            exact hJ297 _ H locs ls hw hP hS (lv_sub hl [0, 1, 2, 3] rfl)
          · intro J292 hJ292 hw
            refine jn_walk hw (fun J277 => ∀  (H : Heap) (locs : List Loc) (ls : Array Slot), J277 → va_P D vwCl [(q0, .inr (11, [.int zdogs, .ref q1, .ref q2, u0, .ref q3, u1, .int zhungry, u2, u3, u4, u5, u6, u7, .ref q4, .ref q5, .ref q6, .int zatLeft_2, .int zatRight_3, u8, u9, u10, u11, u12])), (q1, .inl (ci, 7, .inl zhalves)), (q2, .inl (ci, 7, .inl zlikes)), (q3, .inl (ci, 7, .inl zfears)), (q4, .inl (ci, 7, .inl zorder)), (q5, .inl (ci, 7, .inl zwent_4)), (q6, .inl (ci, 7, .inl zfill_6))] H → va_S A s.heap H locs → lv_has ls 8 [(0, .ref q0), (1, .int a1), (2, .int a2), (4, .int x4_5)] → W p l e R s m args below meth c H locs 0 0 Q (F0 m 277 ls [.int (zfill_6 (x4_5).toNatClampNeg), .int x4_5, .ref q6])) ?_ ?_
            · intro  H locs ls hw hP hS hl
              have hD : va_D A [(q0, .inr (11, [.int zdogs, .ref q1, .ref q2, u0, .ref q3, u1, .int zhungry, u2, u3, u4, u5, u6, u7, .ref q4, .ref q5, .ref q6, .int zatLeft_2, .int zatRight_3, u8, u9, u10, u11, u12])), (q1, .inl (ci, 7, .inl zhalves)), (q2, .inl (ci, 7, .inl zlikes)), (q3, .inl (ci, 7, .inl zfears)), (q4, .inl (ci, 7, .inl zorder)), (q5, .inl (ci, 7, .inl zwent_4)), (q6, .inl (ci, 7, .inl zfill_6))] := gD_re hD rfl
              refine lv_aload_n hx hb dX12_letGo_277 rfl (lv_at hl 0 rfl) ?_
              refine va_get (D := D) (ci := 11) (v := .ref q5) (C := RX12) (T := TX12) (N := 23) hx hb ht in_X12 hown hK.1 hP 0 rfl rfl 14 (by decide) (ht _ mF_X12_42) (fun _ h9 => h9) rfl dX12_letGo_278 ?_
              refine lv_iload hx hb dX12_letGo_281 (lv_at hl 3 rfl) ?_
              obtain ⟨hin, hw⟩ := hw
              refine va_iald (D := D) hx hb hK.1 hP 5 0 rfl rfl hin dX12_letGo_283 ?_
              refine lv_iconst (v := (1 : Int32)) hx hb dX12_letGo_284 (by decide) ?_
              refine jn_walk hw (fun J296 => ∀  (H : Heap) (locs : List Loc) (ls : Array Slot), J296 → va_P D vwCl [(q0, .inr (11, [.int zdogs, .ref q1, .ref q2, u0, .ref q3, u1, .int zhungry, u2, u3, u4, u5, u6, u7, .ref q4, .ref q5, .ref q6, .int zatLeft_2, .int zatRight_3, u8, u9, u10, u11, u12])), (q1, .inl (ci, 7, .inl zhalves)), (q2, .inl (ci, 7, .inl zlikes)), (q3, .inl (ci, 7, .inl zfears)), (q4, .inl (ci, 7, .inl zorder)), (q5, .inl (ci, 7, .inl zwent_4)), (q6, .inl (ci, 7, .inl zfill_6))] H → va_S A s.heap H locs → lv_has ls 8 [(0, .ref q0), (1, .int a1), (2, .int a2), (4, .int x4_5)] → W p l e R s m args below meth c H locs 0 0 Q (F0 m 296 ls [.int (zfill_6 (x4_5).toNatClampNeg), .int x4_5, .ref q6])) ?_ ?_
              · intro  H locs ls hw hP hS hl
                have hD : va_D A [(q0, .inr (11, [.int zdogs, .ref q1, .ref q2, u0, .ref q3, u1, .int zhungry, u2, u3, u4, u5, u6, u7, .ref q4, .ref q5, .ref q6, .int zatLeft_2, .int zatRight_3, u8, u9, u10, u11, u12])), (q1, .inl (ci, 7, .inl zhalves)), (q2, .inl (ci, 7, .inl zlikes)), (q3, .inl (ci, 7, .inl zfears)), (q4, .inl (ci, 7, .inl zorder)), (q5, .inl (ci, 7, .inl zwent_4)), (q6, .inl (ci, 7, .inl zfill_6))] := gD_re hD rfl
                refine lv_iconst (v := (0 : Int32)) hx hb dX12_letGo_296 (by decide) ?_
                exact hJ297 _ H locs ls hw hP hS (lv_sub hl [0, 1, 2, 3] rfl)
              · intro J296 hJ296 hw
                refine lv_icmp_ne (tgt := 296) hx hb dX12_letGo_285 (by decide) (fun hc => ?_) (fun hc => ?_)
                · have hw := hw.1 hc
                  exact hJ296  H locs ls hw hP hS (lv_sub hl [0, 1, 2, 3] rfl)
                · have hw := hw.2 hc
                  refine lv_iload_n hx hb dX12_letGo_288 rfl (lv_at hl 2 rfl) ?_
                  refine lv_if_le (tgt := 296) hx hb dX12_letGo_289 (by decide) (fun hc => ?_) (fun hc => ?_)
                  · have hw := hw.1 hc
                    exact hJ296  H locs ls hw hP hS (lv_sub hl [0, 1, 2, 3] rfl)
                  · have hw := hw.2 hc
                    exact hJ292  H locs ls hw hP hS (lv_sub hl [0, 1, 2, 3] rfl)
            · intro J277 hJ277 hw
              refine lv_if_ne (tgt := 277) hx hb dX12_letGo_270 (by decide) (fun hc => ?_) (fun hc => ?_)
              · have hw := hw.1 hc
                exact hJ277  H locs ls hw hP hS (lv_sub hl [0, 1, 2, 3] rfl)
              · have hw := hw.2 hc
                refine lv_iload_n hx hb dX12_letGo_273 rfl (lv_at hl 1 rfl) ?_
                refine lv_if_gt (tgt := 292) hx hb dX12_letGo_274 (by decide) (fun hc => ?_) (fun hc => ?_)
                · have hw := hw.1 hc
                  exact hJ292  H locs ls hw hP hS (lv_sub hl [0, 1, 2, 3] rfl)
                · have hw := hw.2 hc
                  exact hJ277  H locs ls hw hP hS (lv_sub hl [0, 1, 2, 3] rfl)
    · intro J243 hJ243 hw
      refine lo_walk hw (fun G37 => ∀ (x4_8 : Int32) (zatLeft_9 : Int32) (zatRight_10 : Int32) (zwent_11 : Nat → Int32) (H : Heap) (locs : List Loc) (ls : Array Slot), G37 x4_8 zatLeft_9 zatRight_10 zwent_11 → va_P D vwCl [(q0, .inr (11, [.int zdogs, .ref q1, .ref q2, u0, .ref q3, u1, .int zhungry, u2, u3, u4, u5, u6, u7, .ref q4, .ref q5, .ref q6, .int zatLeft_9, .int zatRight_10, u8, u9, u10, u11, u12])), (q1, .inl (ci, 7, .inl zhalves)), (q2, .inl (ci, 7, .inl zlikes)), (q3, .inl (ci, 7, .inl zfears)), (q4, .inl (ci, 7, .inl zorder)), (q5, .inl (ci, 7, .inl zwent_11)), (q6, .inl (ci, 7, .inl zfill))] H → va_S A s.heap H locs → lv_has ls 8 [(0, .ref q0), (1, .int a1), (2, .int a2), (3, .int a3), (4, .int x4_8)] → W p l e R s m args below meth c H locs 0 0 Q (F0 m 37 ls [])) (fun _ _ _ _ _ _ _ hw _ _ _ => False.elim hw) (fun G37 hG37 x4_8 zatLeft_9 zatRight_10 zwent_11 H locs ls hw hP hS hl => ?_) (fun G37 hG37 hw => hG37 _ _ _ _ H locs ls hw hP hS (lv_sub hl [1, 2, 3, 4, 0] rfl))
      have hD : va_D A [(q0, .inr (11, [.int zdogs, .ref q1, .ref q2, u0, .ref q3, u1, .int zhungry, u2, u3, u4, u5, u6, u7, .ref q4, .ref q5, .ref q6, .int zatLeft_9, .int zatRight_10, u8, u9, u10, u11, u12])), (q1, .inl (ci, 7, .inl zhalves)), (q2, .inl (ci, 7, .inl zlikes)), (q3, .inl (ci, 7, .inl zfears)), (q4, .inl (ci, 7, .inl zorder)), (q5, .inl (ci, 7, .inl zwent_11)), (q6, .inl (ci, 7, .inl zfill))] := gD_re hD rfl
      refine lv_iload hx hb dX12_letGo_37 (lv_at hl 4 rfl) ?_
      refine lv_aload_n hx hb dX12_letGo_39 rfl (lv_at hl 0 rfl) ?_
      refine va_get (D := D) (ci := 11) (v := .int zdogs) (C := RX12) (T := TX12) (N := 23) hx hb ht in_X12 hown hK.1 hP 0 rfl rfl 0 (by decide) (ht _ mF_X12_63) (fun _ h9 => h9) rfl dX12_letGo_40 ?_
      refine lv_icmp_ge (tgt := 243) hx hb dX12_letGo_43 (by decide) (fun hc => ?_) (fun hc => ?_)
      · have hw := hw.1 hc
        exact hJ243 _ _ _ H locs ls hw hP hS (lv_sub hl [0, 1, 2] rfl)
      · have hw := hw.2 hc
        refine lv_aload_n hx hb dX12_letGo_46 rfl (lv_at hl 0 rfl) ?_
        refine va_get (D := D) (ci := 11) (v := .ref q4) (C := RX12) (T := TX12) (N := 23) hx hb ht in_X12 hown hK.1 hP 0 rfl rfl 13 (by decide) (ht _ mF_X12_39) (fun _ h9 => h9) rfl dX12_letGo_47 ?_
        refine lv_iload hx hb dX12_letGo_50 (lv_at hl 4 rfl) ?_
        obtain ⟨hin, hw⟩ := hw
        refine va_iald (D := D) hx hb hK.1 hP 4 0 rfl rfl hin dX12_letGo_52 ?_
        refine lv_istore (lv' := [(5, .int (zorder (x4_8).toNatClampNeg)), (0, .ref q0), (1, .int a1), (2, .int a2), (3, .int a3), (4, .int x4_8)]) hx hb dX12_letGo_53 hl (by decide) rfl (fun ls hl => ?_)
        refine lv_aload_n hx hb dX12_letGo_55 rfl (lv_at hl 1 rfl) ?_
        refine va_get (D := D) (ci := 11) (v := .ref q1) (C := RX12) (T := TX12) (N := 23) hx hb ht in_X12 hown hK.1 hP 0 rfl rfl 1 (by decide) (ht _ mF_X12_7) (fun _ h9 => h9) rfl dX12_letGo_56 ?_
        refine lv_iload hx hb dX12_letGo_59 (lv_at hl 0 rfl) ?_
        obtain ⟨hin, hw⟩ := hw
        refine va_iald (D := D) hx hb hK.1 hP 1 0 rfl rfl hin dX12_letGo_61 ?_
        refine lv_if_le (tgt := 237) hx hb dX12_letGo_62 (by decide) (fun hc => ?_) (fun hc => ?_)
        · have hw := hw.1 hc
          refine lv_iinc (v := (x4_8 + (1 : Int32))) (lv' := [(4, .int (x4_8 + (1 : Int32))), (5, .int (zorder (x4_8).toNatClampNeg)), (0, .ref q0), (1, .int a1), (2, .int a2), (3, .int a3)]) hx hb dX12_letGo_237 hl (k := 5) rfl rfl (by decide) rfl (fun ls hl => ?_)
          refine lv_goto (tgt := 37) hx hb dX12_letGo_240 (by decide) ?_
          exact hG37 _ _ _ _ H locs ls hw hP hS (lv_sub hl [2, 3, 4, 5, 0] rfl)
        · have hw := hw.2 hc
          refine lv_iload hx hb dX12_letGo_65 (lv_at hl 0 rfl) ?_
          refine lv_iload_n hx hb dX12_letGo_67 rfl (lv_at hl 4 rfl) ?_
          refine lv_icmp_eq (tgt := 237) hx hb dX12_letGo_68 (by decide) (fun hc => ?_) (fun hc => ?_)
          · have hw := hw.1 hc
            refine lv_iinc (v := (x4_8 + (1 : Int32))) (lv' := [(4, .int (x4_8 + (1 : Int32))), (5, .int (zorder (x4_8).toNatClampNeg)), (0, .ref q0), (1, .int a1), (2, .int a2), (3, .int a3)]) hx hb dX12_letGo_237 hl (k := 5) rfl rfl (by decide) rfl (fun ls hl => ?_)
            refine lv_goto (tgt := 37) hx hb dX12_letGo_240 (by decide) ?_
            exact hG37 _ _ _ _ H locs ls hw hP hS (lv_sub hl [2, 3, 4, 5, 0] rfl)
          · have hw := hw.2 hc
            refine lv_aload_n hx hb dX12_letGo_71 rfl (lv_at hl 1 rfl) ?_
            refine va_get (D := D) (ci := 11) (v := .ref q2) (C := RX12) (T := TX12) (N := 23) hx hb ht in_X12 hown hK.1 hP 0 rfl rfl 2 (by decide) (ht _ mF_X12_13) (fun _ h9 => h9) rfl dX12_letGo_72 ?_
            refine lv_iload hx hb dX12_letGo_75 (lv_at hl 0 rfl) ?_
            obtain ⟨hin, hw⟩ := hw
            refine va_iald (D := D) hx hb hK.1 hP 2 0 rfl rfl hin dX12_letGo_77 ?_
            refine lv_aload_n hx hb dX12_letGo_78 rfl (lv_at hl 1 rfl) ?_
            refine va_get (D := D) (ci := 11) (v := .ref q6) (C := RX12) (T := TX12) (N := 23) hx hb ht in_X12 hown hK.1 hP 0 rfl rfl 15 (by decide) (ht _ mF_X12_45) (fun _ h9 => h9) rfl dX12_letGo_79 ?_
            refine lv_iload hx hb dX12_letGo_82 (lv_at hl 0 rfl) ?_
            obtain ⟨hin, hw⟩ := hw
            refine va_iald (D := D) hx hb hK.1 hP 6 0 rfl rfl hin dX12_letGo_84 ?_
            refine lv_aload_n hx hb dX12_letGo_85 rfl (lv_at hl 1 rfl) ?_
            refine va_get (D := D) (ci := 11) (v := .int zhungry) (C := RX12) (T := TX12) (N := 23) hx hb ht in_X12 hown hK.1 hP 0 rfl rfl 6 (by decide) (ht _ mF_X12_26) (fun _ h9 => h9) rfl dX12_letGo_86 ?_
            refine jn_walk hw (fun J99 => ∀ (t_12 : Int32) (H : Heap) (locs : List Loc) (ls : Array Slot), J99 t_12 → va_P D vwCl [(q0, .inr (11, [.int zdogs, .ref q1, .ref q2, u0, .ref q3, u1, .int zhungry, u2, u3, u4, u5, u6, u7, .ref q4, .ref q5, .ref q6, .int zatLeft_9, .int zatRight_10, u8, u9, u10, u11, u12])), (q1, .inl (ci, 7, .inl zhalves)), (q2, .inl (ci, 7, .inl zlikes)), (q3, .inl (ci, 7, .inl zfears)), (q4, .inl (ci, 7, .inl zorder)), (q5, .inl (ci, 7, .inl zwent_11)), (q6, .inl (ci, 7, .inl zfill))] H → va_S A s.heap H locs → lv_has ls 8 [(0, .ref q0), (1, .int a1), (2, .int a2), (3, .int a3), (4, .int x4_8), (5, .int (zorder (x4_8).toNatClampNeg))] → W p l e R s m args below meth c H locs 0 0 Q (F0 m 99 ls [.int t_12, .int (zlikes ((zorder (x4_8).toNatClampNeg)).toNatClampNeg)])) ?_ ?_
            · intro t_12 H locs ls hw hP hS hl
              have hD : va_D A [(q0, .inr (11, [.int zdogs, .ref q1, .ref q2, u0, .ref q3, u1, .int zhungry, u2, u3, u4, u5, u6, u7, .ref q4, .ref q5, .ref q6, .int zatLeft_9, .int zatRight_10, u8, u9, u10, u11, u12])), (q1, .inl (ci, 7, .inl zhalves)), (q2, .inl (ci, 7, .inl zlikes)), (q3, .inl (ci, 7, .inl zfears)), (q4, .inl (ci, 7, .inl zorder)), (q5, .inl (ci, 7, .inl zwent_11)), (q6, .inl (ci, 7, .inl zfill))] := gD_re hD rfl
              refine lv_iadd hx hb dX12_letGo_99 ?_
              refine lv_istore (lv' := [(6, .int ((zlikes ((zorder (x4_8).toNatClampNeg)).toNatClampNeg) + t_12)), (0, .ref q0), (1, .int a1), (2, .int a2), (3, .int a3), (4, .int x4_8), (5, .int (zorder (x4_8).toNatClampNeg))]) hx hb dX12_letGo_100 hl (by decide) rfl (fun ls hl => ?_)
              refine lv_iload hx hb dX12_letGo_102 (lv_at hl 0 rfl) ?_
              refine jn_walk hw (fun J136 => ∀ (t_13 : Int32) (H : Heap) (locs : List Loc) (ls : Array Slot), J136 t_13 → va_P D vwCl [(q0, .inr (11, [.int zdogs, .ref q1, .ref q2, u0, .ref q3, u1, .int zhungry, u2, u3, u4, u5, u6, u7, .ref q4, .ref q5, .ref q6, .int zatLeft_9, .int zatRight_10, u8, u9, u10, u11, u12])), (q1, .inl (ci, 7, .inl zhalves)), (q2, .inl (ci, 7, .inl zlikes)), (q3, .inl (ci, 7, .inl zfears)), (q4, .inl (ci, 7, .inl zorder)), (q5, .inl (ci, 7, .inl zwent_11)), (q6, .inl (ci, 7, .inl zfill))] H → va_S A s.heap H locs → lv_has ls 8 [(0, .ref q0), (1, .int a1), (2, .int a2), (3, .int a3), (4, .int x4_8), (5, .int (zorder (x4_8).toNatClampNeg))] → W p l e R s m args below meth c H locs 0 0 Q (F0 m 136 ls [.int t_13])) ?_ ?_
              · intro t_13 H locs ls hw hP hS hl
                have hD : va_D A [(q0, .inr (11, [.int zdogs, .ref q1, .ref q2, u0, .ref q3, u1, .int zhungry, u2, u3, u4, u5, u6, u7, .ref q4, .ref q5, .ref q6, .int zatLeft_9, .int zatRight_10, u8, u9, u10, u11, u12])), (q1, .inl (ci, 7, .inl zhalves)), (q2, .inl (ci, 7, .inl zlikes)), (q3, .inl (ci, 7, .inl zfears)), (q4, .inl (ci, 7, .inl zorder)), (q5, .inl (ci, 7, .inl zwent_11)), (q6, .inl (ci, 7, .inl zfill))] := gD_re hD rfl
                refine lv_istore (lv' := [(7, .int t_13), (0, .ref q0), (1, .int a1), (2, .int a2), (3, .int a3), (4, .int x4_8), (5, .int (zorder (x4_8).toNatClampNeg))]) hx hb dX12_letGo_136 hl (by decide) rfl (fun ls hl => ?_)
                refine lv_aload_n hx hb dX12_letGo_138 rfl (lv_at hl 1 rfl) ?_
                refine lv_iload hx hb dX12_letGo_139 (lv_at hl 6 rfl) ?_
                refine lv_iload hx hb dX12_letGo_141 (lv_at hl 0 rfl) ?_
                refine gcalli (va_runV (As := [.int (zorder (x4_8).toNatClampNeg), .int t_13]) (rest := []) ⟨hx, hb, hml, hown, ht⟩ (c_X12_isFeared l D ci cz tr q0 q3 q5 H.size (.ref q1) (.ref q2) u0 u1 (.int zhungry) u2 u3 u4 u5 u6 u7 (.ref q4) (.ref q6) (.int zatLeft_9) (.int zatRight_10) u8 u9 u10 u11 u12 zdogs zfears zwent_11 (zorder (x4_8).toNatClampNeg) t_13 _ hw) (cwV 2 ht (gi_V mM_X12_94 mI_X12_isFeared mS_X12_isFeared mN_X12 mC_X12_isFeared) rfl rfl rfl (by decide +kernel) ⟨Nat.le_trans (Nat.le_of_ble_eq_true rfl) hfr, Nat.le_trans (Nat.le_of_ble_eq_true rfl) hlc⟩) (gpreV (wc := [(q0, .inr (11, [.int zdogs, .ref q1, .ref q2, u0, .ref q3, u1, .int zhungry, u2, u3, u4, u5, u6, u7, .ref q4, .ref q5, .ref q6, .int zatLeft_9, .int zatRight_10, u8, u9, u10, u11, u12])), (q3, .inl (ci, 7, .inl zfears)), (q5, .inl (ci, 7, .inl zwent_11))]) (k := 11) (q0 := 0) hK hZ hP hD hS hA [0, 3, 5] rfl rfl rfl rfl rfl) rfl rfl hl.1 rfl (lv_room (Nat.le_of_ble_eq_true rfl)) dX12_letGo_143 ⟨Nat.zero_le _, Nat.zero_le _⟩) hD hS hA [0, 3, 5] rfl (fun r_14 w9 H locs hw hP9 hk9 hS => ?_)
                obtain ⟨rfl, hw⟩ := hw
                have hP : va_P D vwCl [(q0, .inr (11, [.int zdogs, .ref q1, .ref q2, u0, .ref q3, u1, .int zhungry, u2, u3, u4, u5, u6, u7, .ref q4, .ref q5, .ref q6, .int zatLeft_9, .int zatRight_10, u8, u9, u10, u11, u12])), (q1, .inl (ci, 7, .inl zhalves)), (q2, .inl (ci, 7, .inl zlikes)), (q3, .inl (ci, 7, .inl zfears)), (q4, .inl (ci, 7, .inl zorder)), (q5, .inl (ci, 7, .inl zwent_11)), (q6, .inl (ci, 7, .inl zfill))] H := gjoin3 hP hD [0, 3, 5] hP9 hk9 rfl rfl [some 0, none, none, some 1, none, some 2, none] rfl rfl
                clear hP9 hk9
                refine jn_walk hw (fun J175 => ∀ (t_15 : Int32) (H : Heap) (locs : List Loc) (ls : Array Slot), J175 t_15 → va_P D vwCl [(q0, .inr (11, [.int zdogs, .ref q1, .ref q2, u0, .ref q3, u1, .int zhungry, u2, u3, u4, u5, u6, u7, .ref q4, .ref q5, .ref q6, .int zatLeft_9, .int zatRight_10, u8, u9, u10, u11, u12])), (q1, .inl (ci, 7, .inl zhalves)), (q2, .inl (ci, 7, .inl zlikes)), (q3, .inl (ci, 7, .inl zfears)), (q4, .inl (ci, 7, .inl zorder)), (q5, .inl (ci, 7, .inl zwent_11)), (q6, .inl (ci, 7, .inl zfill))] H → va_S A s.heap H locs → lv_has ls 8 [(0, .ref q0), (1, .int a1), (2, .int a2), (3, .int a3), (4, .int x4_8), (5, .int (zorder (x4_8).toNatClampNeg))] → W p l e R s m args below meth c H locs 0 0 Q (F0 m 175 ls [.int t_15])) ?_ ?_
                · intro t_15 H locs ls hw hP hS hl
                  have hD : va_D A [(q0, .inr (11, [.int zdogs, .ref q1, .ref q2, u0, .ref q3, u1, .int zhungry, u2, u3, u4, u5, u6, u7, .ref q4, .ref q5, .ref q6, .int zatLeft_9, .int zatRight_10, u8, u9, u10, u11, u12])), (q1, .inl (ci, 7, .inl zhalves)), (q2, .inl (ci, 7, .inl zlikes)), (q3, .inl (ci, 7, .inl zfears)), (q4, .inl (ci, 7, .inl zorder)), (q5, .inl (ci, 7, .inl zwent_11)), (q6, .inl (ci, 7, .inl zfill))] := gD_re hD rfl
                  refine lv_istore (lv' := [(7, .int t_15), (0, .ref q0), (1, .int a1), (2, .int a2), (3, .int a3), (4, .int x4_8), (5, .int (zorder (x4_8).toNatClampNeg))]) hx hb dX12_letGo_175 hl (by decide) rfl (fun ls hl => ?_)
                  refine lv_aload_n hx hb dX12_letGo_177 rfl (lv_at hl 1 rfl) ?_
                  refine va_get (D := D) (ci := 11) (v := .ref q5) (C := RX12) (T := TX12) (N := 23) hx hb ht in_X12 hown hK.1 hP 0 rfl rfl 14 (by decide) (ht _ mF_X12_42) (fun _ h9 => h9) rfl dX12_letGo_178 ?_
                  refine lv_iload hx hb dX12_letGo_181 (lv_at hl 6 rfl) ?_
                  refine lv_iload hx hb dX12_letGo_183 (lv_at hl 0 rfl) ?_
                  obtain ⟨hin, hw⟩ := hw
                  refine va_iast (D := D) hx hb hK.1 hP hD hS 5 0 rfl rfl hin dX12_letGo_185 (fun H locs hP hD hS => ?_)
                  have hP : va_P D vwCl [(q0, .inr (11, [.int zdogs, .ref q1, .ref q2, u0, .ref q3, u1, .int zhungry, u2, u3, u4, u5, u6, u7, .ref q4, .ref q5, .ref q6, .int zatLeft_9, .int zatRight_10, u8, u9, u10, u11, u12])), (q1, .inl (ci, 7, .inl zhalves)), (q2, .inl (ci, 7, .inl zlikes)), (q3, .inl (ci, 7, .inl zfears)), (q4, .inl (ci, 7, .inl zorder)), (q5, .inl (ci, 7, .inl (upd zwent_11 ((zorder (x4_8).toNatClampNeg)).toNatClampNeg t_15))), (q6, .inl (ci, 7, .inl zfill))] H := hP
                  have hD : va_D A [(q0, .inr (11, [.int zdogs, .ref q1, .ref q2, u0, .ref q3, u1, .int zhungry, u2, u3, u4, u5, u6, u7, .ref q4, .ref q5, .ref q6, .int zatLeft_9, .int zatRight_10, u8, u9, u10, u11, u12])), (q1, .inl (ci, 7, .inl zhalves)), (q2, .inl (ci, 7, .inl zlikes)), (q3, .inl (ci, 7, .inl zfears)), (q4, .inl (ci, 7, .inl zorder)), (q5, .inl (ci, 7, .inl (upd zwent_11 ((zorder (x4_8).toNatClampNeg)).toNatClampNeg t_15))), (q6, .inl (ci, 7, .inl zfill))] := hD
                  refine lv_aload_n hx hb dX12_letGo_186 rfl (lv_at hl 1 rfl) ?_
                  refine lv_dup hx hb dX12_letGo_187 rfl ?_
                  refine va_get (D := D) (ci := 11) (v := .int zatLeft_9) (C := RX12) (T := TX12) (N := 23) hx hb ht in_X12 hown hK.1 hP 0 rfl rfl 16 (by decide) (ht _ mF_X12_88) (fun _ h9 => h9) rfl dX12_letGo_188 ?_
                  refine lv_iload hx hb dX12_letGo_191 (lv_at hl 0 rfl) ?_
                  refine jn_walk hw (fun J207 => ∀ (t_16 : Int32) (H : Heap) (locs : List Loc) (ls : Array Slot), J207 t_16 → va_P D vwCl [(q0, .inr (11, [.int zdogs, .ref q1, .ref q2, u0, .ref q3, u1, .int zhungry, u2, u3, u4, u5, u6, u7, .ref q4, .ref q5, .ref q6, .int zatLeft_9, .int zatRight_10, u8, u9, u10, u11, u12])), (q1, .inl (ci, 7, .inl zhalves)), (q2, .inl (ci, 7, .inl zlikes)), (q3, .inl (ci, 7, .inl zfears)), (q4, .inl (ci, 7, .inl zorder)), (q5, .inl (ci, 7, .inl (upd zwent_11 ((zorder (x4_8).toNatClampNeg)).toNatClampNeg t_15))), (q6, .inl (ci, 7, .inl zfill))] H → va_S A s.heap H locs → lv_has ls 8 [(0, .ref q0), (1, .int a1), (2, .int a2), (3, .int a3), (4, .int x4_8), (5, .int (zorder (x4_8).toNatClampNeg)), (7, .int t_15)] → W p l e R s m args below meth c H locs 0 0 Q (F0 m 207 ls [.int t_16, .int zatLeft_9, .ref q0])) ?_ ?_
                  · intro t_16 H locs ls hw hP hS hl
                    have hD : va_D A [(q0, .inr (11, [.int zdogs, .ref q1, .ref q2, u0, .ref q3, u1, .int zhungry, u2, u3, u4, u5, u6, u7, .ref q4, .ref q5, .ref q6, .int zatLeft_9, .int zatRight_10, u8, u9, u10, u11, u12])), (q1, .inl (ci, 7, .inl zhalves)), (q2, .inl (ci, 7, .inl zlikes)), (q3, .inl (ci, 7, .inl zfears)), (q4, .inl (ci, 7, .inl zorder)), (q5, .inl (ci, 7, .inl (upd zwent_11 ((zorder (x4_8).toNatClampNeg)).toNatClampNeg t_15))), (q6, .inl (ci, 7, .inl zfill))] := gD_re hD rfl
                    refine lv_iadd hx hb dX12_letGo_207 ?_
                    refine va_put (D := D) (ci := 11) (v := .int (zatLeft_9 + t_16)) (ty := .int) (C := RX12) (T := TX12) (N := 23) hx hb ht in_X12 tyX12 tyX12_ok nmX12 hown hK.1 hP hD hS 0 rfl rfl 16 (by decide) (ht _ mF_X12_88) (fun _ h9 => h9) rfl (by decide +kernel) rfl rfl (Nat.le_of_ble_eq_true rfl) dX12_letGo_208 (fun H locs hP hD hS => ?_)
                    have hP : va_P D vwCl [(q0, .inr (11, [.int zdogs, .ref q1, .ref q2, u0, .ref q3, u1, .int zhungry, u2, u3, u4, u5, u6, u7, .ref q4, .ref q5, .ref q6, .int (zatLeft_9 + t_16), .int zatRight_10, u8, u9, u10, u11, u12])), (q1, .inl (ci, 7, .inl zhalves)), (q2, .inl (ci, 7, .inl zlikes)), (q3, .inl (ci, 7, .inl zfears)), (q4, .inl (ci, 7, .inl zorder)), (q5, .inl (ci, 7, .inl (upd zwent_11 ((zorder (x4_8).toNatClampNeg)).toNatClampNeg t_15))), (q6, .inl (ci, 7, .inl zfill))] H := hP
                    have hD : va_D A [(q0, .inr (11, [.int zdogs, .ref q1, .ref q2, u0, .ref q3, u1, .int zhungry, u2, u3, u4, u5, u6, u7, .ref q4, .ref q5, .ref q6, .int (zatLeft_9 + t_16), .int zatRight_10, u8, u9, u10, u11, u12])), (q1, .inl (ci, 7, .inl zhalves)), (q2, .inl (ci, 7, .inl zlikes)), (q3, .inl (ci, 7, .inl zfears)), (q4, .inl (ci, 7, .inl zorder)), (q5, .inl (ci, 7, .inl (upd zwent_11 ((zorder (x4_8).toNatClampNeg)).toNatClampNeg t_15))), (q6, .inl (ci, 7, .inl zfill))] := hD
                    refine lv_aload_n hx hb dX12_letGo_211 rfl (lv_at hl 0 rfl) ?_
                    refine lv_dup hx hb dX12_letGo_212 rfl ?_
                    refine va_get (D := D) (ci := 11) (v := .int zatRight_10) (C := RX12) (T := TX12) (N := 23) hx hb ht in_X12 hown hK.1 hP 0 rfl rfl 17 (by decide) (ht _ mF_X12_91) (fun _ h9 => h9) rfl dX12_letGo_213 ?_
                    refine lv_iload hx hb dX12_letGo_216 (lv_at hl 6 rfl) ?_
                    refine lv_iconst (v := (1 : Int32)) hx hb dX12_letGo_218 (by decide) ?_
                    refine jn_walk hw (fun J233 => ∀ (t_17 : Int32) (H : Heap) (locs : List Loc) (ls : Array Slot), J233 t_17 → va_P D vwCl [(q0, .inr (11, [.int zdogs, .ref q1, .ref q2, u0, .ref q3, u1, .int zhungry, u2, u3, u4, u5, u6, u7, .ref q4, .ref q5, .ref q6, .int (zatLeft_9 + t_16), .int zatRight_10, u8, u9, u10, u11, u12])), (q1, .inl (ci, 7, .inl zhalves)), (q2, .inl (ci, 7, .inl zlikes)), (q3, .inl (ci, 7, .inl zfears)), (q4, .inl (ci, 7, .inl zorder)), (q5, .inl (ci, 7, .inl (upd zwent_11 ((zorder (x4_8).toNatClampNeg)).toNatClampNeg t_15))), (q6, .inl (ci, 7, .inl zfill))] H → va_S A s.heap H locs → lv_has ls 8 [(0, .ref q0), (1, .int a1), (2, .int a2), (3, .int a3), (4, .int x4_8)] → W p l e R s m args below meth c H locs 0 0 Q (F0 m 233 ls [.int t_17, .int zatRight_10, .ref q0])) ?_ ?_
                    · intro t_17 H locs ls hw hP hS hl
                      have hD : va_D A [(q0, .inr (11, [.int zdogs, .ref q1, .ref q2, u0, .ref q3, u1, .int zhungry, u2, u3, u4, u5, u6, u7, .ref q4, .ref q5, .ref q6, .int (zatLeft_9 + t_16), .int zatRight_10, u8, u9, u10, u11, u12])), (q1, .inl (ci, 7, .inl zhalves)), (q2, .inl (ci, 7, .inl zlikes)), (q3, .inl (ci, 7, .inl zfears)), (q4, .inl (ci, 7, .inl zorder)), (q5, .inl (ci, 7, .inl (upd zwent_11 ((zorder (x4_8).toNatClampNeg)).toNatClampNeg t_15))), (q6, .inl (ci, 7, .inl zfill))] := gD_re hD rfl
                      refine lv_iadd hx hb dX12_letGo_233 ?_
                      refine va_put (D := D) (ci := 11) (v := .int (zatRight_10 + t_17)) (ty := .int) (C := RX12) (T := TX12) (N := 23) hx hb ht in_X12 tyX12 tyX12_ok nmX12 hown hK.1 hP hD hS 0 rfl rfl 17 (by decide) (ht _ mF_X12_91) (fun _ h9 => h9) rfl (by decide +kernel) rfl rfl (Nat.le_of_ble_eq_true rfl) dX12_letGo_234 (fun H locs hP hD hS => ?_)
                      have hP : va_P D vwCl [(q0, .inr (11, [.int zdogs, .ref q1, .ref q2, u0, .ref q3, u1, .int zhungry, u2, u3, u4, u5, u6, u7, .ref q4, .ref q5, .ref q6, .int (zatLeft_9 + t_16), .int (zatRight_10 + t_17), u8, u9, u10, u11, u12])), (q1, .inl (ci, 7, .inl zhalves)), (q2, .inl (ci, 7, .inl zlikes)), (q3, .inl (ci, 7, .inl zfears)), (q4, .inl (ci, 7, .inl zorder)), (q5, .inl (ci, 7, .inl (upd zwent_11 ((zorder (x4_8).toNatClampNeg)).toNatClampNeg t_15))), (q6, .inl (ci, 7, .inl zfill))] H := hP
                      have hD : va_D A [(q0, .inr (11, [.int zdogs, .ref q1, .ref q2, u0, .ref q3, u1, .int zhungry, u2, u3, u4, u5, u6, u7, .ref q4, .ref q5, .ref q6, .int (zatLeft_9 + t_16), .int (zatRight_10 + t_17), u8, u9, u10, u11, u12])), (q1, .inl (ci, 7, .inl zhalves)), (q2, .inl (ci, 7, .inl zlikes)), (q3, .inl (ci, 7, .inl zfears)), (q4, .inl (ci, 7, .inl zorder)), (q5, .inl (ci, 7, .inl (upd zwent_11 ((zorder (x4_8).toNatClampNeg)).toNatClampNeg t_15))), (q6, .inl (ci, 7, .inl zfill))] := hD
                      refine lv_iinc (v := (x4_8 + (1 : Int32))) (lv' := [(4, .int (x4_8 + (1 : Int32))), (0, .ref q0), (1, .int a1), (2, .int a2), (3, .int a3)]) hx hb dX12_letGo_237 hl (k := 4) rfl rfl (by decide) rfl (fun ls hl => ?_)
                      refine lv_goto (tgt := 37) hx hb dX12_letGo_240 (by decide) ?_
                      exact hG37 _ _ _ _ H locs ls hw hP hS (lv_sub hl [1, 2, 3, 4, 0] rfl)
                    · intro J233 hJ233 hw
                      refine lv_icmp_ne (tgt := 232) hx hb dX12_letGo_219 (by decide) (fun hc => ?_) (fun hc => ?_)
                      · have hw := hw.1 hc
                        refine lv_iconst (v := (0 : Int32)) hx hb dX12_letGo_232 (by decide) ?_
                        exact hJ233 _ H locs ls hw hP hS (lv_sub hl [0, 1, 2, 3, 4] rfl)
                      · have hw := hw.2 hc
                        refine lv_aload_n hx hb dX12_letGo_222 rfl (lv_at hl 0 rfl) ?_
                        refine va_get (D := D) (ci := 11) (v := .ref q1) (C := RX12) (T := TX12) (N := 23) hx hb ht in_X12 hown hK.1 hP 0 rfl rfl 1 (by decide) (ht _ mF_X12_7) (fun _ h9 => h9) rfl dX12_letGo_223 ?_
                        refine lv_iload hx hb dX12_letGo_226 (lv_at hl 5 rfl) ?_
                        obtain ⟨hin, hw⟩ := hw
                        refine va_iald (D := D) hx hb hK.1 hP 1 0 rfl rfl hin dX12_letGo_228 ?_
                        refine lv_goto (tgt := 233) hx hb dX12_letGo_229 (by decide) ?_
                        exact hJ233 _ H locs ls hw hP hS (lv_sub hl [0, 1, 2, 3, 4] rfl)
                  · intro J207 hJ207 hw
                    refine lv_if_ne (tgt := 206) hx hb dX12_letGo_193 (by decide) (fun hc => ?_) (fun hc => ?_)
                    · have hw := hw.1 hc
                      refine lv_iconst (v := (0 : Int32)) hx hb dX12_letGo_206 (by decide) ?_
                      exact hJ207 _ H locs ls hw hP hS (lv_sub hl [1, 2, 3, 4, 5, 6, 0] rfl)
                    · have hw := hw.2 hc
                      refine lv_aload_n hx hb dX12_letGo_196 rfl (lv_at hl 1 rfl) ?_
                      refine va_get (D := D) (ci := 11) (v := .ref q1) (C := RX12) (T := TX12) (N := 23) hx hb ht in_X12 hown hK.1 hP 0 rfl rfl 1 (by decide) (ht _ mF_X12_7) (fun _ h9 => h9) rfl dX12_letGo_197 ?_
                      refine lv_iload hx hb dX12_letGo_200 (lv_at hl 6 rfl) ?_
                      obtain ⟨hin, hw⟩ := hw
                      refine va_iald (D := D) hx hb hK.1 hP 1 0 rfl rfl hin dX12_letGo_202 ?_
                      refine lv_goto (tgt := 207) hx hb dX12_letGo_203 (by decide) ?_
                      exact hJ207 _ H locs ls hw hP hS (lv_sub hl [1, 2, 3, 4, 5, 6, 0] rfl)
                · intro J175 hJ175 hw
                  refine lv_if_ne (tgt := 154) hx hb dX12_letGo_146 (by decide) (fun hc => ?_) (fun hc => ?_)
                  · have hw := hw.1 hc
                    refine lv_aload_n hx hb dX12_letGo_154 rfl (lv_at hl 1 rfl) ?_
                    refine lv_iload hx hb dX12_letGo_155 (lv_at hl 6 rfl) ?_
                    refine lv_iconst (v := (1 : Int32)) hx hb dX12_letGo_157 (by decide) ?_
                    refine lv_iload hx hb dX12_letGo_158 (lv_at hl 0 rfl) ?_
                    refine lv_isub hx hb dX12_letGo_160 ?_
                    refine gcalli (va_runV (As := [.int (zorder (x4_8).toNatClampNeg), .int ((1 : Int32) - t_13)]) (rest := []) ⟨hx, hb, hml, hown, ht⟩ (c_X12_isFeared l D ci cz tr q0 q3 q5 H.size (.ref q1) (.ref q2) u0 u1 (.int zhungry) u2 u3 u4 u5 u6 u7 (.ref q4) (.ref q6) (.int zatLeft_9) (.int zatRight_10) u8 u9 u10 u11 u12 zdogs zfears zwent_11 (zorder (x4_8).toNatClampNeg) ((1 : Int32) - t_13) _ hw) (cwV 2 ht (gi_V mM_X12_94 mI_X12_isFeared mS_X12_isFeared mN_X12 mC_X12_isFeared) rfl rfl rfl (by decide +kernel) ⟨Nat.le_trans (Nat.le_of_ble_eq_true rfl) hfr, Nat.le_trans (Nat.le_of_ble_eq_true rfl) hlc⟩) (gpreV (wc := [(q0, .inr (11, [.int zdogs, .ref q1, .ref q2, u0, .ref q3, u1, .int zhungry, u2, u3, u4, u5, u6, u7, .ref q4, .ref q5, .ref q6, .int zatLeft_9, .int zatRight_10, u8, u9, u10, u11, u12])), (q3, .inl (ci, 7, .inl zfears)), (q5, .inl (ci, 7, .inl zwent_11))]) (k := 11) (q0 := 0) hK hZ hP hD hS hA [0, 3, 5] rfl rfl rfl rfl rfl) rfl rfl hl.1 rfl (lv_room (Nat.le_of_ble_eq_true rfl)) dX12_letGo_161 ⟨Nat.zero_le _, Nat.zero_le _⟩) hD hS hA [0, 3, 5] rfl (fun r_18 w9 H locs hw hP9 hk9 hS => ?_)
                    obtain ⟨rfl, hw⟩ := hw
                    have hP : va_P D vwCl [(q0, .inr (11, [.int zdogs, .ref q1, .ref q2, u0, .ref q3, u1, .int zhungry, u2, u3, u4, u5, u6, u7, .ref q4, .ref q5, .ref q6, .int zatLeft_9, .int zatRight_10, u8, u9, u10, u11, u12])), (q1, .inl (ci, 7, .inl zhalves)), (q2, .inl (ci, 7, .inl zlikes)), (q3, .inl (ci, 7, .inl zfears)), (q4, .inl (ci, 7, .inl zorder)), (q5, .inl (ci, 7, .inl zwent_11)), (q6, .inl (ci, 7, .inl zfill))] H := gjoin3 hP hD [0, 3, 5] hP9 hk9 rfl rfl [some 0, none, none, some 1, none, some 2, none] rfl rfl
                    clear hP9 hk9
                    refine lv_if_ne (tgt := 174) hx hb dX12_letGo_164 (by decide) (fun hc => ?_) (fun hc => ?_)
                    · have hw := hw.1 hc
                      refine lv_iconst (v := (2 : Int32)) hx hb dX12_letGo_174 (by decide) ?_
                      exact hJ175 _ H locs ls hw hP hS (lv_sub hl [1, 2, 3, 4, 5, 6] rfl)
                    · have hw := hw.2 hc
                      refine lv_iconst (v := (1 : Int32)) hx hb dX12_letGo_167 (by decide) ?_
                      refine lv_iload hx hb dX12_letGo_168 (lv_at hl 0 rfl) ?_
                      refine lv_isub hx hb dX12_letGo_170 ?_
                      refine lv_goto (tgt := 175) hx hb dX12_letGo_171 (by decide) ?_
                      exact hJ175 _ H locs ls hw hP hS (lv_sub hl [1, 2, 3, 4, 5, 6] rfl)
                  · have hw := hw.2 hc
                    refine lv_iload hx hb dX12_letGo_149 (lv_at hl 0 rfl) ?_
                    refine lv_goto (tgt := 175) hx hb dX12_letGo_151 (by decide) ?_
                    exact hJ175 _ H locs ls hw hP hS (lv_sub hl [1, 2, 3, 4, 5, 6] rfl)
              · intro J136 hJ136 hw
                refine lv_if_le (tgt := 111) hx hb dX12_letGo_104 (by decide) (fun hc => ?_) (fun hc => ?_)
                · have hw := hw.1 hc
                  refine lv_iload hx hb dX12_letGo_111 (lv_at hl 0 rfl) ?_
                  refine lv_if_ge (tgt := 120) hx hb dX12_letGo_113 (by decide) (fun hc => ?_) (fun hc => ?_)
                  · have hw := hw.1 hc
                    refine lv_aload_n hx hb dX12_letGo_120 rfl (lv_at hl 1 rfl) ?_
                    refine va_get (D := D) (ci := 11) (v := .int zatRight_10) (C := RX12) (T := TX12) (N := 23) hx hb ht in_X12 hown hK.1 hP 0 rfl rfl 17 (by decide) (ht _ mF_X12_91) (fun _ h9 => h9) rfl dX12_letGo_121 ?_
                    refine lv_aload_n hx hb dX12_letGo_124 rfl (lv_at hl 1 rfl) ?_
                    refine va_get (D := D) (ci := 11) (v := .int zatLeft_9) (C := RX12) (T := TX12) (N := 23) hx hb ht in_X12 hown hK.1 hP 0 rfl rfl 16 (by decide) (ht _ mF_X12_88) (fun _ h9 => h9) rfl dX12_letGo_125 ?_
                    refine lv_icmp_le (tgt := 135) hx hb dX12_letGo_128 (by decide) (fun hc => ?_) (fun hc => ?_)
                    · have hw := hw.1 hc
                      refine lv_iconst (v := (0 : Int32)) hx hb dX12_letGo_135 (by decide) ?_
                      exact hJ136 _ H locs ls hw hP hS (lv_sub hl [1, 2, 3, 4, 5, 6] rfl)
                    · have hw := hw.2 hc
                      refine lv_iconst (v := (1 : Int32)) hx hb dX12_letGo_131 (by decide) ?_
                      refine lv_goto (tgt := 136) hx hb dX12_letGo_132 (by decide) ?_
                      exact hJ136 _ H locs ls hw hP hS (lv_sub hl [1, 2, 3, 4, 5, 6] rfl)
                  · have hw := hw.2 hc
                    refine lv_iconst (v := (1 : Int32)) hx hb dX12_letGo_116 (by decide) ?_
                    refine lv_goto (tgt := 136) hx hb dX12_letGo_117 (by decide) ?_
                    exact hJ136 _ H locs ls hw hP hS (lv_sub hl [1, 2, 3, 4, 5, 6] rfl)
                · have hw := hw.2 hc
                  refine lv_iconst (v := (0 : Int32)) hx hb dX12_letGo_107 (by decide) ?_
                  refine lv_goto (tgt := 136) hx hb dX12_letGo_108 (by decide) ?_
                  exact hJ136 _ H locs ls hw hP hS (lv_sub hl [1, 2, 3, 4, 5, 6] rfl)
            · intro J99 hJ99 hw
              refine lv_icmp_lt (tgt := 96) hx hb dX12_letGo_89 (by decide) (fun hc => ?_) (fun hc => ?_)
              · have hw := hw.1 hc
                refine lv_iload_n hx hb dX12_letGo_96 rfl (lv_at hl 2 rfl) ?_
                refine lv_iload_n hx hb dX12_letGo_97 rfl (lv_at hl 3 rfl) ?_
                refine lv_isub hx hb dX12_letGo_98 ?_
                exact hJ99 _ H locs ls hw hP hS (lv_sub hl [1, 2, 3, 4, 5, 0] rfl)
              · have hw := hw.2 hc
                refine lv_iconst (v := (0 : Int32)) hx hb dX12_letGo_92 (by decide) ?_
                refine lv_goto (tgt := 99) hx hb dX12_letGo_93 (by decide) ?_
                exact hJ99 _ H locs ls hw hP hS (lv_sub hl [1, 2, 3, 4, 5, 0] rfl)
  · intro J34 hJ34 hw
    refine lo_walk hw (fun G13 => ∀ (x4_19 : Int32) (zwent_20 : Nat → Int32) (H : Heap) (locs : List Loc) (ls : Array Slot), G13 x4_19 zwent_20 → va_P D vwCl [(q0, .inr (11, [.int zdogs, .ref q1, .ref q2, u0, .ref q3, u1, .int zhungry, u2, u3, u4, u5, u6, u7, .ref q4, .ref q5, .ref q6, .int (0 : Int32), .int (0 : Int32), u8, u9, u10, u11, u12])), (q1, .inl (ci, 7, .inl zhalves)), (q2, .inl (ci, 7, .inl zlikes)), (q3, .inl (ci, 7, .inl zfears)), (q4, .inl (ci, 7, .inl zorder)), (q5, .inl (ci, 7, .inl zwent_20)), (q6, .inl (ci, 7, .inl zfill))] H → va_S A s.heap H locs → lv_has ls 8 [(0, .ref q0), (1, .int a1), (2, .int a2), (3, .int a3), (4, .int x4_19)] → W p l e R s m args below meth c H locs 0 0 Q (F0 m 13 ls [])) (fun _ _ _ _ _ hw _ _ _ => False.elim hw) (fun G13 hG13 x4_19 zwent_20 H locs ls hw hP hS hl => ?_) (fun G13 hG13 hw => hG13 _ _ H locs ls hw hP hS (lv_sub hl [1, 2, 3, 4, 0] rfl))
    have hD : va_D A [(q0, .inr (11, [.int zdogs, .ref q1, .ref q2, u0, .ref q3, u1, .int zhungry, u2, u3, u4, u5, u6, u7, .ref q4, .ref q5, .ref q6, .int (0 : Int32), .int (0 : Int32), u8, u9, u10, u11, u12])), (q1, .inl (ci, 7, .inl zhalves)), (q2, .inl (ci, 7, .inl zlikes)), (q3, .inl (ci, 7, .inl zfears)), (q4, .inl (ci, 7, .inl zorder)), (q5, .inl (ci, 7, .inl zwent_20)), (q6, .inl (ci, 7, .inl zfill))] := gD_re hD rfl
    refine lv_iload hx hb dX12_letGo_13 (lv_at hl 4 rfl) ?_
    refine lv_bipush (v := (7 : Int32)) hx hb dX12_letGo_15 (by decide) ?_
    refine lv_icmp_ge (tgt := 34) hx hb dX12_letGo_17 (by decide) (fun hc => ?_) (fun hc => ?_)
    · have hw := hw.1 hc
      exact hJ34 _ H locs ls hw hP hS (lv_sub hl [0, 1, 2, 3] rfl)
    · have hw := hw.2 hc
      refine lv_aload_n hx hb dX12_letGo_20 rfl (lv_at hl 0 rfl) ?_
      refine va_get (D := D) (ci := 11) (v := .ref q5) (C := RX12) (T := TX12) (N := 23) hx hb ht in_X12 hown hK.1 hP 0 rfl rfl 14 (by decide) (ht _ mF_X12_42) (fun _ h9 => h9) rfl dX12_letGo_21 ?_
      refine lv_iload hx hb dX12_letGo_24 (lv_at hl 4 rfl) ?_
      refine lv_iconst (v := (2 : Int32)) hx hb dX12_letGo_26 (by decide) ?_
      obtain ⟨hin, hw⟩ := hw
      refine va_iast (D := D) hx hb hK.1 hP hD hS 5 0 rfl rfl hin dX12_letGo_27 (fun H locs hP hD hS => ?_)
      have hP : va_P D vwCl [(q0, .inr (11, [.int zdogs, .ref q1, .ref q2, u0, .ref q3, u1, .int zhungry, u2, u3, u4, u5, u6, u7, .ref q4, .ref q5, .ref q6, .int (0 : Int32), .int (0 : Int32), u8, u9, u10, u11, u12])), (q1, .inl (ci, 7, .inl zhalves)), (q2, .inl (ci, 7, .inl zlikes)), (q3, .inl (ci, 7, .inl zfears)), (q4, .inl (ci, 7, .inl zorder)), (q5, .inl (ci, 7, .inl (upd zwent_20 (x4_19).toNatClampNeg (2 : Int32)))), (q6, .inl (ci, 7, .inl zfill))] H := hP
      have hD : va_D A [(q0, .inr (11, [.int zdogs, .ref q1, .ref q2, u0, .ref q3, u1, .int zhungry, u2, u3, u4, u5, u6, u7, .ref q4, .ref q5, .ref q6, .int (0 : Int32), .int (0 : Int32), u8, u9, u10, u11, u12])), (q1, .inl (ci, 7, .inl zhalves)), (q2, .inl (ci, 7, .inl zlikes)), (q3, .inl (ci, 7, .inl zfears)), (q4, .inl (ci, 7, .inl zorder)), (q5, .inl (ci, 7, .inl (upd zwent_20 (x4_19).toNatClampNeg (2 : Int32)))), (q6, .inl (ci, 7, .inl zfill))] := hD
      refine lv_iinc (v := (x4_19 + (1 : Int32))) (lv' := [(4, .int (x4_19 + (1 : Int32))), (0, .ref q0), (1, .int a1), (2, .int a2), (3, .int a3)]) hx hb dX12_letGo_28 hl (k := 4) rfl rfl (by decide) rfl (fun ls hl => ?_)
      refine lv_goto (tgt := 13) hx hb dX12_letGo_31 (by decide) ?_
      exact hG13 _ _ H locs ls hw hP hS (lv_sub hl [1, 2, 3, 4, 0] rfl)

def wp_X12_winner (zatLeft : Int32) (zatRight : Int32)  (post : Int32 → Prop) : Prop :=
  ((zatLeft ≤ zatRight → ((zatRight ≤ zatLeft → post (2 : Int32) ) ∧ (¬ zatRight ≤ zatLeft → post (1 : Int32) ))) ∧ (¬ zatLeft ≤ zatRight → post (0 : Int32) ))
set_option maxHeartbeats 4000000 in
set_option maxRecDepth 100000 in
theorem c_X12_winner (l : Launch) (D : va_G) (ci cz : ClassId) (tr : List (ClassId × FieldType)) (q0 : Nat) (sz : Nat) (u0 u1 u2 u3 u4 u5 u6 u7 u8 u9 u10 u11 u12 u13 u14 u15 u16 u17 u18 u19 u20 : Value) (zatLeft : Int32) (zatRight : Int32)  (post : Int32 → Prop) (hw : wp_X12_winner zatLeft zatRight post) : gM l yX12_winner cX12_winner 1 (some .int) 0 0 D ci cz tr [(q0, .inr (11, [u0, u1, u2, u3, u4, u5, u6, u7, u8, u9, u10, u11, u12, u13, u14, u15, .int zatLeft, .int zatRight, u16, u17, u18, u19, u20]))] sz [.ref q0] (gQi D [(q0, .inr (11, [u0, u1, u2, u3, u4, u5, u6, u7, u8, u9, u10, u11, u12, u13, u14, u15, .int zatLeft, .int zatRight, u16, u17, u18, u19, u20]))] sz (fun (r : Int32) w => w = [(q0, .inr (11, [u0, u1, u2, u3, u4, u5, u6, u7, u8, u9, u10, u11, u12, u13, u14, u15, .int zatLeft, .int zatRight, u16, u17, u18, u19, u20]))] ∧ post r )) := by
  refine gmet_i RX12 (by decide +kernel) rfl (Nat.le_of_ble_eq_true rfl) ?_
  intro p e s m args below meth c A R Q C hfr hlc hP hD hret ls hl
  obtain ⟨hx, hb, hml, hown, ht, hK, hZ, hA⟩ := C
  have hl : lv_has ls 1 [(0, .ref q0)] := hl
  unfold wp_X12_winner at hw
  refine g_in (fun H locs => W p l e R s m args below meth c H locs 0 0 Q (F0 m 0 ls [])) (fun H locs hS0 hP => ?_) hP (va_S.rf (A := A) (H0 := s.heap))
  have hS : va_S A s.heap H locs := hS0
  clear hS0
  refine lv_aload_n hx hb dX12_winner_0 rfl (lv_at hl 0 rfl) ?_
  refine va_get (D := D) (ci := 11) (v := .int zatLeft) (C := RX12) (T := TX12) (N := 23) hx hb ht in_X12 hown hK.1 hP 0 rfl rfl 16 (by decide) (ht _ mF_X12_88) (fun _ h9 => h9) rfl dX12_winner_1 ?_
  refine lv_aload_n hx hb dX12_winner_4 rfl (lv_at hl 0 rfl) ?_
  refine va_get (D := D) (ci := 11) (v := .int zatRight) (C := RX12) (T := TX12) (N := 23) hx hb ht in_X12 hown hK.1 hP 0 rfl rfl 17 (by decide) (ht _ mF_X12_91) (fun _ h9 => h9) rfl dX12_winner_5 ?_
  refine lv_icmp_le (tgt := 15) hx hb dX12_winner_8 (by decide) (fun hc => ?_) (fun hc => ?_)
  · have hw := hw.1 hc
    refine lv_aload_n hx hb dX12_winner_15 rfl (lv_at hl 0 rfl) ?_
    refine va_get (D := D) (ci := 11) (v := .int zatRight) (C := RX12) (T := TX12) (N := 23) hx hb ht in_X12 hown hK.1 hP 0 rfl rfl 17 (by decide) (ht _ mF_X12_91) (fun _ h9 => h9) rfl dX12_winner_16 ?_
    refine lv_aload_n hx hb dX12_winner_19 rfl (lv_at hl 0 rfl) ?_
    refine va_get (D := D) (ci := 11) (v := .int zatLeft) (C := RX12) (T := TX12) (N := 23) hx hb ht in_X12 hown hK.1 hP 0 rfl rfl 16 (by decide) (ht _ mF_X12_88) (fun _ h9 => h9) rfl dX12_winner_20 ?_
    refine lv_icmp_le (tgt := 30) hx hb dX12_winner_23 (by decide) (fun hc => ?_) (fun hc => ?_)
    · have hw := hw.1 hc
      refine lv_iconst (v := (2 : Int32)) hx hb dX12_winner_30 (by decide) ?_
      exact hret _ _ H locs _ _ ⟨rfl, hw⟩ hP hS dX12_winner_31
    · have hw := hw.2 hc
      refine lv_iconst (v := (1 : Int32)) hx hb dX12_winner_26 (by decide) ?_
      refine lv_goto (tgt := 31) hx hb dX12_winner_27 (by decide) ?_
      exact hret _ _ H locs _ _ ⟨rfl, hw⟩ hP hS dX12_winner_31
  · have hw := hw.2 hc
    refine lv_iconst (v := (0 : Int32)) hx hb dX12_winner_11 (by decide) ?_
    refine lv_goto (tgt := 31) hx hb dX12_winner_12 (by decide) ?_
    exact hret _ _ H locs _ _ ⟨rfl, hw⟩ hP hS dX12_winner_31

def wp_X12_best (zdogs : Int32) (zhungry : Int32) (zasked : Int32) (zatLeft : Int32) (zatRight : Int32) (zhalves : Nat → Int32) (zlikes : Nat → Int32) (zfears : Nat → Int32) (zquestion : Nat → Int32) (zorder : Nat → Int32) (zwent : Nat → Int32) (zfill : Nat → Int32) (zevening : Nat → Int32) (a1 : Int32) (post : Int32 → Int32 → Int32 → (Nat → Int32) → (Nat → Int32) → (Nat → Int32) → (Nat → Int32) → Prop) : Prop :=
  jn (fun (x2_1 : Int32) => wp_X12_byLetters zorder (fun (zorder_3 : Nat → Int32) => jn (fun (x3_4 : Int32) (x4_5 : Int32) (zatLeft_6 : Int32) (zatRight_7 : Int32) (zwent_8 : Nat → Int32) (zfill_9 : Nat → Int32) (zevening_10 : Nat → Int32) => wp_X12_layEvening zasked zevening_10 x4_5 (fun (r_11 : Int32) (zevening_12 : Nat → Int32) => ((¬ a1 = (-1 : Int32) → ((r_11 = 0 → post (-6 : Int32) zatLeft_6 zatRight_7 zorder_3 zwent_8 zfill_9 zevening_12) ∧ (¬ r_11 = 0 → wp_X12_in a1 (0 : Int32) (zasked - (1 : Int32)) (fun (r_13 : Int32) => ((r_13 = 0 → post (-6 : Int32) zatLeft_6 zatRight_7 zorder_3 zwent_8 zfill_9 zevening_12) ∧ (¬ r_13 = 0 → (vp_in a1 5 ∧ post (zevening_12 (a1).toNatClampNeg) zatLeft_6 zatRight_7 zorder_3 zwent_8 zfill_9 zevening_12))))))) ∧ (a1 = (-1 : Int32) → post x3_4 zatLeft_6 zatRight_7 zorder_3 zwent_8 zfill_9 zevening_12)))) (fun (J160 : Int32 → Int32 → Int32 → Int32 → (Nat → Int32) → (Nat → Int32) → (Nat → Int32) → Prop) => lo (fun _ _ _ _ _ _ _ _ => False) (fun (G39 : Int32 → Int32 → Int32 → Int32 → Int32 → (Nat → Int32) → (Nat → Int32) → (Nat → Int32) → Prop) (x3_14 : Int32) (x4_15 : Int32) (x5_16 : Int32) (zatLeft_17 : Int32) (zatRight_18 : Int32) (zwent_19 : Nat → Int32) (zfill_20 : Nat → Int32) (zevening_21 : Nat → Int32) => ((x2_1 ≤ x5_16 → J160 x3_14 x4_15 zatLeft_17 zatRight_18 zwent_19 zfill_20 zevening_21) ∧ (¬ x2_1 ≤ x5_16 → wp_X12_layEvening zasked zevening_21 x5_16 (fun (r_22 : Int32) (zevening_23 : Nat → Int32) => ((r_22 = 0 → G39 x3_14 x4_15 (x5_16 + (1 : Int32)) zatLeft_17 zatRight_18 zwent_19 zfill_20 zevening_23) ∧ (¬ r_22 = 0 → wp_X12_nobodyFull zfill_20 (fun (zfill_25 : Nat → Int32) => jn (fun (x6_26 : Int32) (zatLeft_27 : Int32) (zatRight_28 : Int32) (zwent_29 : Nat → Int32) (zfill_30 : Nat → Int32) => ((x6_26 ≤ x3_14 → G39 x3_14 x4_15 (x5_16 + (1 : Int32)) zatLeft_27 zatRight_28 zwent_29 zfill_30 zevening_23) ∧ (¬ x6_26 ≤ x3_14 → G39 x6_26 x5_16 (x5_16 + (1 : Int32)) zatLeft_27 zatRight_28 zwent_29 zfill_30 zevening_23))) (fun (J141 : Int32 → Int32 → Int32 → (Nat → Int32) → (Nat → Int32) → Prop) => lo (fun _ _ _ _ _ _ => False) (fun (G64 : Int32 → Int32 → Int32 → Int32 → (Nat → Int32) → (Nat → Int32) → Prop) (x6_31 : Int32) (x7_32 : Int32) (zatLeft_33 : Int32) (zatRight_34 : Int32) (zwent_35 : Nat → Int32) (zfill_36 : Nat → Int32) => ((zasked ≤ x7_32 → J141 x6_31 zatLeft_33 zatRight_34 zwent_35 zfill_36) ∧ (¬ zasked ≤ x7_32 → (vp_in x7_32 5 ∧ (vp_in ((3 : Int32) * (zevening_23 (x7_32).toNatClampNeg)) 15 ∧ (vp_in (((3 : Int32) * (zevening_23 (x7_32).toNatClampNeg)) + (1 : Int32)) 15 ∧ wp_X12_letGo zdogs zhungry zatLeft_33 zatRight_34 zhalves zlikes zfears zorder_3 zwent_35 zfill_36 (zquestion (((3 : Int32) * (zevening_23 (x7_32).toNatClampNeg))).toNatClampNeg) (zquestion ((((3 : Int32) * (zevening_23 (x7_32).toNatClampNeg)) + (1 : Int32))).toNatClampNeg) (-6 : Int32) (fun (zatLeft_38 : Int32) (zatRight_39 : Int32) (zwent_40 : Nat → Int32) (zfill_41 : Nat → Int32) => wp_X12_winner zatLeft_38 zatRight_39 (fun (r_42 : Int32) => jn (fun (t_43 : Int32) => G64 (x6_31 + t_43) (x7_32 + (1 : Int32)) zatLeft_38 zatRight_39 zwent_40 zfill_41) (fun (J132 : Int32 → Prop) => ((¬ r_42 = 0 → J132 (0 : Int32)) ∧ (r_42 = 0 → (vp_in (((3 : Int32) * (zevening_23 (x7_32).toNatClampNeg)) + (2 : Int32)) 15 ∧ J132 (zquestion ((((3 : Int32) * (zevening_23 (x7_32).toNatClampNeg)) + (2 : Int32))).toNatClampNeg))))))))))))) (fun G64 => G64 (0 : Int32) (0 : Int32) zatLeft_17 zatRight_18 zwent_19 zfill_25))))))))) (fun G39 => G39 (-6 : Int32) (-6 : Int32) (0 : Int32) zatLeft zatRight zwent zfill zevening)))) (fun (J25 : Int32 → Prop) => lo (fun _ _ => False) (fun (G4 : Int32 → Int32 → Prop) (x2_44 : Int32) (x3_45 : Int32) => ((zasked ≤ x3_45 → J25 x2_44) ∧ (¬ zasked ≤ x3_45 → G4 (x2_44 * zasked) (x3_45 + (1 : Int32))))) (fun G4 => G4 (1 : Int32) (0 : Int32)))
set_option maxHeartbeats 4000000 in
set_option maxRecDepth 100000 in
theorem c_X12_best (l : Launch) (D : va_G) (ci cz : ClassId) (tr : List (ClassId × FieldType)) (q0 q1 q2 q3 q4 q5 q6 q7 q8 : Nat) (sz : Nat) (u0 u1 u2 u3 u4 u5 u6 u7 u8 u9 : Value) (zdogs : Int32) (zhungry : Int32) (zasked : Int32) (zatLeft : Int32) (zatRight : Int32) (zhalves : Nat → Int32) (zlikes : Nat → Int32) (zfears : Nat → Int32) (zquestion : Nat → Int32) (zorder : Nat → Int32) (zwent : Nat → Int32) (zfill : Nat → Int32) (zevening : Nat → Int32) (a1 : Int32) (post : Int32 → Int32 → Int32 → (Nat → Int32) → (Nat → Int32) → (Nat → Int32) → (Nat → Int32) → Prop) (hw : wp_X12_best zdogs zhungry zasked zatLeft zatRight zhalves zlikes zfears zquestion zorder zwent zfill zevening a1 post) : gM l yX12_best cX12_best 9 (some .int) 3 72 D ci cz tr [(q0, .inr (11, [.int zdogs, .ref q1, .ref q2, u0, .ref q3, u1, .int zhungry, u2, u3, .int zasked, .ref q4, u4, u5, .ref q5, .ref q6, .ref q7, .int zatLeft, .int zatRight, u6, u7, .ref q8, u8, u9])), (q1, .inl (ci, 7, .inl zhalves)), (q2, .inl (ci, 7, .inl zlikes)), (q3, .inl (ci, 7, .inl zfears)), (q4, .inl (ci, 15, .inl zquestion)), (q5, .inl (ci, 7, .inl zorder)), (q6, .inl (ci, 7, .inl zwent)), (q7, .inl (ci, 7, .inl zfill)), (q8, .inl (ci, 5, .inl zevening))] sz [.ref q0, .int a1] (gQi D [(q0, .inr (11, [.int zdogs, .ref q1, .ref q2, u0, .ref q3, u1, .int zhungry, u2, u3, .int zasked, .ref q4, u4, u5, .ref q5, .ref q6, .ref q7, .int zatLeft, .int zatRight, u6, u7, .ref q8, u8, u9])), (q1, .inl (ci, 7, .inl zhalves)), (q2, .inl (ci, 7, .inl zlikes)), (q3, .inl (ci, 7, .inl zfears)), (q4, .inl (ci, 15, .inl zquestion)), (q5, .inl (ci, 7, .inl zorder)), (q6, .inl (ci, 7, .inl zwent)), (q7, .inl (ci, 7, .inl zfill)), (q8, .inl (ci, 5, .inl zevening))] sz (fun (r : Int32) w => ∃ (o_zatLeft : Int32) (o_zatRight : Int32) (o_zorder : Nat → Int32) (o_zwent : Nat → Int32) (o_zfill : Nat → Int32) (o_zevening : Nat → Int32), w = [(q0, .inr (11, [.int zdogs, .ref q1, .ref q2, u0, .ref q3, u1, .int zhungry, u2, u3, .int zasked, .ref q4, u4, u5, .ref q5, .ref q6, .ref q7, .int o_zatLeft, .int o_zatRight, u6, u7, .ref q8, u8, u9])), (q1, .inl (ci, 7, .inl zhalves)), (q2, .inl (ci, 7, .inl zlikes)), (q3, .inl (ci, 7, .inl zfears)), (q4, .inl (ci, 15, .inl zquestion)), (q5, .inl (ci, 7, .inl o_zorder)), (q6, .inl (ci, 7, .inl o_zwent)), (q7, .inl (ci, 7, .inl o_zfill)), (q8, .inl (ci, 5, .inl o_zevening))] ∧ post r o_zatLeft o_zatRight o_zorder o_zwent o_zfill o_zevening)) := by
  refine gmet_i RX12 (by decide +kernel) rfl (Nat.le_of_ble_eq_true rfl) ?_
  intro p e s m args below meth c A R Q C hfr hlc hP hD hret ls hl
  obtain ⟨hx, hb, hml, hown, ht, hK, hZ, hA⟩ := C
  have hl : lv_has ls 9 [(0, .ref q0), (1, .int a1)] := hl
  unfold wp_X12_best at hw
  refine g_in (fun H locs => W p l e R s m args below meth c H locs 0 0 Q (F0 m 0 ls [])) (fun H locs hS0 hP => ?_) hP (va_S.rf (A := A) (H0 := s.heap))
  have hS : va_S A s.heap H locs := hS0
  clear hS0
  refine lv_iconst (v := (1 : Int32)) hx hb dX12_best_0 (by decide) ?_
  refine lv_istore_n (lv' := [(2, .int (1 : Int32)), (0, .ref q0), (1, .int a1)]) hx hb dX12_best_1 rfl hl (by decide) rfl (fun ls hl => ?_)
  refine lv_iconst (v := (0 : Int32)) hx hb dX12_best_2 (by decide) ?_
  refine lv_istore_n (lv' := [(3, .int (0 : Int32)), (2, .int (1 : Int32)), (0, .ref q0), (1, .int a1)]) hx hb dX12_best_3 rfl hl (by decide) rfl (fun ls hl => ?_)
  refine jn_walk hw (fun J25 => ∀ (x2_1 : Int32) (H : Heap) (locs : List Loc) (ls : Array Slot), J25 x2_1 → va_P D vwCl [(q0, .inr (11, [.int zdogs, .ref q1, .ref q2, u0, .ref q3, u1, .int zhungry, u2, u3, .int zasked, .ref q4, u4, u5, .ref q5, .ref q6, .ref q7, .int zatLeft, .int zatRight, u6, u7, .ref q8, u8, u9])), (q1, .inl (ci, 7, .inl zhalves)), (q2, .inl (ci, 7, .inl zlikes)), (q3, .inl (ci, 7, .inl zfears)), (q4, .inl (ci, 15, .inl zquestion)), (q5, .inl (ci, 7, .inl zorder)), (q6, .inl (ci, 7, .inl zwent)), (q7, .inl (ci, 7, .inl zfill)), (q8, .inl (ci, 5, .inl zevening))] H → va_S A s.heap H locs → lv_has ls 9 [(0, .ref q0), (1, .int a1), (2, .int x2_1)] → W p l e R s m args below meth c H locs 0 0 Q (F0 m 25 ls [])) ?_ ?_
  · intro x2_1 H locs ls hw hP hS hl
    have hD : va_D A [(q0, .inr (11, [.int zdogs, .ref q1, .ref q2, u0, .ref q3, u1, .int zhungry, u2, u3, .int zasked, .ref q4, u4, u5, .ref q5, .ref q6, .ref q7, .int zatLeft, .int zatRight, u6, u7, .ref q8, u8, u9])), (q1, .inl (ci, 7, .inl zhalves)), (q2, .inl (ci, 7, .inl zlikes)), (q3, .inl (ci, 7, .inl zfears)), (q4, .inl (ci, 15, .inl zquestion)), (q5, .inl (ci, 7, .inl zorder)), (q6, .inl (ci, 7, .inl zwent)), (q7, .inl (ci, 7, .inl zfill)), (q8, .inl (ci, 5, .inl zevening))] := gD_re hD rfl
    refine lv_bipush (v := (-6 : Int32)) hx hb dX12_best_25 (by decide) ?_
    refine lv_istore_n (lv' := [(3, .int (-6 : Int32)), (0, .ref q0), (1, .int a1), (2, .int x2_1)]) hx hb dX12_best_27 rfl hl (by decide) rfl (fun ls hl => ?_)
    refine lv_bipush (v := (-6 : Int32)) hx hb dX12_best_28 (by decide) ?_
    refine lv_istore (lv' := [(4, .int (-6 : Int32)), (3, .int (-6 : Int32)), (0, .ref q0), (1, .int a1), (2, .int x2_1)]) hx hb dX12_best_30 hl (by decide) rfl (fun ls hl => ?_)
    refine lv_aload_n hx hb dX12_best_32 rfl (lv_at hl 2 rfl) ?_
    refine gcallv (va_runV (As := []) (rest := []) ⟨hx, hb, hml, hown, ht⟩ (c_X12_byLetters l D ci cz tr q0 q5 H.size (.int zdogs) (.ref q1) (.ref q2) u0 (.ref q3) u1 (.int zhungry) u2 u3 (.int zasked) (.ref q4) u4 u5 (.ref q6) (.ref q7) (.int zatLeft) (.int zatRight) u6 u7 (.ref q8) u8 u9 zorder _ hw) (cwV 0 ht (gi_V mM_X12_97 mI_X12_byLetters mS_X12_byLetters mN_X12 mC_X12_byLetters) rfl rfl rfl (by decide +kernel) ⟨Nat.le_trans (Nat.le_of_ble_eq_true rfl) hfr, Nat.le_trans (Nat.le_of_ble_eq_true rfl) hlc⟩) (gpreV (wc := [(q0, .inr (11, [.int zdogs, .ref q1, .ref q2, u0, .ref q3, u1, .int zhungry, u2, u3, .int zasked, .ref q4, u4, u5, .ref q5, .ref q6, .ref q7, .int zatLeft, .int zatRight, u6, u7, .ref q8, u8, u9])), (q5, .inl (ci, 7, .inl zorder))]) (k := 11) (q0 := 0) hK hZ hP hD hS hA [0, 5] rfl rfl rfl rfl rfl) rfl rfl hl.1 rfl (lv_room (Nat.le_of_ble_eq_true rfl)) dX12_best_33 ⟨Nat.zero_le _, Nat.zero_le _⟩) hD hS hA [0, 5] rfl (fun w9 H locs hw hP9 hk9 hS => ?_)
    obtain ⟨zorder_3, rfl, hw⟩ := hw
    have hP : va_P D vwCl [(q0, .inr (11, [.int zdogs, .ref q1, .ref q2, u0, .ref q3, u1, .int zhungry, u2, u3, .int zasked, .ref q4, u4, u5, .ref q5, .ref q6, .ref q7, .int zatLeft, .int zatRight, u6, u7, .ref q8, u8, u9])), (q1, .inl (ci, 7, .inl zhalves)), (q2, .inl (ci, 7, .inl zlikes)), (q3, .inl (ci, 7, .inl zfears)), (q4, .inl (ci, 15, .inl zquestion)), (q5, .inl (ci, 7, .inl zorder_3)), (q6, .inl (ci, 7, .inl zwent)), (q7, .inl (ci, 7, .inl zfill)), (q8, .inl (ci, 5, .inl zevening))] H := gjoin3 hP hD [0, 5] hP9 hk9 rfl rfl [some 0, none, none, none, none, some 1, none, none, none] rfl rfl
    have hD : va_D A [(q0, .inr (11, [.int zdogs, .ref q1, .ref q2, u0, .ref q3, u1, .int zhungry, u2, u3, .int zasked, .ref q4, u4, u5, .ref q5, .ref q6, .ref q7, .int zatLeft, .int zatRight, u6, u7, .ref q8, u8, u9])), (q1, .inl (ci, 7, .inl zhalves)), (q2, .inl (ci, 7, .inl zlikes)), (q3, .inl (ci, 7, .inl zfears)), (q4, .inl (ci, 15, .inl zquestion)), (q5, .inl (ci, 7, .inl zorder_3)), (q6, .inl (ci, 7, .inl zwent)), (q7, .inl (ci, 7, .inl zfill)), (q8, .inl (ci, 5, .inl zevening))] := gD_re hD rfl
    clear hP9 hk9
    refine lv_iconst (v := (0 : Int32)) hx hb dX12_best_36 (by decide) ?_
    refine lv_istore (lv' := [(5, .int (0 : Int32)), (4, .int (-6 : Int32)), (3, .int (-6 : Int32)), (0, .ref q0), (1, .int a1), (2, .int x2_1)]) hx hb dX12_best_37 hl (by decide) rfl (fun ls hl => ?_)
    refine jn_walk hw (fun J160 => ∀ (x3_4 : Int32) (x4_5 : Int32) (zatLeft_6 : Int32) (zatRight_7 : Int32) (zwent_8 : Nat → Int32) (zfill_9 : Nat → Int32) (zevening_10 : Nat → Int32) (H : Heap) (locs : List Loc) (ls : Array Slot), J160 x3_4 x4_5 zatLeft_6 zatRight_7 zwent_8 zfill_9 zevening_10 → va_P D vwCl [(q0, .inr (11, [.int zdogs, .ref q1, .ref q2, u0, .ref q3, u1, .int zhungry, u2, u3, .int zasked, .ref q4, u4, u5, .ref q5, .ref q6, .ref q7, .int zatLeft_6, .int zatRight_7, u6, u7, .ref q8, u8, u9])), (q1, .inl (ci, 7, .inl zhalves)), (q2, .inl (ci, 7, .inl zlikes)), (q3, .inl (ci, 7, .inl zfears)), (q4, .inl (ci, 15, .inl zquestion)), (q5, .inl (ci, 7, .inl zorder_3)), (q6, .inl (ci, 7, .inl zwent_8)), (q7, .inl (ci, 7, .inl zfill_9)), (q8, .inl (ci, 5, .inl zevening_10))] H → va_S A s.heap H locs → lv_has ls 9 [(0, .ref q0), (1, .int a1), (3, .int x3_4), (4, .int x4_5)] → W p l e R s m args below meth c H locs 0 0 Q (F0 m 160 ls [])) ?_ ?_
    · intro x3_4 x4_5 zatLeft_6 zatRight_7 zwent_8 zfill_9 zevening_10 H locs ls hw hP hS hl
      have hD : va_D A [(q0, .inr (11, [.int zdogs, .ref q1, .ref q2, u0, .ref q3, u1, .int zhungry, u2, u3, .int zasked, .ref q4, u4, u5, .ref q5, .ref q6, .ref q7, .int zatLeft_6, .int zatRight_7, u6, u7, .ref q8, u8, u9])), (q1, .inl (ci, 7, .inl zhalves)), (q2, .inl (ci, 7, .inl zlikes)), (q3, .inl (ci, 7, .inl zfears)), (q4, .inl (ci, 15, .inl zquestion)), (q5, .inl (ci, 7, .inl zorder_3)), (q6, .inl (ci, 7, .inl zwent_8)), (q7, .inl (ci, 7, .inl zfill_9)), (q8, .inl (ci, 5, .inl zevening_10))] := gD_re hD rfl
      refine lv_aload_n hx hb dX12_best_160 rfl (lv_at hl 0 rfl) ?_
      refine lv_iload hx hb dX12_best_161 (lv_at hl 3 rfl) ?_
      refine gcalli (va_runV (As := [.int x4_5]) (rest := []) ⟨hx, hb, hml, hown, ht⟩ (c_X12_layEvening l D ci cz tr q0 q8 H.size (.int zdogs) (.ref q1) (.ref q2) u0 (.ref q3) u1 (.int zhungry) u2 u3 (.ref q4) u4 u5 (.ref q5) (.ref q6) (.ref q7) (.int zatLeft_6) (.int zatRight_7) u6 u7 u8 u9 zasked zevening_10 x4_5 _ hw) (cwV 1 ht (gi_V mM_X12_168 mI_X12_layEvening mS_X12_layEvening mN_X12 mC_X12_layEvening) rfl rfl rfl (by decide +kernel) ⟨Nat.le_trans (Nat.le_of_ble_eq_true rfl) hfr, Nat.le_trans (Nat.le_of_ble_eq_true rfl) hlc⟩) (gpreV (wc := [(q0, .inr (11, [.int zdogs, .ref q1, .ref q2, u0, .ref q3, u1, .int zhungry, u2, u3, .int zasked, .ref q4, u4, u5, .ref q5, .ref q6, .ref q7, .int zatLeft_6, .int zatRight_7, u6, u7, .ref q8, u8, u9])), (q8, .inl (ci, 5, .inl zevening_10))]) (k := 11) (q0 := 0) hK hZ hP hD hS hA [0, 8] rfl rfl rfl rfl rfl) rfl rfl hl.1 rfl (lv_room (Nat.le_of_ble_eq_true rfl)) dX12_best_163 ⟨Nat.zero_le _, Nat.zero_le _⟩) hD hS hA [0, 8] rfl (fun r_11 w9 H locs hw hP9 hk9 hS => ?_)
      obtain ⟨zevening_12, rfl, hw⟩ := hw
      have hP : va_P D vwCl [(q0, .inr (11, [.int zdogs, .ref q1, .ref q2, u0, .ref q3, u1, .int zhungry, u2, u3, .int zasked, .ref q4, u4, u5, .ref q5, .ref q6, .ref q7, .int zatLeft_6, .int zatRight_7, u6, u7, .ref q8, u8, u9])), (q1, .inl (ci, 7, .inl zhalves)), (q2, .inl (ci, 7, .inl zlikes)), (q3, .inl (ci, 7, .inl zfears)), (q4, .inl (ci, 15, .inl zquestion)), (q5, .inl (ci, 7, .inl zorder_3)), (q6, .inl (ci, 7, .inl zwent_8)), (q7, .inl (ci, 7, .inl zfill_9)), (q8, .inl (ci, 5, .inl zevening_12))] H := gjoin3 hP hD [0, 8] hP9 hk9 rfl rfl [some 0, none, none, none, none, none, none, none, some 1] rfl rfl
      have hD : va_D A [(q0, .inr (11, [.int zdogs, .ref q1, .ref q2, u0, .ref q3, u1, .int zhungry, u2, u3, .int zasked, .ref q4, u4, u5, .ref q5, .ref q6, .ref q7, .int zatLeft_6, .int zatRight_7, u6, u7, .ref q8, u8, u9])), (q1, .inl (ci, 7, .inl zhalves)), (q2, .inl (ci, 7, .inl zlikes)), (q3, .inl (ci, 7, .inl zfears)), (q4, .inl (ci, 15, .inl zquestion)), (q5, .inl (ci, 7, .inl zorder_3)), (q6, .inl (ci, 7, .inl zwent_8)), (q7, .inl (ci, 7, .inl zfill_9)), (q8, .inl (ci, 5, .inl zevening_12))] := gD_re hD rfl
      clear hP9 hk9
      refine lv_istore (lv' := [(5, .int r_11), (0, .ref q0), (1, .int a1), (3, .int x3_4), (4, .int x4_5)]) hx hb dX12_best_166 hl (by decide) rfl (fun ls hl => ?_)
      refine lv_iload_n hx hb dX12_best_168 rfl (lv_at hl 2 rfl) ?_
      refine lv_iconst (v := (-1 : Int32)) hx hb dX12_best_169 (by decide) ?_
      refine lv_icmp_ne (tgt := 177) hx hb dX12_best_170 (by decide) (fun hc => ?_) (fun hc => ?_)
      · have hw := hw.1 hc
        refine lv_iload hx hb dX12_best_177 (lv_at hl 0 rfl) ?_
        refine lv_if_eq (tgt := 205) hx hb dX12_best_179 (by decide) (fun hc => ?_) (fun hc => ?_)
        · have hw := hw.1 hc
          refine lv_bipush (v := (-6 : Int32)) hx hb dX12_best_205 (by decide) ?_
          exact hret _ _ H locs _ _ ⟨_, _, _, _, _, _, rfl, hw⟩ hP hS dX12_best_207
        · have hw := hw.2 hc
          refine lv_iload_n hx hb dX12_best_182 rfl (lv_at hl 2 rfl) ?_
          refine lv_iconst (v := (0 : Int32)) hx hb dX12_best_183 (by decide) ?_
          refine lv_aload_n hx hb dX12_best_184 rfl (lv_at hl 1 rfl) ?_
          refine va_get (D := D) (ci := 11) (v := .int zasked) (C := RX12) (T := TX12) (N := 23) hx hb ht in_X12 hown hK.1 hP 0 rfl rfl 9 (by decide) (ht _ mF_X12_165) (fun _ h9 => h9) rfl dX12_best_185 ?_
          refine lv_iconst (v := (1 : Int32)) hx hb dX12_best_188 (by decide) ?_
          refine lv_isub hx hb dX12_best_189 ?_
          refine gcalli (va_runS (As := [.int a1, .int (0 : Int32), .int (zasked - (1 : Int32))]) (rest := []) ⟨hx, hb, hml, hown, ht⟩ (c_X12_in l D ci cz tr  H.size a1 (0 : Int32) (zasked - (1 : Int32)) _ hw) (va_cwS 3 ht (gi_S mM_X12_66 mT_X12_in mN_X12 mC_X12_in) rfl rfl rfl (by decide +kernel) ⟨Nat.le_trans (Nat.le_of_ble_eq_true rfl) hfr, Nat.le_trans (Nat.le_of_ble_eq_true rfl) hlc⟩) (gpre (wc := []) hK hZ hP hD hS hA [] rfl rfl) rfl rfl hl.1 rfl (lv_room (Nat.le_of_ble_eq_true rfl)) dX12_best_190 ⟨Nat.zero_le _, Nat.zero_le _⟩) hD hS hA [] rfl (fun r_13 w9 H locs hw hP9 hk9 hS => ?_)
          obtain ⟨rfl, hw⟩ := hw
          have hP : va_P D vwCl [(q0, .inr (11, [.int zdogs, .ref q1, .ref q2, u0, .ref q3, u1, .int zhungry, u2, u3, .int zasked, .ref q4, u4, u5, .ref q5, .ref q6, .ref q7, .int zatLeft_6, .int zatRight_7, u6, u7, .ref q8, u8, u9])), (q1, .inl (ci, 7, .inl zhalves)), (q2, .inl (ci, 7, .inl zlikes)), (q3, .inl (ci, 7, .inl zfears)), (q4, .inl (ci, 15, .inl zquestion)), (q5, .inl (ci, 7, .inl zorder_3)), (q6, .inl (ci, 7, .inl zwent_8)), (q7, .inl (ci, 7, .inl zfill_9)), (q8, .inl (ci, 5, .inl zevening_12))] H := gjoin3 hP hD [] hP9 hk9 rfl rfl [none, none, none, none, none, none, none, none, none] rfl rfl
          clear hP9 hk9
          refine lv_if_eq (tgt := 205) hx hb dX12_best_193 (by decide) (fun hc => ?_) (fun hc => ?_)
          · have hw := hw.1 hc
            refine lv_bipush (v := (-6 : Int32)) hx hb dX12_best_205 (by decide) ?_
            exact hret _ _ H locs _ _ ⟨_, _, _, _, _, _, rfl, hw⟩ hP hS dX12_best_207
          · have hw := hw.2 hc
            refine lv_aload_n hx hb dX12_best_196 rfl (lv_at hl 1 rfl) ?_
            refine va_get (D := D) (ci := 11) (v := .ref q8) (C := RX12) (T := TX12) (N := 23) hx hb ht in_X12 hown hK.1 hP 0 rfl rfl 20 (by decide) (ht _ mF_X12_54) (fun _ h9 => h9) rfl dX12_best_197 ?_
            refine lv_iload_n hx hb dX12_best_200 rfl (lv_at hl 2 rfl) ?_
            obtain ⟨hin, hw⟩ := hw
            refine va_iald (D := D) hx hb hK.1 hP 8 0 rfl rfl hin dX12_best_201 ?_
            refine lv_goto (tgt := 207) hx hb dX12_best_202 (by decide) ?_
            exact hret _ _ H locs _ _ ⟨_, _, _, _, _, _, rfl, hw⟩ hP hS dX12_best_207
      · have hw := hw.2 hc
        refine lv_iload_n hx hb dX12_best_173 rfl (lv_at hl 3 rfl) ?_
        refine lv_goto (tgt := 207) hx hb dX12_best_174 (by decide) ?_
        exact hret _ _ H locs _ _ ⟨_, _, _, _, _, _, rfl, hw⟩ hP hS dX12_best_207
    · intro J160 hJ160 hw
      refine lo_walk hw (fun G39 => ∀ (x3_14 : Int32) (x4_15 : Int32) (x5_16 : Int32) (zatLeft_17 : Int32) (zatRight_18 : Int32) (zwent_19 : Nat → Int32) (zfill_20 : Nat → Int32) (zevening_21 : Nat → Int32) (H : Heap) (locs : List Loc) (ls : Array Slot), G39 x3_14 x4_15 x5_16 zatLeft_17 zatRight_18 zwent_19 zfill_20 zevening_21 → va_P D vwCl [(q0, .inr (11, [.int zdogs, .ref q1, .ref q2, u0, .ref q3, u1, .int zhungry, u2, u3, .int zasked, .ref q4, u4, u5, .ref q5, .ref q6, .ref q7, .int zatLeft_17, .int zatRight_18, u6, u7, .ref q8, u8, u9])), (q1, .inl (ci, 7, .inl zhalves)), (q2, .inl (ci, 7, .inl zlikes)), (q3, .inl (ci, 7, .inl zfears)), (q4, .inl (ci, 15, .inl zquestion)), (q5, .inl (ci, 7, .inl zorder_3)), (q6, .inl (ci, 7, .inl zwent_19)), (q7, .inl (ci, 7, .inl zfill_20)), (q8, .inl (ci, 5, .inl zevening_21))] H → va_S A s.heap H locs → lv_has ls 9 [(0, .ref q0), (1, .int a1), (2, .int x2_1), (3, .int x3_14), (4, .int x4_15), (5, .int x5_16)] → W p l e R s m args below meth c H locs 0 0 Q (F0 m 39 ls [])) (fun _ _ _ _ _ _ _ _ _ _ _ hw _ _ _ => False.elim hw) (fun G39 hG39 x3_14 x4_15 x5_16 zatLeft_17 zatRight_18 zwent_19 zfill_20 zevening_21 H locs ls hw hP hS hl => ?_) (fun G39 hG39 hw => hG39 _ _ _ _ _ _ _ _ H locs ls hw hP hS (lv_sub hl [3, 4, 5, 2, 1, 0] rfl))
      have hD : va_D A [(q0, .inr (11, [.int zdogs, .ref q1, .ref q2, u0, .ref q3, u1, .int zhungry, u2, u3, .int zasked, .ref q4, u4, u5, .ref q5, .ref q6, .ref q7, .int zatLeft_17, .int zatRight_18, u6, u7, .ref q8, u8, u9])), (q1, .inl (ci, 7, .inl zhalves)), (q2, .inl (ci, 7, .inl zlikes)), (q3, .inl (ci, 7, .inl zfears)), (q4, .inl (ci, 15, .inl zquestion)), (q5, .inl (ci, 7, .inl zorder_3)), (q6, .inl (ci, 7, .inl zwent_19)), (q7, .inl (ci, 7, .inl zfill_20)), (q8, .inl (ci, 5, .inl zevening_21))] := gD_re hD rfl
      refine lv_iload hx hb dX12_best_39 (lv_at hl 5 rfl) ?_
      refine lv_iload_n hx hb dX12_best_41 rfl (lv_at hl 2 rfl) ?_
      refine lv_icmp_ge (tgt := 160) hx hb dX12_best_42 (by decide) (fun hc => ?_) (fun hc => ?_)
      · have hw := hw.1 hc
        exact hJ160 _ _ _ _ _ _ _ H locs ls hw hP hS (lv_sub hl [0, 1, 3, 4] rfl)
      · have hw := hw.2 hc
        refine lv_aload_n hx hb dX12_best_45 rfl (lv_at hl 0 rfl) ?_
        refine lv_iload hx hb dX12_best_46 (lv_at hl 5 rfl) ?_
        refine gcalli (va_runV (As := [.int x5_16]) (rest := []) ⟨hx, hb, hml, hown, ht⟩ (c_X12_layEvening l D ci cz tr q0 q8 H.size (.int zdogs) (.ref q1) (.ref q2) u0 (.ref q3) u1 (.int zhungry) u2 u3 (.ref q4) u4 u5 (.ref q5) (.ref q6) (.ref q7) (.int zatLeft_17) (.int zatRight_18) u6 u7 u8 u9 zasked zevening_21 x5_16 _ hw) (cwV 1 ht (gi_V mM_X12_168 mI_X12_layEvening mS_X12_layEvening mN_X12 mC_X12_layEvening) rfl rfl rfl (by decide +kernel) ⟨Nat.le_trans (Nat.le_of_ble_eq_true rfl) hfr, Nat.le_trans (Nat.le_of_ble_eq_true rfl) hlc⟩) (gpreV (wc := [(q0, .inr (11, [.int zdogs, .ref q1, .ref q2, u0, .ref q3, u1, .int zhungry, u2, u3, .int zasked, .ref q4, u4, u5, .ref q5, .ref q6, .ref q7, .int zatLeft_17, .int zatRight_18, u6, u7, .ref q8, u8, u9])), (q8, .inl (ci, 5, .inl zevening_21))]) (k := 11) (q0 := 0) hK hZ hP hD hS hA [0, 8] rfl rfl rfl rfl rfl) rfl rfl hl.1 rfl (lv_room (Nat.le_of_ble_eq_true rfl)) dX12_best_48 ⟨Nat.zero_le _, Nat.zero_le _⟩) hD hS hA [0, 8] rfl (fun r_22 w9 H locs hw hP9 hk9 hS => ?_)
        obtain ⟨zevening_23, rfl, hw⟩ := hw
        have hP : va_P D vwCl [(q0, .inr (11, [.int zdogs, .ref q1, .ref q2, u0, .ref q3, u1, .int zhungry, u2, u3, .int zasked, .ref q4, u4, u5, .ref q5, .ref q6, .ref q7, .int zatLeft_17, .int zatRight_18, u6, u7, .ref q8, u8, u9])), (q1, .inl (ci, 7, .inl zhalves)), (q2, .inl (ci, 7, .inl zlikes)), (q3, .inl (ci, 7, .inl zfears)), (q4, .inl (ci, 15, .inl zquestion)), (q5, .inl (ci, 7, .inl zorder_3)), (q6, .inl (ci, 7, .inl zwent_19)), (q7, .inl (ci, 7, .inl zfill_20)), (q8, .inl (ci, 5, .inl zevening_23))] H := gjoin3 hP hD [0, 8] hP9 hk9 rfl rfl [some 0, none, none, none, none, none, none, none, some 1] rfl rfl
        have hD : va_D A [(q0, .inr (11, [.int zdogs, .ref q1, .ref q2, u0, .ref q3, u1, .int zhungry, u2, u3, .int zasked, .ref q4, u4, u5, .ref q5, .ref q6, .ref q7, .int zatLeft_17, .int zatRight_18, u6, u7, .ref q8, u8, u9])), (q1, .inl (ci, 7, .inl zhalves)), (q2, .inl (ci, 7, .inl zlikes)), (q3, .inl (ci, 7, .inl zfears)), (q4, .inl (ci, 15, .inl zquestion)), (q5, .inl (ci, 7, .inl zorder_3)), (q6, .inl (ci, 7, .inl zwent_19)), (q7, .inl (ci, 7, .inl zfill_20)), (q8, .inl (ci, 5, .inl zevening_23))] := gD_re hD rfl
        clear hP9 hk9
        refine lv_if_eq (tgt := 154) hx hb dX12_best_51 (by decide) (fun hc => ?_) (fun hc => ?_)
        · have hw := hw.1 hc
          refine lv_iinc (v := (x5_16 + (1 : Int32))) (lv' := [(5, .int (x5_16 + (1 : Int32))), (0, .ref q0), (1, .int a1), (2, .int x2_1), (3, .int x3_14), (4, .int x4_15)]) hx hb dX12_best_154 hl (k := 5) rfl rfl (by decide) rfl (fun ls hl => ?_)
          refine lv_goto (tgt := 39) hx hb dX12_best_157 (by decide) ?_
          exact hG39 _ _ _ _ _ _ _ _ H locs ls hw hP hS (lv_sub hl [1, 2, 3, 4, 5, 0] rfl)
        · have hw := hw.2 hc
          refine lv_aload_n hx hb dX12_best_54 rfl (lv_at hl 0 rfl) ?_
          refine gcallv (va_runV (As := []) (rest := []) ⟨hx, hb, hml, hown, ht⟩ (c_X12_nobodyFull l D ci cz tr q0 q7 H.size (.int zdogs) (.ref q1) (.ref q2) u0 (.ref q3) u1 (.int zhungry) u2 u3 (.int zasked) (.ref q4) u4 u5 (.ref q5) (.ref q6) (.int zatLeft_17) (.int zatRight_18) u6 u7 (.ref q8) u8 u9 zfill_20 _ hw) (cwV 0 ht (gi_V mM_X12_100 mI_X12_nobodyFull mS_X12_nobodyFull mN_X12 mC_X12_nobodyFull) rfl rfl rfl (by decide +kernel) ⟨Nat.le_trans (Nat.le_of_ble_eq_true rfl) hfr, Nat.le_trans (Nat.le_of_ble_eq_true rfl) hlc⟩) (gpreV (wc := [(q0, .inr (11, [.int zdogs, .ref q1, .ref q2, u0, .ref q3, u1, .int zhungry, u2, u3, .int zasked, .ref q4, u4, u5, .ref q5, .ref q6, .ref q7, .int zatLeft_17, .int zatRight_18, u6, u7, .ref q8, u8, u9])), (q7, .inl (ci, 7, .inl zfill_20))]) (k := 11) (q0 := 0) hK hZ hP hD hS hA [0, 7] rfl rfl rfl rfl rfl) rfl rfl hl.1 rfl (lv_room (Nat.le_of_ble_eq_true rfl)) dX12_best_55 ⟨Nat.zero_le _, Nat.zero_le _⟩) hD hS hA [0, 7] rfl (fun w9 H locs hw hP9 hk9 hS => ?_)
          obtain ⟨zfill_25, rfl, hw⟩ := hw
          have hP : va_P D vwCl [(q0, .inr (11, [.int zdogs, .ref q1, .ref q2, u0, .ref q3, u1, .int zhungry, u2, u3, .int zasked, .ref q4, u4, u5, .ref q5, .ref q6, .ref q7, .int zatLeft_17, .int zatRight_18, u6, u7, .ref q8, u8, u9])), (q1, .inl (ci, 7, .inl zhalves)), (q2, .inl (ci, 7, .inl zlikes)), (q3, .inl (ci, 7, .inl zfears)), (q4, .inl (ci, 15, .inl zquestion)), (q5, .inl (ci, 7, .inl zorder_3)), (q6, .inl (ci, 7, .inl zwent_19)), (q7, .inl (ci, 7, .inl zfill_25)), (q8, .inl (ci, 5, .inl zevening_23))] H := gjoin3 hP hD [0, 7] hP9 hk9 rfl rfl [some 0, none, none, none, none, none, none, some 1, none] rfl rfl
          have hD : va_D A [(q0, .inr (11, [.int zdogs, .ref q1, .ref q2, u0, .ref q3, u1, .int zhungry, u2, u3, .int zasked, .ref q4, u4, u5, .ref q5, .ref q6, .ref q7, .int zatLeft_17, .int zatRight_18, u6, u7, .ref q8, u8, u9])), (q1, .inl (ci, 7, .inl zhalves)), (q2, .inl (ci, 7, .inl zlikes)), (q3, .inl (ci, 7, .inl zfears)), (q4, .inl (ci, 15, .inl zquestion)), (q5, .inl (ci, 7, .inl zorder_3)), (q6, .inl (ci, 7, .inl zwent_19)), (q7, .inl (ci, 7, .inl zfill_25)), (q8, .inl (ci, 5, .inl zevening_23))] := gD_re hD rfl
          clear hP9 hk9
          refine lv_iconst (v := (0 : Int32)) hx hb dX12_best_58 (by decide) ?_
          refine lv_istore (lv' := [(6, .int (0 : Int32)), (0, .ref q0), (1, .int a1), (2, .int x2_1), (3, .int x3_14), (4, .int x4_15), (5, .int x5_16)]) hx hb dX12_best_59 hl (by decide) rfl (fun ls hl => ?_)
          refine lv_iconst (v := (0 : Int32)) hx hb dX12_best_61 (by decide) ?_
          refine lv_istore (lv' := [(7, .int (0 : Int32)), (6, .int (0 : Int32)), (0, .ref q0), (1, .int a1), (2, .int x2_1), (3, .int x3_14), (4, .int x4_15), (5, .int x5_16)]) hx hb dX12_best_62 hl (by decide) rfl (fun ls hl => ?_)
          refine jn_walk hw (fun J141 => ∀ (x6_26 : Int32) (zatLeft_27 : Int32) (zatRight_28 : Int32) (zwent_29 : Nat → Int32) (zfill_30 : Nat → Int32) (H : Heap) (locs : List Loc) (ls : Array Slot), J141 x6_26 zatLeft_27 zatRight_28 zwent_29 zfill_30 → va_P D vwCl [(q0, .inr (11, [.int zdogs, .ref q1, .ref q2, u0, .ref q3, u1, .int zhungry, u2, u3, .int zasked, .ref q4, u4, u5, .ref q5, .ref q6, .ref q7, .int zatLeft_27, .int zatRight_28, u6, u7, .ref q8, u8, u9])), (q1, .inl (ci, 7, .inl zhalves)), (q2, .inl (ci, 7, .inl zlikes)), (q3, .inl (ci, 7, .inl zfears)), (q4, .inl (ci, 15, .inl zquestion)), (q5, .inl (ci, 7, .inl zorder_3)), (q6, .inl (ci, 7, .inl zwent_29)), (q7, .inl (ci, 7, .inl zfill_30)), (q8, .inl (ci, 5, .inl zevening_23))] H → va_S A s.heap H locs → lv_has ls 9 [(0, .ref q0), (1, .int a1), (2, .int x2_1), (3, .int x3_14), (4, .int x4_15), (5, .int x5_16), (6, .int x6_26)] → W p l e R s m args below meth c H locs 0 0 Q (F0 m 141 ls [])) ?_ ?_
          · intro x6_26 zatLeft_27 zatRight_28 zwent_29 zfill_30 H locs ls hw hP hS hl
            have hD : va_D A [(q0, .inr (11, [.int zdogs, .ref q1, .ref q2, u0, .ref q3, u1, .int zhungry, u2, u3, .int zasked, .ref q4, u4, u5, .ref q5, .ref q6, .ref q7, .int zatLeft_27, .int zatRight_28, u6, u7, .ref q8, u8, u9])), (q1, .inl (ci, 7, .inl zhalves)), (q2, .inl (ci, 7, .inl zlikes)), (q3, .inl (ci, 7, .inl zfears)), (q4, .inl (ci, 15, .inl zquestion)), (q5, .inl (ci, 7, .inl zorder_3)), (q6, .inl (ci, 7, .inl zwent_29)), (q7, .inl (ci, 7, .inl zfill_30)), (q8, .inl (ci, 5, .inl zevening_23))] := gD_re hD rfl
            refine lv_iload hx hb dX12_best_141 (lv_at hl 6 rfl) ?_
            refine lv_iload_n hx hb dX12_best_143 rfl (lv_at hl 3 rfl) ?_
            refine lv_icmp_le (tgt := 154) hx hb dX12_best_144 (by decide) (fun hc => ?_) (fun hc => ?_)
            · have hw := hw.1 hc
              refine lv_iinc (v := (x5_16 + (1 : Int32))) (lv' := [(5, .int (x5_16 + (1 : Int32))), (0, .ref q0), (1, .int a1), (2, .int x2_1), (3, .int x3_14), (4, .int x4_15), (6, .int x6_26)]) hx hb dX12_best_154 hl (k := 5) rfl rfl (by decide) rfl (fun ls hl => ?_)
              refine lv_goto (tgt := 39) hx hb dX12_best_157 (by decide) ?_
              exact hG39 _ _ _ _ _ _ _ _ H locs ls hw hP hS (lv_sub hl [1, 2, 3, 4, 5, 0] rfl)
            · have hw := hw.2 hc
              refine lv_iload hx hb dX12_best_147 (lv_at hl 6 rfl) ?_
              refine lv_istore_n (lv' := [(3, .int x6_26), (0, .ref q0), (1, .int a1), (2, .int x2_1), (4, .int x4_15), (5, .int x5_16), (6, .int x6_26)]) hx hb dX12_best_149 rfl hl (by decide) rfl (fun ls hl => ?_)
              refine lv_iload hx hb dX12_best_150 (lv_at hl 5 rfl) ?_
              refine lv_istore (lv' := [(4, .int x5_16), (3, .int x6_26), (0, .ref q0), (1, .int a1), (2, .int x2_1), (5, .int x5_16), (6, .int x6_26)]) hx hb dX12_best_152 hl (by decide) rfl (fun ls hl => ?_)
              refine lv_iinc (v := (x5_16 + (1 : Int32))) (lv' := [(5, .int (x5_16 + (1 : Int32))), (4, .int x5_16), (3, .int x6_26), (0, .ref q0), (1, .int a1), (2, .int x2_1), (6, .int x6_26)]) hx hb dX12_best_154 hl (k := 5) rfl rfl (by decide) rfl (fun ls hl => ?_)
              refine lv_goto (tgt := 39) hx hb dX12_best_157 (by decide) ?_
              exact hG39 _ _ _ _ _ _ _ _ H locs ls hw hP hS (lv_sub hl [3, 4, 5, 2, 1, 0] rfl)
          · intro J141 hJ141 hw
            refine lo_walk hw (fun G64 => ∀ (x6_31 : Int32) (x7_32 : Int32) (zatLeft_33 : Int32) (zatRight_34 : Int32) (zwent_35 : Nat → Int32) (zfill_36 : Nat → Int32) (H : Heap) (locs : List Loc) (ls : Array Slot), G64 x6_31 x7_32 zatLeft_33 zatRight_34 zwent_35 zfill_36 → va_P D vwCl [(q0, .inr (11, [.int zdogs, .ref q1, .ref q2, u0, .ref q3, u1, .int zhungry, u2, u3, .int zasked, .ref q4, u4, u5, .ref q5, .ref q6, .ref q7, .int zatLeft_33, .int zatRight_34, u6, u7, .ref q8, u8, u9])), (q1, .inl (ci, 7, .inl zhalves)), (q2, .inl (ci, 7, .inl zlikes)), (q3, .inl (ci, 7, .inl zfears)), (q4, .inl (ci, 15, .inl zquestion)), (q5, .inl (ci, 7, .inl zorder_3)), (q6, .inl (ci, 7, .inl zwent_35)), (q7, .inl (ci, 7, .inl zfill_36)), (q8, .inl (ci, 5, .inl zevening_23))] H → va_S A s.heap H locs → lv_has ls 9 [(0, .ref q0), (1, .int a1), (2, .int x2_1), (3, .int x3_14), (4, .int x4_15), (5, .int x5_16), (6, .int x6_31), (7, .int x7_32)] → W p l e R s m args below meth c H locs 0 0 Q (F0 m 64 ls [])) (fun _ _ _ _ _ _ _ _ _ hw _ _ _ => False.elim hw) (fun G64 hG64 x6_31 x7_32 zatLeft_33 zatRight_34 zwent_35 zfill_36 H locs ls hw hP hS hl => ?_) (fun G64 hG64 hw => hG64 _ _ _ _ _ _ H locs ls hw hP hS (lv_sub hl [2, 3, 4, 5, 6, 7, 1, 0] rfl))
            have hD : va_D A [(q0, .inr (11, [.int zdogs, .ref q1, .ref q2, u0, .ref q3, u1, .int zhungry, u2, u3, .int zasked, .ref q4, u4, u5, .ref q5, .ref q6, .ref q7, .int zatLeft_33, .int zatRight_34, u6, u7, .ref q8, u8, u9])), (q1, .inl (ci, 7, .inl zhalves)), (q2, .inl (ci, 7, .inl zlikes)), (q3, .inl (ci, 7, .inl zfears)), (q4, .inl (ci, 15, .inl zquestion)), (q5, .inl (ci, 7, .inl zorder_3)), (q6, .inl (ci, 7, .inl zwent_35)), (q7, .inl (ci, 7, .inl zfill_36)), (q8, .inl (ci, 5, .inl zevening_23))] := gD_re hD rfl
            refine lv_iload hx hb dX12_best_64 (lv_at hl 7 rfl) ?_
            refine lv_aload_n hx hb dX12_best_66 rfl (lv_at hl 0 rfl) ?_
            refine va_get (D := D) (ci := 11) (v := .int zasked) (C := RX12) (T := TX12) (N := 23) hx hb ht in_X12 hown hK.1 hP 0 rfl rfl 9 (by decide) (ht _ mF_X12_165) (fun _ h9 => h9) rfl dX12_best_67 ?_
            refine lv_icmp_ge (tgt := 141) hx hb dX12_best_70 (by decide) (fun hc => ?_) (fun hc => ?_)
            · have hw := hw.1 hc
              exact hJ141 _ _ _ _ _ H locs ls hw hP hS (lv_sub hl [0, 1, 2, 3, 4, 5, 6] rfl)
            · have hw := hw.2 hc
              refine lv_aload_n hx hb dX12_best_73 rfl (lv_at hl 0 rfl) ?_
              refine va_get (D := D) (ci := 11) (v := .ref q8) (C := RX12) (T := TX12) (N := 23) hx hb ht in_X12 hown hK.1 hP 0 rfl rfl 20 (by decide) (ht _ mF_X12_54) (fun _ h9 => h9) rfl dX12_best_74 ?_
              refine lv_iload hx hb dX12_best_77 (lv_at hl 7 rfl) ?_
              obtain ⟨hin, hw⟩ := hw
              refine va_iald (D := D) hx hb hK.1 hP 8 0 rfl rfl hin dX12_best_79 ?_
              refine lv_istore (lv' := [(8, .int (zevening_23 (x7_32).toNatClampNeg)), (0, .ref q0), (1, .int a1), (2, .int x2_1), (3, .int x3_14), (4, .int x4_15), (5, .int x5_16), (6, .int x6_31), (7, .int x7_32)]) hx hb dX12_best_80 hl (by decide) rfl (fun ls hl => ?_)
              refine lv_aload_n hx hb dX12_best_82 rfl (lv_at hl 1 rfl) ?_
              refine lv_aload_n hx hb dX12_best_83 rfl (lv_at hl 1 rfl) ?_
              refine va_get (D := D) (ci := 11) (v := .ref q4) (C := RX12) (T := TX12) (N := 23) hx hb ht in_X12 hown hK.1 hP 0 rfl rfl 10 (by decide) (ht _ mF_X12_33) (fun _ h9 => h9) rfl dX12_best_84 ?_
              refine lv_iconst (v := (3 : Int32)) hx hb dX12_best_87 (by decide) ?_
              refine lv_iload hx hb dX12_best_88 (lv_at hl 0 rfl) ?_
              refine lv_imul hx hb dX12_best_90 ?_
              obtain ⟨hin, hw⟩ := hw
              refine va_iald (D := D) hx hb hK.1 hP 4 0 rfl rfl hin dX12_best_91 ?_
              refine lv_aload_n hx hb dX12_best_92 rfl (lv_at hl 1 rfl) ?_
              refine va_get (D := D) (ci := 11) (v := .ref q4) (C := RX12) (T := TX12) (N := 23) hx hb ht in_X12 hown hK.1 hP 0 rfl rfl 10 (by decide) (ht _ mF_X12_33) (fun _ h9 => h9) rfl dX12_best_93 ?_
              refine lv_iconst (v := (3 : Int32)) hx hb dX12_best_96 (by decide) ?_
              refine lv_iload hx hb dX12_best_97 (lv_at hl 0 rfl) ?_
              refine lv_imul hx hb dX12_best_99 ?_
              refine lv_iconst (v := (1 : Int32)) hx hb dX12_best_100 (by decide) ?_
              refine lv_iadd hx hb dX12_best_101 ?_
              obtain ⟨hin, hw⟩ := hw
              refine va_iald (D := D) hx hb hK.1 hP 4 0 rfl rfl hin dX12_best_102 ?_
              refine lv_bipush (v := (-6 : Int32)) hx hb dX12_best_103 (by decide) ?_
              refine gcallv (va_runV (As := [.int (zquestion (((3 : Int32) * (zevening_23 (x7_32).toNatClampNeg))).toNatClampNeg), .int (zquestion ((((3 : Int32) * (zevening_23 (x7_32).toNatClampNeg)) + (1 : Int32))).toNatClampNeg), .int (-6 : Int32)]) (rest := []) ⟨hx, hb, hml, hown, ht⟩ (c_X12_letGo l D ci cz tr q0 q1 q2 q3 q5 q6 q7 H.size u0 u1 u2 u3 (.int zasked) (.ref q4) u4 u5 u6 u7 (.ref q8) u8 u9 zdogs zhungry zatLeft_33 zatRight_34 zhalves zlikes zfears zorder_3 zwent_35 zfill_36 (zquestion (((3 : Int32) * (zevening_23 (x7_32).toNatClampNeg))).toNatClampNeg) (zquestion ((((3 : Int32) * (zevening_23 (x7_32).toNatClampNeg)) + (1 : Int32))).toNatClampNeg) (-6 : Int32) _ hw) (cwV 3 ht (gi_V mM_X12_103 mI_X12_letGo mS_X12_letGo mN_X12 mC_X12_letGo) rfl rfl rfl (by decide +kernel) ⟨Nat.le_trans (Nat.le_of_ble_eq_true rfl) hfr, Nat.le_trans (Nat.le_of_ble_eq_true rfl) hlc⟩) (gpreV (wc := [(q0, .inr (11, [.int zdogs, .ref q1, .ref q2, u0, .ref q3, u1, .int zhungry, u2, u3, .int zasked, .ref q4, u4, u5, .ref q5, .ref q6, .ref q7, .int zatLeft_33, .int zatRight_34, u6, u7, .ref q8, u8, u9])), (q1, .inl (ci, 7, .inl zhalves)), (q2, .inl (ci, 7, .inl zlikes)), (q3, .inl (ci, 7, .inl zfears)), (q5, .inl (ci, 7, .inl zorder_3)), (q6, .inl (ci, 7, .inl zwent_35)), (q7, .inl (ci, 7, .inl zfill_36))]) (k := 11) (q0 := 0) hK hZ hP hD hS hA [0, 1, 2, 3, 5, 6, 7] rfl rfl rfl rfl rfl) rfl rfl hl.1 rfl (lv_room (Nat.le_of_ble_eq_true rfl)) dX12_best_105 ⟨Nat.zero_le _, Nat.zero_le _⟩) hD hS hA [0, 1, 2, 3, 5, 6, 7] rfl (fun w9 H locs hw hP9 hk9 hS => ?_)
              obtain ⟨zatLeft_38, zatRight_39, zwent_40, zfill_41, rfl, hw⟩ := hw
              have hP : va_P D vwCl [(q0, .inr (11, [.int zdogs, .ref q1, .ref q2, u0, .ref q3, u1, .int zhungry, u2, u3, .int zasked, .ref q4, u4, u5, .ref q5, .ref q6, .ref q7, .int zatLeft_38, .int zatRight_39, u6, u7, .ref q8, u8, u9])), (q1, .inl (ci, 7, .inl zhalves)), (q2, .inl (ci, 7, .inl zlikes)), (q3, .inl (ci, 7, .inl zfears)), (q4, .inl (ci, 15, .inl zquestion)), (q5, .inl (ci, 7, .inl zorder_3)), (q6, .inl (ci, 7, .inl zwent_40)), (q7, .inl (ci, 7, .inl zfill_41)), (q8, .inl (ci, 5, .inl zevening_23))] H := gjoin3 hP hD [0, 1, 2, 3, 5, 6, 7] hP9 hk9 rfl rfl [some 0, some 1, some 2, some 3, none, some 4, some 5, some 6, none] rfl rfl
              have hD : va_D A [(q0, .inr (11, [.int zdogs, .ref q1, .ref q2, u0, .ref q3, u1, .int zhungry, u2, u3, .int zasked, .ref q4, u4, u5, .ref q5, .ref q6, .ref q7, .int zatLeft_38, .int zatRight_39, u6, u7, .ref q8, u8, u9])), (q1, .inl (ci, 7, .inl zhalves)), (q2, .inl (ci, 7, .inl zlikes)), (q3, .inl (ci, 7, .inl zfears)), (q4, .inl (ci, 15, .inl zquestion)), (q5, .inl (ci, 7, .inl zorder_3)), (q6, .inl (ci, 7, .inl zwent_40)), (q7, .inl (ci, 7, .inl zfill_41)), (q8, .inl (ci, 5, .inl zevening_23))] := gD_re hD rfl
              clear hP9 hk9
              refine lv_iload hx hb dX12_best_108 (lv_at hl 7 rfl) ?_
              refine lv_aload_n hx hb dX12_best_110 rfl (lv_at hl 1 rfl) ?_
              refine gcalli (va_runV (As := []) (rest := [.int x6_31]) ⟨hx, hb, hml, hown, ht⟩ (c_X12_winner l D ci cz tr q0 H.size (.int zdogs) (.ref q1) (.ref q2) u0 (.ref q3) u1 (.int zhungry) u2 u3 (.int zasked) (.ref q4) u4 u5 (.ref q5) (.ref q6) (.ref q7) u6 u7 (.ref q8) u8 u9 zatLeft_38 zatRight_39 _ hw) (cwV 0 ht (gi_V mM_X12_113 mI_X12_winner mS_X12_winner mN_X12 mC_X12_winner) rfl rfl rfl (by decide +kernel) ⟨Nat.le_trans (Nat.le_of_ble_eq_true rfl) hfr, Nat.le_trans (Nat.le_of_ble_eq_true rfl) hlc⟩) (gpreV (wc := [(q0, .inr (11, [.int zdogs, .ref q1, .ref q2, u0, .ref q3, u1, .int zhungry, u2, u3, .int zasked, .ref q4, u4, u5, .ref q5, .ref q6, .ref q7, .int zatLeft_38, .int zatRight_39, u6, u7, .ref q8, u8, u9]))]) (k := 11) (q0 := 0) hK hZ hP hD hS hA [0] rfl rfl rfl rfl rfl) rfl rfl hl.1 rfl (lv_room (Nat.le_of_ble_eq_true rfl)) dX12_best_111 ⟨Nat.zero_le _, Nat.zero_le _⟩) hD hS hA [0] rfl (fun r_42 w9 H locs hw hP9 hk9 hS => ?_)
              obtain ⟨rfl, hw⟩ := hw
              have hP : va_P D vwCl [(q0, .inr (11, [.int zdogs, .ref q1, .ref q2, u0, .ref q3, u1, .int zhungry, u2, u3, .int zasked, .ref q4, u4, u5, .ref q5, .ref q6, .ref q7, .int zatLeft_38, .int zatRight_39, u6, u7, .ref q8, u8, u9])), (q1, .inl (ci, 7, .inl zhalves)), (q2, .inl (ci, 7, .inl zlikes)), (q3, .inl (ci, 7, .inl zfears)), (q4, .inl (ci, 15, .inl zquestion)), (q5, .inl (ci, 7, .inl zorder_3)), (q6, .inl (ci, 7, .inl zwent_40)), (q7, .inl (ci, 7, .inl zfill_41)), (q8, .inl (ci, 5, .inl zevening_23))] H := gjoin3 hP hD [0] hP9 hk9 rfl rfl [some 0, none, none, none, none, none, none, none, none] rfl rfl
              clear hP9 hk9
              refine jn_walk hw (fun J132 => ∀ (t_43 : Int32) (H : Heap) (locs : List Loc) (ls : Array Slot), J132 t_43 → va_P D vwCl [(q0, .inr (11, [.int zdogs, .ref q1, .ref q2, u0, .ref q3, u1, .int zhungry, u2, u3, .int zasked, .ref q4, u4, u5, .ref q5, .ref q6, .ref q7, .int zatLeft_38, .int zatRight_39, u6, u7, .ref q8, u8, u9])), (q1, .inl (ci, 7, .inl zhalves)), (q2, .inl (ci, 7, .inl zlikes)), (q3, .inl (ci, 7, .inl zfears)), (q4, .inl (ci, 15, .inl zquestion)), (q5, .inl (ci, 7, .inl zorder_3)), (q6, .inl (ci, 7, .inl zwent_40)), (q7, .inl (ci, 7, .inl zfill_41)), (q8, .inl (ci, 5, .inl zevening_23))] H → va_S A s.heap H locs → lv_has ls 9 [(0, .ref q0), (1, .int a1), (2, .int x2_1), (3, .int x3_14), (4, .int x4_15), (5, .int x5_16), (7, .int x7_32)] → W p l e R s m args below meth c H locs 0 0 Q (F0 m 132 ls [.int t_43, .int x6_31])) ?_ ?_
              · intro t_43 H locs ls hw hP hS hl
                have hD : va_D A [(q0, .inr (11, [.int zdogs, .ref q1, .ref q2, u0, .ref q3, u1, .int zhungry, u2, u3, .int zasked, .ref q4, u4, u5, .ref q5, .ref q6, .ref q7, .int zatLeft_38, .int zatRight_39, u6, u7, .ref q8, u8, u9])), (q1, .inl (ci, 7, .inl zhalves)), (q2, .inl (ci, 7, .inl zlikes)), (q3, .inl (ci, 7, .inl zfears)), (q4, .inl (ci, 15, .inl zquestion)), (q5, .inl (ci, 7, .inl zorder_3)), (q6, .inl (ci, 7, .inl zwent_40)), (q7, .inl (ci, 7, .inl zfill_41)), (q8, .inl (ci, 5, .inl zevening_23))] := gD_re hD rfl
                refine lv_iadd hx hb dX12_best_132 ?_
                refine lv_istore (lv' := [(6, .int (x6_31 + t_43)), (0, .ref q0), (1, .int a1), (2, .int x2_1), (3, .int x3_14), (4, .int x4_15), (5, .int x5_16), (7, .int x7_32)]) hx hb dX12_best_133 hl (by decide) rfl (fun ls hl => ?_)
                refine lv_iinc (v := (x7_32 + (1 : Int32))) (lv' := [(7, .int (x7_32 + (1 : Int32))), (6, .int (x6_31 + t_43)), (0, .ref q0), (1, .int a1), (2, .int x2_1), (3, .int x3_14), (4, .int x4_15), (5, .int x5_16)]) hx hb dX12_best_135 hl (k := 7) rfl rfl (by decide) rfl (fun ls hl => ?_)
                refine lv_goto (tgt := 64) hx hb dX12_best_138 (by decide) ?_
                exact hG64 _ _ _ _ _ _ H locs ls hw hP hS (lv_sub hl [2, 3, 4, 5, 6, 7, 1, 0] rfl)
              · intro J132 hJ132 hw
                refine lv_if_ne (tgt := 131) hx hb dX12_best_114 (by decide) (fun hc => ?_) (fun hc => ?_)
                · have hw := hw.1 hc
                  refine lv_iconst (v := (0 : Int32)) hx hb dX12_best_131 (by decide) ?_
                  exact hJ132 _ H locs ls hw hP hS (lv_sub hl [1, 2, 3, 4, 5, 6, 8] rfl)
                · have hw := hw.2 hc
                  refine lv_aload_n hx hb dX12_best_117 rfl (lv_at hl 1 rfl) ?_
                  refine va_get (D := D) (ci := 11) (v := .ref q4) (C := RX12) (T := TX12) (N := 23) hx hb ht in_X12 hown hK.1 hP 0 rfl rfl 10 (by decide) (ht _ mF_X12_33) (fun _ h9 => h9) rfl dX12_best_118 ?_
                  refine lv_iconst (v := (3 : Int32)) hx hb dX12_best_121 (by decide) ?_
                  refine lv_iload hx hb dX12_best_122 (lv_at hl 0 rfl) ?_
                  refine lv_imul hx hb dX12_best_124 ?_
                  refine lv_iconst (v := (2 : Int32)) hx hb dX12_best_125 (by decide) ?_
                  refine lv_iadd hx hb dX12_best_126 ?_
                  obtain ⟨hin, hw⟩ := hw
                  refine va_iald (D := D) hx hb hK.1 hP 4 0 rfl rfl hin dX12_best_127 ?_
                  refine lv_goto (tgt := 132) hx hb dX12_best_128 (by decide) ?_
                  exact hJ132 _ H locs ls hw hP hS (lv_sub hl [1, 2, 3, 4, 5, 6, 8] rfl)
  · intro J25 hJ25 hw
    refine lo_walk hw (fun G4 => ∀ (x2_44 : Int32) (x3_45 : Int32) (H : Heap) (locs : List Loc) (ls : Array Slot), G4 x2_44 x3_45 → va_P D vwCl [(q0, .inr (11, [.int zdogs, .ref q1, .ref q2, u0, .ref q3, u1, .int zhungry, u2, u3, .int zasked, .ref q4, u4, u5, .ref q5, .ref q6, .ref q7, .int zatLeft, .int zatRight, u6, u7, .ref q8, u8, u9])), (q1, .inl (ci, 7, .inl zhalves)), (q2, .inl (ci, 7, .inl zlikes)), (q3, .inl (ci, 7, .inl zfears)), (q4, .inl (ci, 15, .inl zquestion)), (q5, .inl (ci, 7, .inl zorder)), (q6, .inl (ci, 7, .inl zwent)), (q7, .inl (ci, 7, .inl zfill)), (q8, .inl (ci, 5, .inl zevening))] H → va_S A s.heap H locs → lv_has ls 9 [(0, .ref q0), (1, .int a1), (2, .int x2_44), (3, .int x3_45)] → W p l e R s m args below meth c H locs 0 0 Q (F0 m 4 ls [])) (fun _ _ _ _ _ hw _ _ _ => False.elim hw) (fun G4 hG4 x2_44 x3_45 H locs ls hw hP hS hl => ?_) (fun G4 hG4 hw => hG4 _ _ H locs ls hw hP hS (lv_sub hl [2, 3, 1, 0] rfl))
    have hD : va_D A [(q0, .inr (11, [.int zdogs, .ref q1, .ref q2, u0, .ref q3, u1, .int zhungry, u2, u3, .int zasked, .ref q4, u4, u5, .ref q5, .ref q6, .ref q7, .int zatLeft, .int zatRight, u6, u7, .ref q8, u8, u9])), (q1, .inl (ci, 7, .inl zhalves)), (q2, .inl (ci, 7, .inl zlikes)), (q3, .inl (ci, 7, .inl zfears)), (q4, .inl (ci, 15, .inl zquestion)), (q5, .inl (ci, 7, .inl zorder)), (q6, .inl (ci, 7, .inl zwent)), (q7, .inl (ci, 7, .inl zfill)), (q8, .inl (ci, 5, .inl zevening))] := gD_re hD rfl
    refine lv_iload_n hx hb dX12_best_4 rfl (lv_at hl 3 rfl) ?_
    refine lv_aload_n hx hb dX12_best_5 rfl (lv_at hl 0 rfl) ?_
    refine va_get (D := D) (ci := 11) (v := .int zasked) (C := RX12) (T := TX12) (N := 23) hx hb ht in_X12 hown hK.1 hP 0 rfl rfl 9 (by decide) (ht _ mF_X12_165) (fun _ h9 => h9) rfl dX12_best_6 ?_
    refine lv_icmp_ge (tgt := 25) hx hb dX12_best_9 (by decide) (fun hc => ?_) (fun hc => ?_)
    · have hw := hw.1 hc
      exact hJ25 _ H locs ls hw hP hS (lv_sub hl [0, 1, 2] rfl)
    · have hw := hw.2 hc
      refine lv_iload_n hx hb dX12_best_12 rfl (lv_at hl 2 rfl) ?_
      refine lv_aload_n hx hb dX12_best_13 rfl (lv_at hl 0 rfl) ?_
      refine va_get (D := D) (ci := 11) (v := .int zasked) (C := RX12) (T := TX12) (N := 23) hx hb ht in_X12 hown hK.1 hP 0 rfl rfl 9 (by decide) (ht _ mF_X12_165) (fun _ h9 => h9) rfl dX12_best_14 ?_
      refine lv_imul hx hb dX12_best_17 ?_
      refine lv_istore_n (lv' := [(2, .int (x2_44 * zasked)), (0, .ref q0), (1, .int a1), (3, .int x3_45)]) hx hb dX12_best_18 rfl hl (by decide) rfl (fun ls hl => ?_)
      refine lv_iinc (v := (x3_45 + (1 : Int32))) (lv' := [(3, .int (x3_45 + (1 : Int32))), (2, .int (x2_44 * zasked)), (0, .ref q0), (1, .int a1)]) hx hb dX12_best_19 hl (k := 3) rfl rfl (by decide) rfl (fun ls hl => ?_)
      refine lv_goto (tgt := 4) hx hb dX12_best_22 (by decide) ?_
      exact hG4 _ _ H locs ls hw hP hS (lv_sub hl [2, 3, 1, 0] rfl)

def wp_X12_bits  (a0 : Int32) (post : Int32 → Prop) : Prop :=
  lo (fun _ _ => False) (fun (G4 : Int32 → Int32 → Prop) (x1_1 : Int32) (x2_2 : Int32) => (((7 : Int32) ≤ x2_2 → post x1_1 ) ∧ (¬ (7 : Int32) ≤ x2_2 → G4 (x1_1 + ((a0 >>> (x2_2 &&& 31)) &&& (1 : Int32))) (x2_2 + (1 : Int32))))) (fun G4 => G4 (0 : Int32) (0 : Int32))
set_option maxHeartbeats 4000000 in
set_option maxRecDepth 100000 in
theorem c_X12_bits (l : Launch) (D : va_G) (ci cz : ClassId) (tr : List (ClassId × FieldType)) (sz : Nat)  (a0 : Int32) (post : Int32 → Prop) (hw : wp_X12_bits a0 post) : gM l yX12_bits cX12_bits 3 (some .int) 0 0 D ci cz tr [] sz [.int a0] (gQi D [] sz (fun (r : Int32) w => w = [] ∧ post r )) := by
  refine gmet_i RX12 (by decide +kernel) rfl (Nat.le_of_ble_eq_true rfl) ?_
  intro p e s m args below meth c A R Q C hfr hlc hP hD hret ls hl
  obtain ⟨hx, hb, hml, hown, ht, hK, hZ, hA⟩ := C
  have hl : lv_has ls 3 [(0, .int a0)] := hl
  unfold wp_X12_bits at hw
  refine g_in (fun H locs => W p l e R s m args below meth c H locs 0 0 Q (F0 m 0 ls [])) (fun H locs hS0 hP => ?_) hP (va_S.rf (A := A) (H0 := s.heap))
  have hS : va_S A s.heap H locs := hS0
  clear hS0
  refine lv_iconst (v := (0 : Int32)) hx hb dX12_bits_0 (by decide) ?_
  refine lv_istore_n (lv' := [(1, .int (0 : Int32)), (0, .int a0)]) hx hb dX12_bits_1 rfl hl (by decide) rfl (fun ls hl => ?_)
  refine lv_iconst (v := (0 : Int32)) hx hb dX12_bits_2 (by decide) ?_
  refine lv_istore_n (lv' := [(2, .int (0 : Int32)), (1, .int (0 : Int32)), (0, .int a0)]) hx hb dX12_bits_3 rfl hl (by decide) rfl (fun ls hl => ?_)
  refine lo_walk hw (fun G4 => ∀ (x1_1 : Int32) (x2_2 : Int32) (H : Heap) (locs : List Loc) (ls : Array Slot), G4 x1_1 x2_2 → va_P D vwCl [] H → va_S A s.heap H locs → lv_has ls 3 [(0, .int a0), (1, .int x1_1), (2, .int x2_2)] → W p l e R s m args below meth c H locs 0 0 Q (F0 m 4 ls [])) (fun _ _ _ _ _ hw _ _ _ => False.elim hw) (fun G4 hG4 x1_1 x2_2 H locs ls hw hP hS hl => ?_) (fun G4 hG4 hw => hG4 _ _ H locs ls hw hP hS (lv_sub hl [2, 1, 0] rfl))
  have hD : va_D A [] := gD_re hD rfl
  refine lv_iload_n hx hb dX12_bits_4 rfl (lv_at hl 2 rfl) ?_
  refine lv_bipush (v := (7 : Int32)) hx hb dX12_bits_5 (by decide) ?_
  refine lv_icmp_ge (tgt := 24) hx hb dX12_bits_7 (by decide) (fun hc => ?_) (fun hc => ?_)
  · have hw := hw.1 hc
    refine lv_iload_n hx hb dX12_bits_24 rfl (lv_at hl 1 rfl) ?_
    exact hret _ _ H locs _ _ ⟨rfl, hw⟩ hP hS dX12_bits_25
  · have hw := hw.2 hc
    refine lv_iload_n hx hb dX12_bits_10 rfl (lv_at hl 1 rfl) ?_
    refine lv_iload_n hx hb dX12_bits_11 rfl (lv_at hl 0 rfl) ?_
    refine lv_iload_n hx hb dX12_bits_12 rfl (lv_at hl 2 rfl) ?_
    refine lv_ishr hx hb dX12_bits_13 ?_
    refine lv_iconst (v := (1 : Int32)) hx hb dX12_bits_14 (by decide) ?_
    refine lv_iand hx hb dX12_bits_15 ?_
    refine lv_iadd hx hb dX12_bits_16 ?_
    refine lv_istore_n (lv' := [(1, .int (x1_1 + ((a0 >>> (x2_2 &&& 31)) &&& (1 : Int32)))), (0, .int a0), (2, .int x2_2)]) hx hb dX12_bits_17 rfl hl (by decide) rfl (fun ls hl => ?_)
    refine lv_iinc (v := (x2_2 + (1 : Int32))) (lv' := [(2, .int (x2_2 + (1 : Int32))), (1, .int (x1_1 + ((a0 >>> (x2_2 &&& 31)) &&& (1 : Int32)))), (0, .int a0)]) hx hb dX12_bits_18 hl (k := 2) rfl rfl (by decide) rfl (fun ls hl => ?_)
    refine lv_goto (tgt := 4) hx hb dX12_bits_21 (by decide) ?_
    exact hG4 _ _ H locs ls hw hP hS (lv_sub hl [2, 1, 0] rfl)

def wp_X12_change (zorder : Nat → Int32) (a1 : Int32) (a2 : Int32) (post : (Nat → Int32) → Prop) : Prop :=
  (vp_in a1 7 ∧ (vp_in a2 7 ∧ (vp_in a1 7 ∧ (vp_in a2 7 ∧ post (upd (upd zorder (a1).toNatClampNeg (zorder (a2).toNatClampNeg)) (a2).toNatClampNeg (zorder (a1).toNatClampNeg))))))
set_option maxHeartbeats 4000000 in
set_option maxRecDepth 100000 in
theorem c_X12_change (l : Launch) (D : va_G) (ci cz : ClassId) (tr : List (ClassId × FieldType)) (q0 q1 : Nat) (sz : Nat) (u0 u1 u2 u3 u4 u5 u6 u7 u8 u9 u10 u11 u12 u13 u14 u15 u16 u17 u18 u19 u20 u21 : Value) (zorder : Nat → Int32) (a1 : Int32) (a2 : Int32) (post : (Nat → Int32) → Prop) (hw : wp_X12_change zorder a1 a2 post) : gM l yX12_change cX12_change 4 none 0 0 D ci cz tr [(q0, .inr (11, [u0, u1, u2, u3, u4, u5, u6, u7, u8, u9, u10, u11, u12, .ref q1, u13, u14, u15, u16, u17, u18, u19, u20, u21])), (q1, .inl (ci, 7, .inl zorder))] sz [.ref q0, .int a1, .int a2] (gQv D [(q0, .inr (11, [u0, u1, u2, u3, u4, u5, u6, u7, u8, u9, u10, u11, u12, .ref q1, u13, u14, u15, u16, u17, u18, u19, u20, u21])), (q1, .inl (ci, 7, .inl zorder))] sz (fun w => ∃ (o_zorder : Nat → Int32), w = [(q0, .inr (11, [u0, u1, u2, u3, u4, u5, u6, u7, u8, u9, u10, u11, u12, .ref q1, u13, u14, u15, u16, u17, u18, u19, u20, u21])), (q1, .inl (ci, 7, .inl o_zorder))] ∧ post o_zorder)) := by
  refine gmet_v RX12 (by decide +kernel) rfl (Nat.le_of_ble_eq_true rfl) ?_
  intro p e s m args below meth c A R Q C hfr hlc hP hD hret ls hl
  obtain ⟨hx, hb, hml, hown, ht, hK, hZ, hA⟩ := C
  have hl : lv_has ls 4 [(0, .ref q0), (1, .int a1), (2, .int a2)] := hl
  unfold wp_X12_change at hw
  refine g_in (fun H locs => W p l e R s m args below meth c H locs 0 0 Q (F0 m 0 ls [])) (fun H locs hS0 hP => ?_) hP (va_S.rf (A := A) (H0 := s.heap))
  have hS : va_S A s.heap H locs := hS0
  clear hS0
  refine lv_aload_n hx hb dX12_change_0 rfl (lv_at hl 0 rfl) ?_
  refine va_get (D := D) (ci := 11) (v := .ref q1) (C := RX12) (T := TX12) (N := 23) hx hb ht in_X12 hown hK.1 hP 0 rfl rfl 13 (by decide) (ht _ mF_X12_39) (fun _ h9 => h9) rfl dX12_change_1 ?_
  refine lv_iload_n hx hb dX12_change_4 rfl (lv_at hl 1 rfl) ?_
  obtain ⟨hin, hw⟩ := hw
  refine va_iald (D := D) hx hb hK.1 hP 1 0 rfl rfl hin dX12_change_5 ?_
  refine lv_istore_n (lv' := [(3, .int (zorder (a1).toNatClampNeg)), (0, .ref q0), (1, .int a1), (2, .int a2)]) hx hb dX12_change_6 rfl hl (by decide) rfl (fun ls hl => ?_)
  refine lv_aload_n hx hb dX12_change_7 rfl (lv_at hl 1 rfl) ?_
  refine va_get (D := D) (ci := 11) (v := .ref q1) (C := RX12) (T := TX12) (N := 23) hx hb ht in_X12 hown hK.1 hP 0 rfl rfl 13 (by decide) (ht _ mF_X12_39) (fun _ h9 => h9) rfl dX12_change_8 ?_
  refine lv_iload_n hx hb dX12_change_11 rfl (lv_at hl 2 rfl) ?_
  refine lv_aload_n hx hb dX12_change_12 rfl (lv_at hl 1 rfl) ?_
  refine va_get (D := D) (ci := 11) (v := .ref q1) (C := RX12) (T := TX12) (N := 23) hx hb ht in_X12 hown hK.1 hP 0 rfl rfl 13 (by decide) (ht _ mF_X12_39) (fun _ h9 => h9) rfl dX12_change_13 ?_
  refine lv_iload_n hx hb dX12_change_16 rfl (lv_at hl 3 rfl) ?_
  obtain ⟨hin, hw⟩ := hw
  refine va_iald (D := D) hx hb hK.1 hP 1 0 rfl rfl hin dX12_change_17 ?_
  obtain ⟨hin, hw⟩ := hw
  refine va_iast (D := D) hx hb hK.1 hP hD hS 1 0 rfl rfl hin dX12_change_18 (fun H locs hP hD hS => ?_)
  have hP : va_P D vwCl [(q0, .inr (11, [u0, u1, u2, u3, u4, u5, u6, u7, u8, u9, u10, u11, u12, .ref q1, u13, u14, u15, u16, u17, u18, u19, u20, u21])), (q1, .inl (ci, 7, .inl (upd zorder (a1).toNatClampNeg (zorder (a2).toNatClampNeg))))] H := hP
  have hD : va_D A [(q0, .inr (11, [u0, u1, u2, u3, u4, u5, u6, u7, u8, u9, u10, u11, u12, .ref q1, u13, u14, u15, u16, u17, u18, u19, u20, u21])), (q1, .inl (ci, 7, .inl (upd zorder (a1).toNatClampNeg (zorder (a2).toNatClampNeg))))] := hD
  refine lv_aload_n hx hb dX12_change_19 rfl (lv_at hl 1 rfl) ?_
  refine va_get (D := D) (ci := 11) (v := .ref q1) (C := RX12) (T := TX12) (N := 23) hx hb ht in_X12 hown hK.1 hP 0 rfl rfl 13 (by decide) (ht _ mF_X12_39) (fun _ h9 => h9) rfl dX12_change_20 ?_
  refine lv_iload_n hx hb dX12_change_23 rfl (lv_at hl 3 rfl) ?_
  refine lv_iload_n hx hb dX12_change_24 rfl (lv_at hl 0 rfl) ?_
  obtain ⟨hin, hw⟩ := hw
  refine va_iast (D := D) hx hb hK.1 hP hD hS 1 0 rfl rfl hin dX12_change_25 (fun H locs hP hD hS => ?_)
  have hP : va_P D vwCl [(q0, .inr (11, [u0, u1, u2, u3, u4, u5, u6, u7, u8, u9, u10, u11, u12, .ref q1, u13, u14, u15, u16, u17, u18, u19, u20, u21])), (q1, .inl (ci, 7, .inl (upd (upd zorder (a1).toNatClampNeg (zorder (a2).toNatClampNeg)) (a2).toNatClampNeg (zorder (a1).toNatClampNeg))))] H := hP
  have hD : va_D A [(q0, .inr (11, [u0, u1, u2, u3, u4, u5, u6, u7, u8, u9, u10, u11, u12, .ref q1, u13, u14, u15, u16, u17, u18, u19, u20, u21])), (q1, .inl (ci, 7, .inl (upd (upd zorder (a1).toNatClampNeg (zorder (a2).toNatClampNeg)) (a2).toNatClampNeg (zorder (a1).toNatClampNeg))))] := hD
  exact hret _ H locs _ _ ⟨_, rfl, hw⟩ hP hS dX12_change_26

def wp_X12_opens (zdogs : Int32) (zisTold : Nat → Int32)  (post : Int32 → Prop) : Prop :=
  lo (fun _ _ => False) (fun (G4 : Int32 → Int32 → Prop) (x1_1 : Int32) (x2_2 : Int32) => ((zdogs ≤ x2_2 → post x1_1 ) ∧ (¬ zdogs ≤ x2_2 → (vp_in x2_2 7 ∧ jn (fun (t_3 : Int32) => G4 (x1_1 + t_3) (x2_2 + (1 : Int32))) (fun (J27 : Int32 → Prop) => (((zisTold (x2_2).toNatClampNeg) = 0 → J27 (1 : Int32)) ∧ (¬ (zisTold (x2_2).toNatClampNeg) = 0 → J27 (0 : Int32)))))))) (fun G4 => G4 (0 : Int32) (0 : Int32))
set_option maxHeartbeats 4000000 in
set_option maxRecDepth 100000 in
theorem c_X12_opens (l : Launch) (D : va_G) (ci cz : ClassId) (tr : List (ClassId × FieldType)) (q0 q1 : Nat) (sz : Nat) (u0 u1 u2 u3 u4 u5 u6 u7 u8 u9 u10 u11 u12 u13 u14 u15 u16 u17 u18 u19 u20 : Value) (zdogs : Int32) (zisTold : Nat → Int32)  (post : Int32 → Prop) (hw : wp_X12_opens zdogs zisTold post) : gM l yX12_opens cX12_opens 3 (some .int) 0 0 D ci cz tr [(q0, .inr (11, [.int zdogs, u0, u1, .ref q1, u2, u3, u4, u5, u6, u7, u8, u9, u10, u11, u12, u13, u14, u15, u16, u17, u18, u19, u20])), (q1, .inl (cz, 7, .inl zisTold))] sz [.ref q0] (gQi D [(q0, .inr (11, [.int zdogs, u0, u1, .ref q1, u2, u3, u4, u5, u6, u7, u8, u9, u10, u11, u12, u13, u14, u15, u16, u17, u18, u19, u20])), (q1, .inl (cz, 7, .inl zisTold))] sz (fun (r : Int32) w => w = [(q0, .inr (11, [.int zdogs, u0, u1, .ref q1, u2, u3, u4, u5, u6, u7, u8, u9, u10, u11, u12, u13, u14, u15, u16, u17, u18, u19, u20])), (q1, .inl (cz, 7, .inl zisTold))] ∧ post r )) := by
  refine gmet_i RX12 (by decide +kernel) rfl (Nat.le_of_ble_eq_true rfl) ?_
  intro p e s m args below meth c A R Q C hfr hlc hP hD hret ls hl
  obtain ⟨hx, hb, hml, hown, ht, hK, hZ, hA⟩ := C
  have hl : lv_has ls 3 [(0, .ref q0)] := hl
  unfold wp_X12_opens at hw
  refine g_in (fun H locs => W p l e R s m args below meth c H locs 0 0 Q (F0 m 0 ls [])) (fun H locs hS0 hP => ?_) hP (va_S.rf (A := A) (H0 := s.heap))
  have hS : va_S A s.heap H locs := hS0
  clear hS0
  refine lv_iconst (v := (0 : Int32)) hx hb dX12_opens_0 (by decide) ?_
  refine lv_istore_n (lv' := [(1, .int (0 : Int32)), (0, .ref q0)]) hx hb dX12_opens_1 rfl hl (by decide) rfl (fun ls hl => ?_)
  refine lv_iconst (v := (0 : Int32)) hx hb dX12_opens_2 (by decide) ?_
  refine lv_istore_n (lv' := [(2, .int (0 : Int32)), (1, .int (0 : Int32)), (0, .ref q0)]) hx hb dX12_opens_3 rfl hl (by decide) rfl (fun ls hl => ?_)
  refine lo_walk hw (fun G4 => ∀ (x1_1 : Int32) (x2_2 : Int32) (H : Heap) (locs : List Loc) (ls : Array Slot), G4 x1_1 x2_2 → va_P D vwCl [(q0, .inr (11, [.int zdogs, u0, u1, .ref q1, u2, u3, u4, u5, u6, u7, u8, u9, u10, u11, u12, u13, u14, u15, u16, u17, u18, u19, u20])), (q1, .inl (cz, 7, .inl zisTold))] H → va_S A s.heap H locs → lv_has ls 3 [(0, .ref q0), (1, .int x1_1), (2, .int x2_2)] → W p l e R s m args below meth c H locs 0 0 Q (F0 m 4 ls [])) (fun _ _ _ _ _ hw _ _ _ => False.elim hw) (fun G4 hG4 x1_1 x2_2 H locs ls hw hP hS hl => ?_) (fun G4 hG4 hw => hG4 _ _ H locs ls hw hP hS (lv_sub hl [2, 1, 0] rfl))
  have hD : va_D A [(q0, .inr (11, [.int zdogs, u0, u1, .ref q1, u2, u3, u4, u5, u6, u7, u8, u9, u10, u11, u12, u13, u14, u15, u16, u17, u18, u19, u20])), (q1, .inl (cz, 7, .inl zisTold))] := gD_re hD rfl
  refine lv_iload_n hx hb dX12_opens_4 rfl (lv_at hl 2 rfl) ?_
  refine lv_aload_n hx hb dX12_opens_5 rfl (lv_at hl 0 rfl) ?_
  refine va_get (D := D) (ci := 11) (v := .int zdogs) (C := RX12) (T := TX12) (N := 23) hx hb ht in_X12 hown hK.1 hP 0 rfl rfl 0 (by decide) (ht _ mF_X12_63) (fun _ h9 => h9) rfl dX12_opens_6 ?_
  refine lv_icmp_ge (tgt := 35) hx hb dX12_opens_9 (by decide) (fun hc => ?_) (fun hc => ?_)
  · have hw := hw.1 hc
    refine lv_iload_n hx hb dX12_opens_35 rfl (lv_at hl 1 rfl) ?_
    exact hret _ _ H locs _ _ ⟨rfl, hw⟩ hP hS dX12_opens_36
  · have hw := hw.2 hc
    refine lv_iload_n hx hb dX12_opens_12 rfl (lv_at hl 1 rfl) ?_
    refine lv_aload_n hx hb dX12_opens_13 rfl (lv_at hl 0 rfl) ?_
    refine va_get (D := D) (ci := 11) (v := .ref q1) (C := RX12) (T := TX12) (N := 23) hx hb ht in_X12 hown hK.1 hP 0 rfl rfl 3 (by decide) (ht _ mF_X12_16) (fun _ h9 => h9) rfl dX12_opens_14 ?_
    refine lv_iload_n hx hb dX12_opens_17 rfl (lv_at hl 2 rfl) ?_
    obtain ⟨hin, hw⟩ := hw
    refine va_zald (D := D) hx hb hK.1 hP 1 1 rfl rfl hin dX12_opens_18 ?_
    refine jn_walk hw (fun J27 => ∀ (t_3 : Int32) (H : Heap) (locs : List Loc) (ls : Array Slot), J27 t_3 → va_P D vwCl [(q0, .inr (11, [.int zdogs, u0, u1, .ref q1, u2, u3, u4, u5, u6, u7, u8, u9, u10, u11, u12, u13, u14, u15, u16, u17, u18, u19, u20])), (q1, .inl (cz, 7, .inl zisTold))] H → va_S A s.heap H locs → lv_has ls 3 [(0, .ref q0), (2, .int x2_2)] → W p l e R s m args below meth c H locs 0 0 Q (F0 m 27 ls [.int t_3, .int x1_1])) ?_ ?_
    · intro t_3 H locs ls hw hP hS hl
      have hD : va_D A [(q0, .inr (11, [.int zdogs, u0, u1, .ref q1, u2, u3, u4, u5, u6, u7, u8, u9, u10, u11, u12, u13, u14, u15, u16, u17, u18, u19, u20])), (q1, .inl (cz, 7, .inl zisTold))] := gD_re hD rfl
      refine lv_iadd hx hb dX12_opens_27 ?_
      refine lv_istore_n (lv' := [(1, .int (x1_1 + t_3)), (0, .ref q0), (2, .int x2_2)]) hx hb dX12_opens_28 rfl hl (by decide) rfl (fun ls hl => ?_)
      refine lv_iinc (v := (x2_2 + (1 : Int32))) (lv' := [(2, .int (x2_2 + (1 : Int32))), (1, .int (x1_1 + t_3)), (0, .ref q0)]) hx hb dX12_opens_29 hl (k := 2) rfl rfl (by decide) rfl (fun ls hl => ?_)
      refine lv_goto (tgt := 4) hx hb dX12_opens_32 (by decide) ?_
      exact hG4 _ _ H locs ls hw hP hS (lv_sub hl [2, 1, 0] rfl)
    · intro J27 hJ27 hw
      refine lv_if_eq (tgt := 26) hx hb dX12_opens_19 (by decide) (fun hc => ?_) (fun hc => ?_)
      · have hw := hw.1 hc
        refine lv_iconst (v := (1 : Int32)) hx hb dX12_opens_26 (by decide) ?_
        exact hJ27 _ H locs ls hw hP hS (lv_sub hl [0, 2] rfl)
      · have hw := hw.2 hc
        refine lv_iconst (v := (0 : Int32)) hx hb dX12_opens_22 (by decide) ?_
        refine lv_goto (tgt := 27) hx hb dX12_opens_23 (by decide) ?_
        exact hJ27 _ H locs ls hw hP hS (lv_sub hl [0, 2] rfl)

def wp_X12_codes (zdogs : Int32) (zisTold : Nat → Int32)  (post : Int32 → Prop) : Prop :=
  lo (fun _ _ => False) (fun (G4 : Int32 → Int32 → Prop) (x1_1 : Int32) (x2_2 : Int32) => wp_X12_opens zdogs zisTold (fun (r_3 : Int32) => ((r_3 ≤ x2_2 → post x1_1 ) ∧ (¬ r_3 ≤ x2_2 → G4 (x1_1 * (19 : Int32)) (x2_2 + (1 : Int32)))))) (fun G4 => G4 (1 : Int32) (0 : Int32))
set_option maxHeartbeats 4000000 in
set_option maxRecDepth 100000 in
theorem c_X12_codes (l : Launch) (D : va_G) (ci cz : ClassId) (tr : List (ClassId × FieldType)) (q0 q1 : Nat) (sz : Nat) (u0 u1 u2 u3 u4 u5 u6 u7 u8 u9 u10 u11 u12 u13 u14 u15 u16 u17 u18 u19 u20 : Value) (zdogs : Int32) (zisTold : Nat → Int32)  (post : Int32 → Prop) (hw : wp_X12_codes zdogs zisTold post) : gM l yX12_codes cX12_codes 3 (some .int) 1 22 D ci cz tr [(q0, .inr (11, [.int zdogs, u0, u1, .ref q1, u2, u3, u4, u5, u6, u7, u8, u9, u10, u11, u12, u13, u14, u15, u16, u17, u18, u19, u20])), (q1, .inl (cz, 7, .inl zisTold))] sz [.ref q0] (gQi D [(q0, .inr (11, [.int zdogs, u0, u1, .ref q1, u2, u3, u4, u5, u6, u7, u8, u9, u10, u11, u12, u13, u14, u15, u16, u17, u18, u19, u20])), (q1, .inl (cz, 7, .inl zisTold))] sz (fun (r : Int32) w => w = [(q0, .inr (11, [.int zdogs, u0, u1, .ref q1, u2, u3, u4, u5, u6, u7, u8, u9, u10, u11, u12, u13, u14, u15, u16, u17, u18, u19, u20])), (q1, .inl (cz, 7, .inl zisTold))] ∧ post r )) := by
  refine gmet_i RX12 (by decide +kernel) rfl (Nat.le_of_ble_eq_true rfl) ?_
  intro p e s m args below meth c A R Q C hfr hlc hP hD hret ls hl
  obtain ⟨hx, hb, hml, hown, ht, hK, hZ, hA⟩ := C
  have hl : lv_has ls 3 [(0, .ref q0)] := hl
  unfold wp_X12_codes at hw
  refine g_in (fun H locs => W p l e R s m args below meth c H locs 0 0 Q (F0 m 0 ls [])) (fun H locs hS0 hP => ?_) hP (va_S.rf (A := A) (H0 := s.heap))
  have hS : va_S A s.heap H locs := hS0
  clear hS0
  refine lv_iconst (v := (1 : Int32)) hx hb dX12_codes_0 (by decide) ?_
  refine lv_istore_n (lv' := [(1, .int (1 : Int32)), (0, .ref q0)]) hx hb dX12_codes_1 rfl hl (by decide) rfl (fun ls hl => ?_)
  refine lv_iconst (v := (0 : Int32)) hx hb dX12_codes_2 (by decide) ?_
  refine lv_istore_n (lv' := [(2, .int (0 : Int32)), (1, .int (1 : Int32)), (0, .ref q0)]) hx hb dX12_codes_3 rfl hl (by decide) rfl (fun ls hl => ?_)
  refine lo_walk hw (fun G4 => ∀ (x1_1 : Int32) (x2_2 : Int32) (H : Heap) (locs : List Loc) (ls : Array Slot), G4 x1_1 x2_2 → va_P D vwCl [(q0, .inr (11, [.int zdogs, u0, u1, .ref q1, u2, u3, u4, u5, u6, u7, u8, u9, u10, u11, u12, u13, u14, u15, u16, u17, u18, u19, u20])), (q1, .inl (cz, 7, .inl zisTold))] H → va_S A s.heap H locs → lv_has ls 3 [(0, .ref q0), (1, .int x1_1), (2, .int x2_2)] → W p l e R s m args below meth c H locs 0 0 Q (F0 m 4 ls [])) (fun _ _ _ _ _ hw _ _ _ => False.elim hw) (fun G4 hG4 x1_1 x2_2 H locs ls hw hP hS hl => ?_) (fun G4 hG4 hw => hG4 _ _ H locs ls hw hP hS (lv_sub hl [2, 1, 0] rfl))
  have hD : va_D A [(q0, .inr (11, [.int zdogs, u0, u1, .ref q1, u2, u3, u4, u5, u6, u7, u8, u9, u10, u11, u12, u13, u14, u15, u16, u17, u18, u19, u20])), (q1, .inl (cz, 7, .inl zisTold))] := gD_re hD rfl
  refine lv_iload_n hx hb dX12_codes_4 rfl (lv_at hl 2 rfl) ?_
  refine lv_aload_n hx hb dX12_codes_5 rfl (lv_at hl 0 rfl) ?_
  refine gcalli (va_runV (As := []) (rest := [.int x2_2]) ⟨hx, hb, hml, hown, ht⟩ (c_X12_opens l D ci cz tr q0 q1 H.size u0 u1 u2 u3 u4 u5 u6 u7 u8 u9 u10 u11 u12 u13 u14 u15 u16 u17 u18 u19 u20 zdogs zisTold _ hw) (cwV 0 ht (gi_V mM_X12_153 mI_X12_opens mS_X12_opens mN_X12 mC_X12_opens) rfl rfl rfl (by decide +kernel) ⟨Nat.le_trans (Nat.le_of_ble_eq_true rfl) hfr, Nat.le_trans (Nat.le_of_ble_eq_true rfl) hlc⟩) (gpreV (wc := [(q0, .inr (11, [.int zdogs, u0, u1, .ref q1, u2, u3, u4, u5, u6, u7, u8, u9, u10, u11, u12, u13, u14, u15, u16, u17, u18, u19, u20])), (q1, .inl (cz, 7, .inl zisTold))]) (k := 11) (q0 := 0) hK hZ hP hD hS hA [0, 1] rfl rfl rfl rfl rfl) rfl rfl hl.1 rfl (lv_room (Nat.le_of_ble_eq_true rfl)) dX12_codes_6 ⟨Nat.zero_le _, Nat.zero_le _⟩) hD hS hA [0, 1] rfl (fun r_3 w9 H locs hw hP9 hk9 hS => ?_)
  obtain ⟨rfl, hw⟩ := hw
  have hP : va_P D vwCl [(q0, .inr (11, [.int zdogs, u0, u1, .ref q1, u2, u3, u4, u5, u6, u7, u8, u9, u10, u11, u12, u13, u14, u15, u16, u17, u18, u19, u20])), (q1, .inl (cz, 7, .inl zisTold))] H := gjoin3 hP hD [0, 1] hP9 hk9 rfl rfl [some 0, some 1] rfl rfl
  clear hP9 hk9
  refine lv_icmp_ge (tgt := 23) hx hb dX12_codes_9 (by decide) (fun hc => ?_) (fun hc => ?_)
  · have hw := hw.1 hc
    refine lv_iload_n hx hb dX12_codes_23 rfl (lv_at hl 1 rfl) ?_
    exact hret _ _ H locs _ _ ⟨rfl, hw⟩ hP hS dX12_codes_24
  · have hw := hw.2 hc
    refine lv_iload_n hx hb dX12_codes_12 rfl (lv_at hl 1 rfl) ?_
    refine lv_bipush (v := (19 : Int32)) hx hb dX12_codes_13 (by decide) ?_
    refine lv_imul hx hb dX12_codes_15 ?_
    refine lv_istore_n (lv' := [(1, .int (x1_1 * (19 : Int32))), (0, .ref q0), (2, .int x2_2)]) hx hb dX12_codes_16 rfl hl (by decide) rfl (fun ls hl => ?_)
    refine lv_iinc (v := (x2_2 + (1 : Int32))) (lv' := [(2, .int (x2_2 + (1 : Int32))), (1, .int (x1_1 * (19 : Int32))), (0, .ref q0)]) hx hb dX12_codes_17 hl (k := 2) rfl rfl (by decide) rfl (fun ls hl => ?_)
    refine lv_goto (tgt := 4) hx hb dX12_codes_20 (by decide) ?_
    exact hG4 _ _ H locs ls hw hP hS (lv_sub hl [2, 1, 0] rfl)

def wp_X12_counted (zcounts : Int32) (zcount : Nat → Int32) (a1 : Int32) (a2 : Int32) (a3 : Int32) (post : Int32 → Int32 → (Nat → Int32) → Prop) : Prop :=
  wp_X12_areLivers a1 a2 (fun (r_1 : Int32) => ((r_1 = 0 → post (-2 : Int32) zcounts zcount) ∧ (¬ r_1 = 0 → wp_X12_in a3 (0 : Int32) (63 : Int32) (fun (r_2 : Int32) => ((¬ r_2 = 0 → ((¬ zcounts = (6 : Int32) → (vp_in ((3 : Int32) * zcounts) 18 ∧ (vp_in (((3 : Int32) * zcounts) + (1 : Int32)) 18 ∧ (vp_in (((3 : Int32) * zcounts) + (2 : Int32)) 18 ∧ post (zcounts + (1 : Int32)) (zcounts + (1 : Int32)) (upd (upd (upd zcount (((3 : Int32) * zcounts)).toNatClampNeg a1) ((((3 : Int32) * zcounts) + (1 : Int32))).toNatClampNeg a2) ((((3 : Int32) * zcounts) + (2 : Int32))).toNatClampNeg a3))))) ∧ (zcounts = (6 : Int32) → post (-4 : Int32) zcounts zcount))) ∧ (r_2 = 0 → post (-2 : Int32) zcounts zcount))))))
set_option maxHeartbeats 4000000 in
set_option maxRecDepth 100000 in
theorem c_X12_counted (l : Launch) (D : va_G) (ci cz : ClassId) (tr : List (ClassId × FieldType)) (q0 q1 : Nat) (sz : Nat) (u0 u1 u2 u3 u4 u5 u6 u7 u8 u9 u10 u11 u12 u13 u14 u15 u16 u17 u18 u19 u20 : Value) (zcounts : Int32) (zcount : Nat → Int32) (a1 : Int32) (a2 : Int32) (a3 : Int32) (post : Int32 → Int32 → (Nat → Int32) → Prop) (hw : wp_X12_counted zcounts zcount a1 a2 a3 post) : gM l yX12_counted cX12_counted 4 (some .int) 2 43 D ci cz tr [(q0, .inr (11, [u0, u1, u2, u3, u4, u5, u6, .int zcounts, .ref q1, u7, u8, u9, u10, u11, u12, u13, u14, u15, u16, u17, u18, u19, u20])), (q1, .inl (ci, 18, .inl zcount))] sz [.ref q0, .int a1, .int a2, .int a3] (gQi D [(q0, .inr (11, [u0, u1, u2, u3, u4, u5, u6, .int zcounts, .ref q1, u7, u8, u9, u10, u11, u12, u13, u14, u15, u16, u17, u18, u19, u20])), (q1, .inl (ci, 18, .inl zcount))] sz (fun (r : Int32) w => ∃ (o_zcounts : Int32) (o_zcount : Nat → Int32), w = [(q0, .inr (11, [u0, u1, u2, u3, u4, u5, u6, .int o_zcounts, .ref q1, u7, u8, u9, u10, u11, u12, u13, u14, u15, u16, u17, u18, u19, u20])), (q1, .inl (ci, 18, .inl o_zcount))] ∧ post r o_zcounts o_zcount)) := by
  refine gmet_i RX12 (by decide +kernel) rfl (Nat.le_of_ble_eq_true rfl) ?_
  intro p e s m args below meth c A R Q C hfr hlc hP hD hret ls hl
  obtain ⟨hx, hb, hml, hown, ht, hK, hZ, hA⟩ := C
  have hl : lv_has ls 4 [(0, .ref q0), (1, .int a1), (2, .int a2), (3, .int a3)] := hl
  unfold wp_X12_counted at hw
  refine g_in (fun H locs => W p l e R s m args below meth c H locs 0 0 Q (F0 m 0 ls [])) (fun H locs hS0 hP => ?_) hP (va_S.rf (A := A) (H0 := s.heap))
  have hS : va_S A s.heap H locs := hS0
  clear hS0
  refine lv_iload_n hx hb dX12_counted_0 rfl (lv_at hl 1 rfl) ?_
  refine lv_iload_n hx hb dX12_counted_1 rfl (lv_at hl 2 rfl) ?_
  refine gcalli (va_runS (As := [.int a1, .int a2]) (rest := []) ⟨hx, hb, hml, hown, ht⟩ (c_X12_areLivers l D ci cz tr  H.size a1 a2 _ hw) (va_cwS 2 ht (gi_S mM_X12_107 mT_X12_areLivers mN_X12 mC_X12_areLivers) rfl rfl rfl (by decide +kernel) ⟨Nat.le_trans (Nat.le_of_ble_eq_true rfl) hfr, Nat.le_trans (Nat.le_of_ble_eq_true rfl) hlc⟩) (gpre (wc := []) hK hZ hP hD hS hA [] rfl rfl) rfl rfl hl.1 rfl (lv_room (Nat.le_of_ble_eq_true rfl)) dX12_counted_2 ⟨Nat.zero_le _, Nat.zero_le _⟩) hD hS hA [] rfl (fun r_1 w9 H locs hw hP9 hk9 hS => ?_)
  obtain ⟨rfl, hw⟩ := hw
  have hP : va_P D vwCl [(q0, .inr (11, [u0, u1, u2, u3, u4, u5, u6, .int zcounts, .ref q1, u7, u8, u9, u10, u11, u12, u13, u14, u15, u16, u17, u18, u19, u20])), (q1, .inl (ci, 18, .inl zcount))] H := gjoin3 hP hD [] hP9 hk9 rfl rfl [none, none] rfl rfl
  clear hP9 hk9
  refine lv_if_eq (tgt := 18) hx hb dX12_counted_5 (by decide) (fun hc => ?_) (fun hc => ?_)
  · have hw := hw.1 hc
    refine lv_bipush (v := (-2 : Int32)) hx hb dX12_counted_18 (by decide) ?_
    exact hret _ _ H locs _ _ ⟨_, _, rfl, hw⟩ hP hS dX12_counted_20
  · have hw := hw.2 hc
    refine lv_iload_n hx hb dX12_counted_8 rfl (lv_at hl 3 rfl) ?_
    refine lv_iconst (v := (0 : Int32)) hx hb dX12_counted_9 (by decide) ?_
    refine lv_bipush (v := (63 : Int32)) hx hb dX12_counted_10 (by decide) ?_
    refine gcalli (va_runS (As := [.int a3, .int (0 : Int32), .int (63 : Int32)]) (rest := []) ⟨hx, hb, hml, hown, ht⟩ (c_X12_in l D ci cz tr  H.size a3 (0 : Int32) (63 : Int32) _ hw) (va_cwS 3 ht (gi_S mM_X12_66 mT_X12_in mN_X12 mC_X12_in) rfl rfl rfl (by decide +kernel) ⟨Nat.le_trans (Nat.le_of_ble_eq_true rfl) hfr, Nat.le_trans (Nat.le_of_ble_eq_true rfl) hlc⟩) (gpre (wc := []) hK hZ hP hD hS hA [] rfl rfl) rfl rfl hl.1 rfl (lv_room (Nat.le_of_ble_eq_true rfl)) dX12_counted_12 ⟨Nat.zero_le _, Nat.zero_le _⟩) hD hS hA [] rfl (fun r_2 w9 H locs hw hP9 hk9 hS => ?_)
    obtain ⟨rfl, hw⟩ := hw
    have hP : va_P D vwCl [(q0, .inr (11, [u0, u1, u2, u3, u4, u5, u6, .int zcounts, .ref q1, u7, u8, u9, u10, u11, u12, u13, u14, u15, u16, u17, u18, u19, u20])), (q1, .inl (ci, 18, .inl zcount))] H := gjoin3 hP hD [] hP9 hk9 rfl rfl [none, none] rfl rfl
    clear hP9 hk9
    refine lv_if_ne (tgt := 21) hx hb dX12_counted_15 (by decide) (fun hc => ?_) (fun hc => ?_)
    · have hw := hw.1 hc
      refine lv_aload_n hx hb dX12_counted_21 rfl (lv_at hl 0 rfl) ?_
      refine va_get (D := D) (ci := 11) (v := .int zcounts) (C := RX12) (T := TX12) (N := 23) hx hb ht in_X12 hown hK.1 hP 0 rfl rfl 7 (by decide) (ht _ mF_X12_77) (fun _ h9 => h9) rfl dX12_counted_22 ?_
      refine lv_bipush (v := (6 : Int32)) hx hb dX12_counted_25 (by decide) ?_
      refine lv_icmp_ne (tgt := 33) hx hb dX12_counted_27 (by decide) (fun hc => ?_) (fun hc => ?_)
      · have hw := hw.1 hc
        refine lv_aload_n hx hb dX12_counted_33 rfl (lv_at hl 0 rfl) ?_
        refine va_get (D := D) (ci := 11) (v := .ref q1) (C := RX12) (T := TX12) (N := 23) hx hb ht in_X12 hown hK.1 hP 0 rfl rfl 8 (by decide) (ht _ mF_X12_30) (fun _ h9 => h9) rfl dX12_counted_34 ?_
        refine lv_iconst (v := (3 : Int32)) hx hb dX12_counted_37 (by decide) ?_
        refine lv_aload_n hx hb dX12_counted_38 rfl (lv_at hl 0 rfl) ?_
        refine va_get (D := D) (ci := 11) (v := .int zcounts) (C := RX12) (T := TX12) (N := 23) hx hb ht in_X12 hown hK.1 hP 0 rfl rfl 7 (by decide) (ht _ mF_X12_77) (fun _ h9 => h9) rfl dX12_counted_39 ?_
        refine lv_imul hx hb dX12_counted_42 ?_
        refine lv_iload_n hx hb dX12_counted_43 rfl (lv_at hl 1 rfl) ?_
        obtain ⟨hin, hw⟩ := hw
        refine va_iast (D := D) hx hb hK.1 hP hD hS 1 0 rfl rfl hin dX12_counted_44 (fun H locs hP hD hS => ?_)
        have hP : va_P D vwCl [(q0, .inr (11, [u0, u1, u2, u3, u4, u5, u6, .int zcounts, .ref q1, u7, u8, u9, u10, u11, u12, u13, u14, u15, u16, u17, u18, u19, u20])), (q1, .inl (ci, 18, .inl (upd zcount (((3 : Int32) * zcounts)).toNatClampNeg a1)))] H := hP
        have hD : va_D A [(q0, .inr (11, [u0, u1, u2, u3, u4, u5, u6, .int zcounts, .ref q1, u7, u8, u9, u10, u11, u12, u13, u14, u15, u16, u17, u18, u19, u20])), (q1, .inl (ci, 18, .inl (upd zcount (((3 : Int32) * zcounts)).toNatClampNeg a1)))] := hD
        refine lv_aload_n hx hb dX12_counted_45 rfl (lv_at hl 0 rfl) ?_
        refine va_get (D := D) (ci := 11) (v := .ref q1) (C := RX12) (T := TX12) (N := 23) hx hb ht in_X12 hown hK.1 hP 0 rfl rfl 8 (by decide) (ht _ mF_X12_30) (fun _ h9 => h9) rfl dX12_counted_46 ?_
        refine lv_iconst (v := (3 : Int32)) hx hb dX12_counted_49 (by decide) ?_
        refine lv_aload_n hx hb dX12_counted_50 rfl (lv_at hl 0 rfl) ?_
        refine va_get (D := D) (ci := 11) (v := .int zcounts) (C := RX12) (T := TX12) (N := 23) hx hb ht in_X12 hown hK.1 hP 0 rfl rfl 7 (by decide) (ht _ mF_X12_77) (fun _ h9 => h9) rfl dX12_counted_51 ?_
        refine lv_imul hx hb dX12_counted_54 ?_
        refine lv_iconst (v := (1 : Int32)) hx hb dX12_counted_55 (by decide) ?_
        refine lv_iadd hx hb dX12_counted_56 ?_
        refine lv_iload_n hx hb dX12_counted_57 rfl (lv_at hl 2 rfl) ?_
        obtain ⟨hin, hw⟩ := hw
        refine va_iast (D := D) hx hb hK.1 hP hD hS 1 0 rfl rfl hin dX12_counted_58 (fun H locs hP hD hS => ?_)
        have hP : va_P D vwCl [(q0, .inr (11, [u0, u1, u2, u3, u4, u5, u6, .int zcounts, .ref q1, u7, u8, u9, u10, u11, u12, u13, u14, u15, u16, u17, u18, u19, u20])), (q1, .inl (ci, 18, .inl (upd (upd zcount (((3 : Int32) * zcounts)).toNatClampNeg a1) ((((3 : Int32) * zcounts) + (1 : Int32))).toNatClampNeg a2)))] H := hP
        have hD : va_D A [(q0, .inr (11, [u0, u1, u2, u3, u4, u5, u6, .int zcounts, .ref q1, u7, u8, u9, u10, u11, u12, u13, u14, u15, u16, u17, u18, u19, u20])), (q1, .inl (ci, 18, .inl (upd (upd zcount (((3 : Int32) * zcounts)).toNatClampNeg a1) ((((3 : Int32) * zcounts) + (1 : Int32))).toNatClampNeg a2)))] := hD
        refine lv_aload_n hx hb dX12_counted_59 rfl (lv_at hl 0 rfl) ?_
        refine va_get (D := D) (ci := 11) (v := .ref q1) (C := RX12) (T := TX12) (N := 23) hx hb ht in_X12 hown hK.1 hP 0 rfl rfl 8 (by decide) (ht _ mF_X12_30) (fun _ h9 => h9) rfl dX12_counted_60 ?_
        refine lv_iconst (v := (3 : Int32)) hx hb dX12_counted_63 (by decide) ?_
        refine lv_aload_n hx hb dX12_counted_64 rfl (lv_at hl 0 rfl) ?_
        refine va_get (D := D) (ci := 11) (v := .int zcounts) (C := RX12) (T := TX12) (N := 23) hx hb ht in_X12 hown hK.1 hP 0 rfl rfl 7 (by decide) (ht _ mF_X12_77) (fun _ h9 => h9) rfl dX12_counted_65 ?_
        refine lv_imul hx hb dX12_counted_68 ?_
        refine lv_iconst (v := (2 : Int32)) hx hb dX12_counted_69 (by decide) ?_
        refine lv_iadd hx hb dX12_counted_70 ?_
        refine lv_iload_n hx hb dX12_counted_71 rfl (lv_at hl 3 rfl) ?_
        obtain ⟨hin, hw⟩ := hw
        refine va_iast (D := D) hx hb hK.1 hP hD hS 1 0 rfl rfl hin dX12_counted_72 (fun H locs hP hD hS => ?_)
        have hP : va_P D vwCl [(q0, .inr (11, [u0, u1, u2, u3, u4, u5, u6, .int zcounts, .ref q1, u7, u8, u9, u10, u11, u12, u13, u14, u15, u16, u17, u18, u19, u20])), (q1, .inl (ci, 18, .inl (upd (upd (upd zcount (((3 : Int32) * zcounts)).toNatClampNeg a1) ((((3 : Int32) * zcounts) + (1 : Int32))).toNatClampNeg a2) ((((3 : Int32) * zcounts) + (2 : Int32))).toNatClampNeg a3)))] H := hP
        have hD : va_D A [(q0, .inr (11, [u0, u1, u2, u3, u4, u5, u6, .int zcounts, .ref q1, u7, u8, u9, u10, u11, u12, u13, u14, u15, u16, u17, u18, u19, u20])), (q1, .inl (ci, 18, .inl (upd (upd (upd zcount (((3 : Int32) * zcounts)).toNatClampNeg a1) ((((3 : Int32) * zcounts) + (1 : Int32))).toNatClampNeg a2) ((((3 : Int32) * zcounts) + (2 : Int32))).toNatClampNeg a3)))] := hD
        refine lv_aload_n hx hb dX12_counted_73 rfl (lv_at hl 0 rfl) ?_
        refine lv_dup hx hb dX12_counted_74 rfl ?_
        refine va_get (D := D) (ci := 11) (v := .int zcounts) (C := RX12) (T := TX12) (N := 23) hx hb ht in_X12 hown hK.1 hP 0 rfl rfl 7 (by decide) (ht _ mF_X12_77) (fun _ h9 => h9) rfl dX12_counted_75 ?_
        refine lv_iconst (v := (1 : Int32)) hx hb dX12_counted_78 (by decide) ?_
        refine lv_iadd hx hb dX12_counted_79 ?_
        refine va_put (D := D) (ci := 11) (v := .int (zcounts + (1 : Int32))) (ty := .int) (C := RX12) (T := TX12) (N := 23) hx hb ht in_X12 tyX12 tyX12_ok nmX12 hown hK.1 hP hD hS 0 rfl rfl 7 (by decide) (ht _ mF_X12_77) (fun _ h9 => h9) rfl (by decide +kernel) rfl rfl (Nat.le_of_ble_eq_true rfl) dX12_counted_80 (fun H locs hP hD hS => ?_)
        have hP : va_P D vwCl [(q0, .inr (11, [u0, u1, u2, u3, u4, u5, u6, .int (zcounts + (1 : Int32)), .ref q1, u7, u8, u9, u10, u11, u12, u13, u14, u15, u16, u17, u18, u19, u20])), (q1, .inl (ci, 18, .inl (upd (upd (upd zcount (((3 : Int32) * zcounts)).toNatClampNeg a1) ((((3 : Int32) * zcounts) + (1 : Int32))).toNatClampNeg a2) ((((3 : Int32) * zcounts) + (2 : Int32))).toNatClampNeg a3)))] H := hP
        have hD : va_D A [(q0, .inr (11, [u0, u1, u2, u3, u4, u5, u6, .int (zcounts + (1 : Int32)), .ref q1, u7, u8, u9, u10, u11, u12, u13, u14, u15, u16, u17, u18, u19, u20])), (q1, .inl (ci, 18, .inl (upd (upd (upd zcount (((3 : Int32) * zcounts)).toNatClampNeg a1) ((((3 : Int32) * zcounts) + (1 : Int32))).toNatClampNeg a2) ((((3 : Int32) * zcounts) + (2 : Int32))).toNatClampNeg a3)))] := hD
        refine lv_aload_n hx hb dX12_counted_83 rfl (lv_at hl 0 rfl) ?_
        refine va_get (D := D) (ci := 11) (v := .int (zcounts + (1 : Int32))) (C := RX12) (T := TX12) (N := 23) hx hb ht in_X12 hown hK.1 hP 0 rfl rfl 7 (by decide) (ht _ mF_X12_77) (fun _ h9 => h9) rfl dX12_counted_84 ?_
        exact hret _ _ H locs _ _ ⟨_, _, rfl, hw⟩ hP hS dX12_counted_87
      · have hw := hw.2 hc
        refine lv_bipush (v := (-4 : Int32)) hx hb dX12_counted_30 (by decide) ?_
        exact hret _ _ H locs _ _ ⟨_, _, rfl, hw⟩ hP hS dX12_counted_32
    · have hw := hw.2 hc
      refine lv_bipush (v := (-2 : Int32)) hx hb dX12_counted_18 (by decide) ?_
      exact hret _ _ H locs _ _ ⟨_, _, rfl, hw⟩ hP hS dX12_counted_20

def wp_X12_dead (zdogs : Int32) (zhalves : Nat → Int32)  (post : Int32 → Prop) : Prop :=
  lo (fun _ _ => False) (fun (G4 : Int32 → Int32 → Prop) (x1_1 : Int32) (x2_2 : Int32) => ((zdogs ≤ x2_2 → post x1_1 ) ∧ (¬ zdogs ≤ x2_2 → (vp_in x2_2 7 ∧ jn (fun (t_3 : Int32) => G4 (x1_1 ||| t_3) (x2_2 + (1 : Int32))) (fun (J29 : Int32 → Prop) => ((¬ (zhalves (x2_2).toNatClampNeg) = 0 → J29 (0 : Int32)) ∧ ((zhalves (x2_2).toNatClampNeg) = 0 → J29 ((1 : Int32) <<< (x2_2 &&& 31))))))))) (fun G4 => G4 (0 : Int32) (0 : Int32))
set_option maxHeartbeats 4000000 in
set_option maxRecDepth 100000 in
theorem c_X12_dead (l : Launch) (D : va_G) (ci cz : ClassId) (tr : List (ClassId × FieldType)) (q0 q1 : Nat) (sz : Nat) (u0 u1 u2 u3 u4 u5 u6 u7 u8 u9 u10 u11 u12 u13 u14 u15 u16 u17 u18 u19 u20 : Value) (zdogs : Int32) (zhalves : Nat → Int32)  (post : Int32 → Prop) (hw : wp_X12_dead zdogs zhalves post) : gM l yX12_dead cX12_dead 3 (some .int) 0 0 D ci cz tr [(q0, .inr (11, [.int zdogs, .ref q1, u0, u1, u2, u3, u4, u5, u6, u7, u8, u9, u10, u11, u12, u13, u14, u15, u16, u17, u18, u19, u20])), (q1, .inl (ci, 7, .inl zhalves))] sz [.ref q0] (gQi D [(q0, .inr (11, [.int zdogs, .ref q1, u0, u1, u2, u3, u4, u5, u6, u7, u8, u9, u10, u11, u12, u13, u14, u15, u16, u17, u18, u19, u20])), (q1, .inl (ci, 7, .inl zhalves))] sz (fun (r : Int32) w => w = [(q0, .inr (11, [.int zdogs, .ref q1, u0, u1, u2, u3, u4, u5, u6, u7, u8, u9, u10, u11, u12, u13, u14, u15, u16, u17, u18, u19, u20])), (q1, .inl (ci, 7, .inl zhalves))] ∧ post r )) := by
  refine gmet_i RX12 (by decide +kernel) rfl (Nat.le_of_ble_eq_true rfl) ?_
  intro p e s m args below meth c A R Q C hfr hlc hP hD hret ls hl
  obtain ⟨hx, hb, hml, hown, ht, hK, hZ, hA⟩ := C
  have hl : lv_has ls 3 [(0, .ref q0)] := hl
  unfold wp_X12_dead at hw
  refine g_in (fun H locs => W p l e R s m args below meth c H locs 0 0 Q (F0 m 0 ls [])) (fun H locs hS0 hP => ?_) hP (va_S.rf (A := A) (H0 := s.heap))
  have hS : va_S A s.heap H locs := hS0
  clear hS0
  refine lv_iconst (v := (0 : Int32)) hx hb dX12_dead_0 (by decide) ?_
  refine lv_istore_n (lv' := [(1, .int (0 : Int32)), (0, .ref q0)]) hx hb dX12_dead_1 rfl hl (by decide) rfl (fun ls hl => ?_)
  refine lv_iconst (v := (0 : Int32)) hx hb dX12_dead_2 (by decide) ?_
  refine lv_istore_n (lv' := [(2, .int (0 : Int32)), (1, .int (0 : Int32)), (0, .ref q0)]) hx hb dX12_dead_3 rfl hl (by decide) rfl (fun ls hl => ?_)
  refine lo_walk hw (fun G4 => ∀ (x1_1 : Int32) (x2_2 : Int32) (H : Heap) (locs : List Loc) (ls : Array Slot), G4 x1_1 x2_2 → va_P D vwCl [(q0, .inr (11, [.int zdogs, .ref q1, u0, u1, u2, u3, u4, u5, u6, u7, u8, u9, u10, u11, u12, u13, u14, u15, u16, u17, u18, u19, u20])), (q1, .inl (ci, 7, .inl zhalves))] H → va_S A s.heap H locs → lv_has ls 3 [(0, .ref q0), (1, .int x1_1), (2, .int x2_2)] → W p l e R s m args below meth c H locs 0 0 Q (F0 m 4 ls [])) (fun _ _ _ _ _ hw _ _ _ => False.elim hw) (fun G4 hG4 x1_1 x2_2 H locs ls hw hP hS hl => ?_) (fun G4 hG4 hw => hG4 _ _ H locs ls hw hP hS (lv_sub hl [2, 1, 0] rfl))
  have hD : va_D A [(q0, .inr (11, [.int zdogs, .ref q1, u0, u1, u2, u3, u4, u5, u6, u7, u8, u9, u10, u11, u12, u13, u14, u15, u16, u17, u18, u19, u20])), (q1, .inl (ci, 7, .inl zhalves))] := gD_re hD rfl
  refine lv_iload_n hx hb dX12_dead_4 rfl (lv_at hl 2 rfl) ?_
  refine lv_aload_n hx hb dX12_dead_5 rfl (lv_at hl 0 rfl) ?_
  refine va_get (D := D) (ci := 11) (v := .int zdogs) (C := RX12) (T := TX12) (N := 23) hx hb ht in_X12 hown hK.1 hP 0 rfl rfl 0 (by decide) (ht _ mF_X12_63) (fun _ h9 => h9) rfl dX12_dead_6 ?_
  refine lv_icmp_ge (tgt := 37) hx hb dX12_dead_9 (by decide) (fun hc => ?_) (fun hc => ?_)
  · have hw := hw.1 hc
    refine lv_iload_n hx hb dX12_dead_37 rfl (lv_at hl 1 rfl) ?_
    exact hret _ _ H locs _ _ ⟨rfl, hw⟩ hP hS dX12_dead_38
  · have hw := hw.2 hc
    refine lv_iload_n hx hb dX12_dead_12 rfl (lv_at hl 1 rfl) ?_
    refine lv_aload_n hx hb dX12_dead_13 rfl (lv_at hl 0 rfl) ?_
    refine va_get (D := D) (ci := 11) (v := .ref q1) (C := RX12) (T := TX12) (N := 23) hx hb ht in_X12 hown hK.1 hP 0 rfl rfl 1 (by decide) (ht _ mF_X12_7) (fun _ h9 => h9) rfl dX12_dead_14 ?_
    refine lv_iload_n hx hb dX12_dead_17 rfl (lv_at hl 2 rfl) ?_
    obtain ⟨hin, hw⟩ := hw
    refine va_iald (D := D) hx hb hK.1 hP 1 0 rfl rfl hin dX12_dead_18 ?_
    refine jn_walk hw (fun J29 => ∀ (t_3 : Int32) (H : Heap) (locs : List Loc) (ls : Array Slot), J29 t_3 → va_P D vwCl [(q0, .inr (11, [.int zdogs, .ref q1, u0, u1, u2, u3, u4, u5, u6, u7, u8, u9, u10, u11, u12, u13, u14, u15, u16, u17, u18, u19, u20])), (q1, .inl (ci, 7, .inl zhalves))] H → va_S A s.heap H locs → lv_has ls 3 [(0, .ref q0), (2, .int x2_2)] → W p l e R s m args below meth c H locs 0 0 Q (F0 m 29 ls [.int t_3, .int x1_1])) ?_ ?_
    · intro t_3 H locs ls hw hP hS hl
      have hD : va_D A [(q0, .inr (11, [.int zdogs, .ref q1, u0, u1, u2, u3, u4, u5, u6, u7, u8, u9, u10, u11, u12, u13, u14, u15, u16, u17, u18, u19, u20])), (q1, .inl (ci, 7, .inl zhalves))] := gD_re hD rfl
      refine lv_ior hx hb dX12_dead_29 ?_
      refine lv_istore_n (lv' := [(1, .int (x1_1 ||| t_3)), (0, .ref q0), (2, .int x2_2)]) hx hb dX12_dead_30 rfl hl (by decide) rfl (fun ls hl => ?_)
      refine lv_iinc (v := (x2_2 + (1 : Int32))) (lv' := [(2, .int (x2_2 + (1 : Int32))), (1, .int (x1_1 ||| t_3)), (0, .ref q0)]) hx hb dX12_dead_31 hl (k := 2) rfl rfl (by decide) rfl (fun ls hl => ?_)
      refine lv_goto (tgt := 4) hx hb dX12_dead_34 (by decide) ?_
      exact hG4 _ _ H locs ls hw hP hS (lv_sub hl [2, 1, 0] rfl)
    · intro J29 hJ29 hw
      refine lv_if_ne (tgt := 28) hx hb dX12_dead_19 (by decide) (fun hc => ?_) (fun hc => ?_)
      · have hw := hw.1 hc
        refine lv_iconst (v := (0 : Int32)) hx hb dX12_dead_28 (by decide) ?_
        exact hJ29 _ H locs ls hw hP hS (lv_sub hl [0, 2] rfl)
      · have hw := hw.2 hc
        refine lv_iconst (v := (1 : Int32)) hx hb dX12_dead_22 (by decide) ?_
        refine lv_iload_n hx hb dX12_dead_23 rfl (lv_at hl 2 rfl) ?_
        refine lv_ishl hx hb dX12_dead_24 ?_
        refine lv_goto (tgt := 29) hx hb dX12_dead_25 (by decide) ?_
        exact hJ29 _ H locs ls hw hP hS (lv_sub hl [0, 2] rfl)
