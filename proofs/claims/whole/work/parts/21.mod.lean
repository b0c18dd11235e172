def wp_X12_isDog (zdogs : Int32) (a1 : Int32) (post : Int32 → Prop) : Prop :=
  wp_X12_in a1 (0 : Int32) (zdogs - (1 : Int32)) (fun (r_1 : Int32) => ((r_1 = 0 ∨ r_1 = 1) ∧ post r_1 ))
set_option maxHeartbeats 4000000 in
set_option maxRecDepth 100000 in
theorem c_X12_isDog (l : Launch) (D : va_G) (ci cz : ClassId) (tr : List (ClassId × FieldType)) (q0 : Nat) (sz : Nat) (u0 u1 u2 u3 u4 u5 u6 u7 u8 u9 u10 u11 u12 u13 u14 u15 u16 u17 u18 u19 u20 u21 : Value) (zdogs : Int32) (a1 : Int32) (post : Int32 → Prop) (hw : wp_X12_isDog zdogs a1 post) : gM l yX12_isDog cX12_isDog 2 (some .boolean) 1 22 D ci cz tr [(q0, .inr (11, [.int zdogs, u0, u1, u2, u3, u4, u5, u6, u7, u8, u9, u10, u11, u12, u13, u14, u15, u16, u17, u18, u19, u20, u21]))] sz [.ref q0, .int a1] (gQi D [(q0, .inr (11, [.int zdogs, u0, u1, u2, u3, u4, u5, u6, u7, u8, u9, u10, u11, u12, u13, u14, u15, u16, u17, u18, u19, u20, u21]))] sz (fun (r : Int32) w => w = [(q0, .inr (11, [.int zdogs, u0, u1, u2, u3, u4, u5, u6, u7, u8, u9, u10, u11, u12, u13, u14, u15, u16, u17, u18, u19, u20, u21]))] ∧ post r )) := by
  refine gmet_z RX12 (by decide +kernel) rfl (Nat.le_of_ble_eq_true rfl) ?_
  intro p e s m args below meth c A R Q C hfr hlc hP hD hret ls hl
  obtain ⟨hx, hb, hml, hown, ht, hK, hZ, hA⟩ := C
  have hl : lv_has ls 2 [(0, .ref q0), (1, .int a1)] := hl
  unfold wp_X12_isDog at hw
  refine g_in (fun H locs => W p l e R s m args below meth c H locs 0 0 Q (F0 m 0 ls [])) (fun H locs hS0 hP => ?_) hP (va_S.rf (A := A) (H0 := s.heap))
  have hS : va_S A s.heap H locs := hS0
  clear hS0
  refine lv_iload_n hx hb dX12_isDog_0 rfl (lv_at hl 1 rfl) ?_
  refine lv_iconst (v := (0 : Int32)) hx hb dX12_isDog_1 (by decide) ?_
  refine lv_aload_n hx hb dX12_isDog_2 rfl (lv_at hl 0 rfl) ?_
  refine va_get (D := D) (ci := 11) (v := .int zdogs) (C := RX12) (T := TX12) (N := 23) hx hb ht in_X12 hown hK.1 hP 0 rfl rfl 0 (by decide) (ht _ mF_X12_63) (fun _ h9 => h9) rfl dX12_isDog_3 ?_
  refine lv_iconst (v := (1 : Int32)) hx hb dX12_isDog_6 (by decide) ?_
  refine lv_isub hx hb dX12_isDog_7 ?_
  refine gcalli (va_runS (As := [.int a1, .int (0 : Int32), .int (zdogs - (1 : Int32))]) (rest := []) ⟨hx, hb, hml, hown, ht⟩ (c_X12_in l D ci cz tr  H.size a1 (0 : Int32) (zdogs - (1 : Int32)) _ hw) (va_cwS 3 ht (gi_S mM_X12_66 mT_X12_in mN_X12 mC_X12_in) rfl rfl rfl (by decide +kernel) ⟨Nat.le_trans (Nat.le_of_ble_eq_true rfl) hfr, Nat.le_trans (Nat.le_of_ble_eq_true rfl) hlc⟩) (gpre (wc := []) hK hZ hP hD hS hA [] rfl rfl) rfl rfl hl.1 rfl (lv_room (Nat.le_of_ble_eq_true rfl)) dX12_isDog_8 ⟨Nat.zero_le _, Nat.zero_le _⟩) hD hS hA [] rfl (fun r_1 w9 H locs hw hP9 hk9 hS => ?_)
  obtain ⟨rfl, hw⟩ := hw
  have hP : va_P D vwCl [(q0, .inr (11, [.int zdogs, u0, u1, u2, u3, u4, u5, u6, u7, u8, u9, u10, u11, u12, u13, u14, u15, u16, u17, u18, u19, u20, u21]))] H := gjoin3 hP hD [] hP9 hk9 rfl rfl [none] rfl rfl
  clear hP9 hk9
  obtain ⟨h01, hw⟩ := hw
  exact hret _ _ H locs _ _ h01 ⟨rfl, hw⟩ hP hS dX12_isDog_11

def wp_X12_dies (zdogs : Int32) (zhalves : Nat → Int32) (zheirs : Nat → Int32) (a1 : Int32) (post : Int32 → (Nat → Int32) → Prop) : Prop :=
  wp_X12_isDog zdogs a1 (fun (r_1 : Int32) => ((¬ r_1 = 0 → (vp_in a1 7 ∧ ((¬ (zhalves (a1).toNatClampNeg) = 0 → (vp_in a1 7 ∧ (vp_in a1 7 ∧ (vp_in a1 7 ∧ jn (fun (x3_2 : Int32) => ((x3_2 < 0 → post (zhalves (a1).toNatClampNeg) (upd zhalves (a1).toNatClampNeg (0 : Int32))) ∧ (¬ x3_2 < 0 → (vp_in x3_2 7 ∧ ((¬ ((upd zhalves (a1).toNatClampNeg (0 : Int32)) (x3_2).toNatClampNeg) = 0 → (vp_in x3_2 7 ∧ jn (fun (t_3 : Int32) => (vp_in x3_2 7 ∧ (vp_in x3_2 7 ∧ post ((((upd zhalves (a1).toNatClampNeg (0 : Int32)) (x3_2).toNatClampNeg) + (zhalves (a1).toNatClampNeg)) - ((upd (upd zhalves (a1).toNatClampNeg (0 : Int32)) (x3_2).toNatClampNeg t_3) (x3_2).toNatClampNeg)) (upd (upd zhalves (a1).toNatClampNeg (0 : Int32)) (x3_2).toNatClampNeg t_3)))) (fun (J123 : Int32 → Prop) => (((((upd zhalves (a1).toNatClampNeg (0 : Int32)) (x3_2).toNatClampNeg) + (zhalves (a1).toNatClampNeg)) ≤ (9 : Int32) → J123 (((upd zhalves (a1).toNatClampNeg (0 : Int32)) (x3_2).toNatClampNeg) + (zhalves (a1).toNatClampNeg))) ∧ (¬ (((upd zhalves (a1).toNatClampNeg (0 : Int32)) (x3_2).toNatClampNeg) + (zhalves (a1).toNatClampNeg)) ≤ (9 : Int32) → J123 (9 : Int32)))))) ∧ (((upd zhalves (a1).toNatClampNeg (0 : Int32)) (x3_2).toNatClampNeg) = 0 → post (zhalves (a1).toNatClampNeg) (upd zhalves (a1).toNatClampNeg (0 : Int32)))))))) (fun (J79 : Int32 → Prop) => lo (fun _ _ => False) (fun (G46 : Int32 → Int32 → Prop) (x3_4 : Int32) (x4_5 : Int32) => (((7 : Int32) ≤ x4_5 → J79 x3_4) ∧ (¬ (7 : Int32) ≤ x4_5 → ((x3_4 < 0 → J79 x3_4) ∧ (¬ x3_4 < 0 → (vp_in x3_4 7 ∧ ((¬ ((upd zhalves (a1).toNatClampNeg (0 : Int32)) (x3_4).toNatClampNeg) = 0 → J79 x3_4) ∧ (((upd zhalves (a1).toNatClampNeg (0 : Int32)) (x3_4).toNatClampNeg) = 0 → (vp_in x3_4 7 ∧ G46 (zheirs (x3_4).toNatClampNeg) (x4_5 + (1 : Int32))))))))))) (fun G46 => G46 (zheirs (a1).toNatClampNeg) (0 : Int32))))))) ∧ ((zhalves (a1).toNatClampNeg) = 0 → post (-3 : Int32) zhalves)))) ∧ (r_1 = 0 → post (-1 : Int32) zhalves)))
set_option maxHeartbeats 4000000 in
set_option maxRecDepth 100000 in
theorem c_X12_dies (l : Launch) (D : va_G) (ci cz : ClassId) (tr : List (ClassId × FieldType)) (q0 q1 q2 : Nat) (sz : Nat) (u0 u1 u2 u3 u4 u5 u6 u7 u8 u9 u10 u11 u12 u13 u14 u15 u16 u17 u18 u19 : Value) (zdogs : Int32) (zhalves : Nat → Int32) (zheirs : Nat → Int32) (a1 : Int32) (post : Int32 → (Nat → Int32) → Prop) (hw : wp_X12_dies zdogs zhalves zheirs a1 post) : gM l yX12_dies cX12_dies 5 (some .int) 2 43 D ci cz tr [(q0, .inr (11, [.int zdogs, .ref q1, u0, u1, u2, .ref q2, u3, u4, u5, u6, u7, u8, u9, u10, u11, u12, u13, u14, u15, u16, u17, u18, u19])), (q1, .inl (ci, 7, .inl zhalves)), (q2, .inl (ci, 7, .inl zheirs))] sz [.ref q0, .int a1] (gQi D [(q0, .inr (11, [.int zdogs, .ref q1, u0, u1, u2, .ref q2, u3, u4, u5, u6, u7, u8, u9, u10, u11, u12, u13, u14, u15, u16, u17, u18, u19])), (q1, .inl (ci, 7, .inl zhalves)), (q2, .inl (ci, 7, .inl zheirs))] sz (fun (r : Int32) w => ∃ (o_zhalves : Nat → Int32), w = [(q0, .inr (11, [.int zdogs, .ref q1, u0, u1, u2, .ref q2, u3, u4, u5, u6, u7, u8, u9, u10, u11, u12, u13, u14, u15, u16, u17, u18, u19])), (q1, .inl (ci, 7, .inl o_zhalves)), (q2, .inl (ci, 7, .inl zheirs))] ∧ post r o_zhalves)) := by
  refine gmet_i RX12 (by decide +kernel) rfl (Nat.le_of_ble_eq_true rfl) ?_
  intro p e s m args below meth c A R Q C hfr hlc hP hD hret ls hl
  obtain ⟨hx, hb, hml, hown, ht, hK, hZ, hA⟩ := C
  have hl : lv_has ls 5 [(0, .ref q0), (1, .int a1)] := hl
  unfold wp_X12_dies at hw
  refine g_in (fun H locs => W p l e R s m args below meth c H locs 0 0 Q (F0 m 0 ls [])) (fun H locs hS0 hP => ?_) hP (va_S.rf (A := A) (H0 := s.heap))
  have hS : va_S A s.heap H locs := hS0
  clear hS0
  refine lv_aload_n hx hb dX12_dies_0 rfl (lv_at hl 0 rfl) ?_
  refine lv_iload_n hx hb dX12_dies_1 rfl (lv_at hl 1 rfl) ?_
  refine gcalli (va_runV (As := [.int a1]) (rest := []) ⟨hx, hb, hml, hown, ht⟩ (c_X12_isDog l D ci cz tr q0 H.size (.ref q1) u0 u1 u2 (.ref q2) u3 u4 u5 u6 u7 u8 u9 u10 u11 u12 u13 u14 u15 u16 u17 u18 u19 zdogs a1 _ hw) (cwV 1 ht (gi_V mM_X12_80 mI_X12_isDog mS_X12_isDog mN_X12 mC_X12_isDog) rfl rfl rfl (by decide +kernel) ⟨Nat.le_trans (Nat.le_of_ble_eq_true rfl) hfr, Nat.le_trans (Nat.le_of_ble_eq_true rfl) hlc⟩) (gpreV (wc := [(q0, .inr (11, [.int zdogs, .ref q1, u0, u1, u2, .ref q2, u3, u4, u5, u6, u7, u8, u9, u10, u11, u12, u13, u14, u15, u16, u17, u18, u19]))]) (k := 11) (q0 := 0) hK hZ hP hD hS hA [0] rfl rfl rfl rfl rfl) rfl rfl hl.1 rfl (lv_room (Nat.le_of_ble_eq_true rfl)) dX12_dies_2 ⟨Nat.zero_le _, Nat.zero_le _⟩) hD hS hA [0] rfl (fun r_1 w9 H locs hw hP9 hk9 hS => ?_)
  obtain ⟨rfl, hw⟩ := hw
  have hP : va_P D vwCl [(q0, .inr (11, [.int zdogs, .ref q1, u0, u1, u2, .ref q2, u3, u4, u5, u6, u7, u8, u9, u10, u11, u12, u13, u14, u15, u16, u17, u18, u19])), (q1, .inl (ci, 7, .inl zhalves)), (q2, .inl (ci, 7, .inl zheirs))] H := gjoin3 hP hD [0] hP9 hk9 rfl rfl [some 0, none, none] rfl rfl
  clear hP9 hk9
  refine lv_if_ne (tgt := 10) hx hb dX12_dies_5 (by decide) (fun hc => ?_) (fun hc => ?_)
  · have hw := hw.1 hc
    refine lv_aload_n hx hb dX12_dies_10 rfl (lv_at hl 0 rfl) ?_
    refine va_get (D := D) (ci := 11) (v := .ref q1) (C := RX12) (T := TX12) (N := 23) hx hb ht in_X12 hown hK.1 hP 0 rfl rfl 1 (by decide) (ht _ mF_X12_7) (fun _ h9 => h9) rfl dX12_dies_11 ?_
    refine lv_iload_n hx hb dX12_dies_14 rfl (lv_at hl 1 rfl) ?_
    obtain ⟨hin, hw⟩ := hw
    refine va_iald (D := D) hx hb hK.1 hP 1 0 rfl rfl hin dX12_dies_15 ?_
    refine lv_if_ne (tgt := 22) hx hb dX12_dies_16 (by decide) (fun hc => ?_) (fun hc => ?_)
    · have hw := hw.1 hc
      refine lv_aload_n hx hb dX12_dies_22 rfl (lv_at hl 0 rfl) ?_
      refine va_get (D := D) (ci := 11) (v := .ref q1) (C := RX12) (T := TX12) (N := 23) hx hb ht in_X12 hown hK.1 hP 0 rfl rfl 1 (by decide) (ht _ mF_X12_7) (fun _ h9 => h9) rfl dX12_dies_23 ?_
      refine lv_iload_n hx hb dX12_dies_26 rfl (lv_at hl 1 rfl) ?_
      obtain ⟨hin, hw⟩ := hw
      refine va_iald (D := D) hx hb hK.1 hP 1 0 rfl rfl hin dX12_dies_27 ?_
      refine lv_istore_n (lv' := [(2, .int (zhalves (a1).toNatClampNeg)), (0, .ref q0), (1, .int a1)]) hx hb dX12_dies_28 rfl hl (by decide) rfl (fun ls hl => ?_)
      refine lv_aload_n hx hb dX12_dies_29 rfl (lv_at hl 1 rfl) ?_
      refine va_get (D := D) (ci := 11) (v := .ref q1) (C := RX12) (T := TX12) (N := 23) hx hb ht in_X12 hown hK.1 hP 0 rfl rfl 1 (by decide) (ht _ mF_X12_7) (fun _ h9 => h9) rfl dX12_dies_30 ?_
      refine lv_iload_n hx hb dX12_dies_33 rfl (lv_at hl 2 rfl) ?_
      refine lv_iconst (v := (0 : Int32)) hx hb dX12_dies_34 (by decide) ?_
      obtain ⟨hin, hw⟩ := hw
      refine va_iast (D := D) hx hb hK.1 hP hD hS 1 0 rfl rfl hin dX12_dies_35 (fun H locs hP hD hS => ?_)
      have hP : va_P D vwCl [(q0, .inr (11, [.int zdogs, .ref q1, u0, u1, u2, .ref q2, u3, u4, u5, u6, u7, u8, u9, u10, u11, u12, u13, u14, u15, u16, u17, u18, u19])), (q1, .inl (ci, 7, .inl (upd zhalves (a1).toNatClampNeg (0 : Int32)))), (q2, .inl (ci, 7, .inl zheirs))] H := hP
      have hD : va_D A [(q0, .inr (11, [.int zdogs, .ref q1, u0, u1, u2, .ref q2, u3, u4, u5, u6, u7, u8, u9, u10, u11, u12, u13, u14, u15, u16, u17, u18, u19])), (q1, .inl (ci, 7, .inl (upd zhalves (a1).toNatClampNeg (0 : Int32)))), (q2, .inl (ci, 7, .inl zheirs))] := hD
      refine lv_aload_n hx hb dX12_dies_36 rfl (lv_at hl 1 rfl) ?_
      refine va_get (D := D) (ci := 11) (v := .ref q2) (C := RX12) (T := TX12) (N := 23) hx hb ht in_X12 hown hK.1 hP 0 rfl rfl 5 (by decide) (ht _ mF_X12_23) (fun _ h9 => h9) rfl dX12_dies_37 ?_
      refine lv_iload_n hx hb dX12_dies_40 rfl (lv_at hl 2 rfl) ?_
      obtain ⟨hin, hw⟩ := hw
      refine va_iald (D := D) hx hb hK.1 hP 2 0 rfl rfl hin dX12_dies_41 ?_
      refine lv_istore_n (lv' := [(3, .int (zheirs (a1).toNatClampNeg)), (2, .int (zhalves (a1).toNatClampNeg)), (0, .ref q0), (1, .int a1)]) hx hb dX12_dies_42 rfl hl (by decide) rfl (fun ls hl => ?_)
      refine lv_iconst (v := (0 : Int32)) hx hb dX12_dies_43 (by decide) ?_
      refine lv_istore (lv' := [(4, .int (0 : Int32)), (3, .int (zheirs (a1).toNatClampNeg)), (2, .int (zhalves (a1).toNatClampNeg)), (0, .ref q0), (1, .int a1)]) hx hb dX12_dies_44 hl (by decide) rfl (fun ls hl => ?_)
      refine jn_walk hw (fun J79 => ∀ (x3_2 : Int32) (H : Heap) (locs : List Loc) (ls : Array Slot), J79 x3_2 → va_P D vwCl [(q0, .inr (11, [.int zdogs, .ref q1, u0, u1, u2, .ref q2, u3, u4, u5, u6, u7, u8, u9, u10, u11, u12, u13, u14, u15, u16, u17, u18, u19])), (q1, .inl (ci, 7, .inl (upd zhalves (a1).toNatClampNeg (0 : Int32)))), (q2, .inl (ci, 7, .inl zheirs))] H → va_S A s.heap H locs → lv_has ls 5 [(0, .ref q0), (2, .int (zhalves (a1).toNatClampNeg)), (3, .int x3_2)] → W p l e R s m args below meth c H locs 0 0 Q (F0 m 79 ls [])) ?_ ?_
      · intro x3_2 H locs ls hw hP hS hl
        have hD : va_D A [(q0, .inr (11, [.int zdogs, .ref q1, u0, u1, u2, .ref q2, u3, u4, u5, u6, u7, u8, u9, u10, u11, u12, u13, u14, u15, u16, u17, u18, u19])), (q1, .inl (ci, 7, .inl (upd zhalves (a1).toNatClampNeg (0 : Int32)))), (q2, .inl (ci, 7, .inl zheirs))] := gD_re hD rfl
        refine lv_iload_n hx hb dX12_dies_79 rfl (lv_at hl 2 rfl) ?_
        refine lv_if_lt (tgt := 92) hx hb dX12_dies_80 (by decide) (fun hc => ?_) (fun hc => ?_)
        · have hw := hw.1 hc
          refine lv_iload_n hx hb dX12_dies_92 rfl (lv_at hl 1 rfl) ?_
          exact hret _ _ H locs _ _ ⟨_, rfl, hw⟩ hP hS dX12_dies_93
        · have hw := hw.2 hc
          refine lv_aload_n hx hb dX12_dies_83 rfl (lv_at hl 0 rfl) ?_
          refine va_get (D := D) (ci := 11) (v := .ref q1) (C := RX12) (T := TX12) (N := 23) hx hb ht in_X12 hown hK.1 hP 0 rfl rfl 1 (by decide) (ht _ mF_X12_7) (fun _ h9 => h9) rfl dX12_dies_84 ?_
          refine lv_iload_n hx hb dX12_dies_87 rfl (lv_at hl 2 rfl) ?_
          obtain ⟨hin, hw⟩ := hw
          refine va_iald (D := D) hx hb hK.1 hP 1 0 rfl rfl hin dX12_dies_88 ?_
          refine lv_if_ne (tgt := 94) hx hb dX12_dies_89 (by decide) (fun hc => ?_) (fun hc => ?_)
          · have hw := hw.1 hc
            refine lv_aload_n hx hb dX12_dies_94 rfl (lv_at hl 0 rfl) ?_
            refine va_get (D := D) (ci := 11) (v := .ref q1) (C := RX12) (T := TX12) (N := 23) hx hb ht in_X12 hown hK.1 hP 0 rfl rfl 1 (by decide) (ht _ mF_X12_7) (fun _ h9 => h9) rfl dX12_dies_95 ?_
            refine lv_iload_n hx hb dX12_dies_98 rfl (lv_at hl 2 rfl) ?_
            obtain ⟨hin, hw⟩ := hw
            refine va_iald (D := D) hx hb hK.1 hP 1 0 rfl rfl hin dX12_dies_99 ?_
            refine lv_iload_n hx hb dX12_dies_100 rfl (lv_at hl 1 rfl) ?_
            refine lv_iadd hx hb dX12_dies_101 ?_
            refine lv_istore (lv' := [(4, .int (((upd zhalves (a1).toNatClampNeg (0 : Int32)) (x3_2).toNatClampNeg) + (zhalves (a1).toNatClampNeg))), (0, .ref q0), (2, .int (zhalves (a1).toNatClampNeg)), (3, .int x3_2)]) hx hb dX12_dies_102 hl (by decide) rfl (fun ls hl => ?_)
            refine lv_aload_n hx hb dX12_dies_104 rfl (lv_at hl 1 rfl) ?_
            refine va_get (D := D) (ci := 11) (v := .ref q1) (C := RX12) (T := TX12) (N := 23) hx hb ht in_X12 hown hK.1 hP 0 rfl rfl 1 (by decide) (ht _ mF_X12_7) (fun _ h9 => h9) rfl dX12_dies_105 ?_
            refine lv_iload_n hx hb dX12_dies_108 rfl (lv_at hl 3 rfl) ?_
            refine lv_iload hx hb dX12_dies_109 (lv_at hl 0 rfl) ?_
            refine lv_bipush (v := (9 : Int32)) hx hb dX12_dies_111 (by decide) ?_
            refine jn_walk hw (fun J123 => ∀ (t_3 : Int32) (H : Heap) (locs : List Loc) (ls : Array Slot), J123 t_3 → va_P D vwCl [(q0, .inr (11, [.int zdogs, .ref q1, u0, u1, u2, .ref q2, u3, u4, u5, u6, u7, u8, u9, u10, u11, u12, u13, u14, u15, u16, u17, u18, u19])), (q1, .inl (ci, 7, .inl (upd zhalves (a1).toNatClampNeg (0 : Int32)))), (q2, .inl (ci, 7, .inl zheirs))] H → va_S A s.heap H locs → lv_has ls 5 [(0, .ref q0), (3, .int x3_2), (4, .int (((upd zhalves (a1).toNatClampNeg (0 : Int32)) (x3_2).toNatClampNeg) + (zhalves (a1).toNatClampNeg)))] → W p l e R s m args below meth c H locs 0 0 Q (F0 m 123 ls [.int t_3, .int x3_2, .ref q1])) ?_ ?_
            · intro t_3 H locs ls hw hP hS hl
              have hD : va_D A [(q0, .inr (11, [.int zdogs, .ref q1, u0, u1, u2, .ref q2, u3, u4, u5, u6, u7, u8, u9, u10, u11, u12, u13, u14, u15, u16, u17, u18, u19])), (q1, .inl (ci, 7, .inl (upd zhalves (a1).toNatClampNeg (0 : Int32)))), (q2, .inl (ci, 7, .inl zheirs))] := gD_re hD rfl
              obtain ⟨hin, hw⟩ := hw
              refine va_iast (D := D) hx hb hK.1 hP hD hS 1 0 rfl rfl hin dX12_dies_123 (fun H locs hP hD hS => ?_)
              have hP : va_P D vwCl [(q0, .inr (11, [.int zdogs, .ref q1, u0, u1, u2, .ref q2, u3, u4, u5, u6, u7, u8, u9, u10, u11, u12, u13, u14, u15, u16, u17, u18, u19])), (q1, .inl (ci, 7, .inl (upd (upd zhalves (a1).toNatClampNeg (0 : Int32)) (x3_2).toNatClampNeg t_3))), (q2, .inl (ci, 7, .inl zheirs))] H := hP
              have hD : va_D A [(q0, .inr (11, [.int zdogs, .ref q1, u0, u1, u2, .ref q2, u3, u4, u5, u6, u7, u8, u9, u10, u11, u12, u13, u14, u15, u16, u17, u18, u19])), (q1, .inl (ci, 7, .inl (upd (upd zhalves (a1).toNatClampNeg (0 : Int32)) (x3_2).toNatClampNeg t_3))), (q2, .inl (ci, 7, .inl zheirs))] := hD
              refine lv_iload hx hb dX12_dies_124 (lv_at hl 2 rfl) ?_
              refine lv_aload_n hx hb dX12_dies_126 rfl (lv_at hl 0 rfl) ?_
              refine va_get (D := D) (ci := 11) (v := .ref q1) (C := RX12) (T := TX12) (N := 23) hx hb ht in_X12 hown hK.1 hP 0 rfl rfl 1 (by decide) (ht _ mF_X12_7) (fun _ h9 => h9) rfl dX12_dies_127 ?_
              refine lv_iload_n hx hb dX12_dies_130 rfl (lv_at hl 1 rfl) ?_
              obtain ⟨hin, hw⟩ := hw
              refine va_iald (D := D) hx hb hK.1 hP 1 0 rfl rfl hin dX12_dies_131 ?_
              refine lv_isub hx hb dX12_dies_132 ?_
              exact hret _ _ H locs _ _ ⟨_, rfl, hw⟩ hP hS dX12_dies_133
            · intro J123 hJ123 hw
              refine lv_icmp_le (tgt := 121) hx hb dX12_dies_113 (by decide) (fun hc => ?_) (fun hc => ?_)
              · have hw := hw.1 hc
                refine lv_iload hx hb dX12_dies_121 (lv_at hl 0 rfl) ?_
                exact hJ123 _ H locs ls hw hP hS (lv_sub hl [1, 3, 0] rfl)
              · have hw := hw.2 hc
                refine lv_bipush (v := (9 : Int32)) hx hb dX12_dies_116 (by decide) ?_
                refine lv_goto (tgt := 123) hx hb dX12_dies_118 (by decide) ?_
                exact hJ123 _ H locs ls hw hP hS (lv_sub hl [1, 3, 0] rfl)
          · have hw := hw.2 hc
            refine lv_iload_n hx hb dX12_dies_92 rfl (lv_at hl 1 rfl) ?_
            exact hret _ _ H locs _ _ ⟨_, rfl, hw⟩ hP hS dX12_dies_93
      · intro J79 hJ79 hw
        refine lo_walk hw (fun G46 => ∀ (x3_4 : Int32) (x4_5 : Int32) (H : Heap) (locs : List Loc) (ls : Array Slot), G46 x3_4 x4_5 → va_P D vwCl [(q0, .inr (11, [.int zdogs, .ref q1, u0, u1, u2, .ref q2, u3, u4, u5, u6, u7, u8, u9, u10, u11, u12, u13, u14, u15, u16, u17, u18, u19])), (q1, .inl (ci, 7, .inl (upd zhalves (a1).toNatClampNeg (0 : Int32)))), (q2, .inl (ci, 7, .inl zheirs))] H → va_S A s.heap H locs → lv_has ls 5 [(0, .ref q0), (2, .int (zhalves (a1).toNatClampNeg)), (3, .int x3_4), (4, .int x4_5)] → W p l e R s m args below meth c H locs 0 0 Q (F0 m 46 ls [])) (fun _ _ _ _ _ hw _ _ _ => False.elim hw) (fun G46 hG46 x3_4 x4_5 H locs ls hw hP hS hl => ?_) (fun G46 hG46 hw => hG46 _ _ H locs ls hw hP hS (lv_sub hl [3, 2, 1, 0] rfl))
        have hD : va_D A [(q0, .inr (11, [.int zdogs, .ref q1, u0, u1, u2, .ref q2, u3, u4, u5, u6, u7, u8, u9, u10, u11, u12, u13, u14, u15, u16, u17, u18, u19])), (q1, .inl (ci, 7, .inl (upd zhalves (a1).toNatClampNeg (0 : Int32)))), (q2, .inl (ci, 7, .inl zheirs))] := gD_re hD rfl
        refine lv_iload hx hb dX12_dies_46 (lv_at hl 3 rfl) ?_
        refine lv_bipush (v := (7 : Int32)) hx hb dX12_dies_48 (by decide) ?_
        refine lv_icmp_ge (tgt := 79) hx hb dX12_dies_50 (by decide) (fun hc => ?_) (fun hc => ?_)
        · have hw := hw.1 hc
          exact hJ79 _ H locs ls hw hP hS (lv_sub hl [0, 1, 2] rfl)
        · have hw := hw.2 hc
          refine lv_iload_n hx hb dX12_dies_53 rfl (lv_at hl 2 rfl) ?_
          refine lv_if_lt (tgt := 79) hx hb dX12_dies_54 (by decide) (fun hc => ?_) (fun hc => ?_)
          · have hw := hw.1 hc
            exact hJ79 _ H locs ls hw hP hS (lv_sub hl [0, 1, 2] rfl)
          · have hw := hw.2 hc
            refine lv_aload_n hx hb dX12_dies_57 rfl (lv_at hl 0 rfl) ?_
            refine va_get (D := D) (ci := 11) (v := .ref q1) (C := RX12) (T := TX12) (N := 23) hx hb ht in_X12 hown hK.1 hP 0 rfl rfl 1 (by decide) (ht _ mF_X12_7) (fun _ h9 => h9) rfl dX12_dies_58 ?_
            refine lv_iload_n hx hb dX12_dies_61 rfl (lv_at hl 2 rfl) ?_
            obtain ⟨hin, hw⟩ := hw
            refine va_iald (D := D) hx hb hK.1 hP 1 0 rfl rfl hin dX12_dies_62 ?_
            refine lv_if_ne (tgt := 79) hx hb dX12_dies_63 (by decide) (fun hc => ?_) (fun hc => ?_)
            · have hw := hw.1 hc
              exact hJ79 _ H locs ls hw hP hS (lv_sub hl [0, 1, 2] rfl)
            · have hw := hw.2 hc
              refine lv_aload_n hx hb dX12_dies_66 rfl (lv_at hl 0 rfl) ?_
              refine va_get (D := D) (ci := 11) (v := .ref q2) (C := RX12) (T := TX12) (N := 23) hx hb ht in_X12 hown hK.1 hP 0 rfl rfl 5 (by decide) (ht _ mF_X12_23) (fun _ h9 => h9) rfl dX12_dies_67 ?_
              refine lv_iload_n hx hb dX12_dies_70 rfl (lv_at hl 2 rfl) ?_
              obtain ⟨hin, hw⟩ := hw
              refine va_iald (D := D) hx hb hK.1 hP 2 0 rfl rfl hin dX12_dies_71 ?_
              refine lv_istore_n (lv' := [(3, .int (zheirs (x3_4).toNatClampNeg)), (0, .ref q0), (2, .int (zhalves (a1).toNatClampNeg)), (4, .int x4_5)]) hx hb dX12_dies_72 rfl hl (by decide) rfl (fun ls hl => ?_)
              refine lv_iinc (v := (x4_5 + (1 : Int32))) (lv' := [(4, .int (x4_5 + (1 : Int32))), (3, .int (zheirs (x3_4).toNatClampNeg)), (0, .ref q0), (2, .int (zhalves (a1).toNatClampNeg))]) hx hb dX12_dies_73 hl (k := 3) rfl rfl (by decide) rfl (fun ls hl => ?_)
              refine lv_goto (tgt := 46) hx hb dX12_dies_76 (by decide) ?_
              exact hG46 _ _ H locs ls hw hP hS (lv_sub hl [2, 3, 1, 0] rfl)
    · have hw := hw.2 hc
      refine lv_bipush (v := (-3 : Int32)) hx hb dX12_dies_19 (by decide) ?_
      exact hret _ _ H locs _ _ ⟨_, rfl, hw⟩ hP hS dX12_dies_21
  · have hw := hw.2 hc
    refine lv_iconst (v := (-1 : Int32)) hx hb dX12_dies_8 (by decide) ?_
    exact hret _ _ H locs _ _ ⟨_, rfl, hw⟩ hP hS dX12_dies_9

def wp_X12_dog (zdogs : Int32) (zhalves : Nat → Int32) (zlikes : Nat → Int32) (zisTold : Nat → Int32) (zfears : Nat → Int32) (a1 : Int32) (a2 : Int32) (post : Int32 → Prop) : Prop :=
  wp_X12_isDog zdogs a1 (fun (r_1 : Int32) => ((¬ r_1 = 0 → ((¬ a2 = 0 → ((¬ a2 = (1 : Int32) → ((¬ a2 = (2 : Int32) → post (-2 : Int32) ) ∧ (a2 = (2 : Int32) → (vp_in a1 7 ∧ post (zfears (a1).toNatClampNeg) )))) ∧ (a2 = (1 : Int32) → (vp_in a1 7 ∧ (((zisTold (a1).toNatClampNeg) = 0 → post (-6 : Int32) ) ∧ (¬ (zisTold (a1).toNatClampNeg) = 0 → (vp_in a1 7 ∧ post ((zlikes (a1).toNatClampNeg) + (9 : Int32)) ))))))) ∧ (a2 = 0 → (vp_in a1 7 ∧ post (zhalves (a1).toNatClampNeg) )))) ∧ (r_1 = 0 → post (-1 : Int32) )))
set_option maxHeartbeats 4000000 in
set_option maxRecDepth 100000 in
theorem c_X12_dog (l : Launch) (D : va_G) (ci cz : ClassId) (tr : List (ClassId × FieldType)) (q0 q1 q2 q3 q4 : Nat) (sz : Nat) (u0 u1 u2 u3 u4 u5 u6 u7 u8 u9 u10 u11 u12 u13 u14 u15 u16 u17 : Value) (zdogs : Int32) (zhalves : Nat → Int32) (zlikes : Nat → Int32) (zisTold : Nat → Int32) (zfears : Nat → Int32) (a1 : Int32) (a2 : Int32) (post : Int32 → Prop) (hw : wp_X12_dog zdogs zhalves zlikes zisTold zfears a1 a2 post) : gM l yX12_dog cX12_dog 3 (some .int) 2 43 D ci cz tr [(q0, .inr (11, [.int zdogs, .ref q1, .ref q2, .ref q3, .ref q4, u0, u1, u2, u3, u4, u5, u6, u7, u8, u9, u10, u11, u12, u13, u14, u15, u16, u17])), (q1, .inl (ci, 7, .inl zhalves)), (q2, .inl (ci, 7, .inl zlikes)), (q3, .inl (cz, 7, .inl zisTold)), (q4, .inl (ci, 7, .inl zfears))] sz [.ref q0, .int a1, .int a2] (gQi D [(q0, .inr (11, [.int zdogs, .ref q1, .ref q2, .ref q3, .ref q4, u0, u1, u2, u3, u4, u5, u6, u7, u8, u9, u10, u11, u12, u13, u14, u15, u16, u17])), (q1, .inl (ci, 7, .inl zhalves)), (q2, .inl (ci, 7, .inl zlikes)), (q3, .inl (cz, 7, .inl zisTold)), (q4, .inl (ci, 7, .inl zfears))] sz (fun (r : Int32) w => w = [(q0, .inr (11, [.int zdogs, .ref q1, .ref q2, .ref q3, .ref q4, u0, u1, u2, u3, u4, u5, u6, u7, u8, u9, u10, u11, u12, u13, u14, u15, u16, u17])), (q1, .inl (ci, 7, .inl zhalves)), (q2, .inl (ci, 7, .inl zlikes)), (q3, .inl (cz, 7, .inl zisTold)), (q4, .inl (ci, 7, .inl zfears))] ∧ post r )) := by
  refine gmet_i RX12 (by decide +kernel) rfl (Nat.le_of_ble_eq_true rfl) ?_
  intro p e s m args below meth c A R Q C hfr hlc hP hD hret ls hl
  obtain ⟨hx, hb, hml, hown, ht, hK, hZ, hA⟩ := C
  have hl : lv_has ls 3 [(0, .ref q0), (1, .int a1), (2, .int a2)] := hl
  unfold wp_X12_dog at hw
  refine g_in (fun H locs => W p l e R s m args below meth c H locs 0 0 Q (F0 m 0 ls [])) (fun H locs hS0 hP => ?_) hP (va_S.rf (A := A) (H0 := s.heap))
  have hS : va_S A s.heap H locs := hS0
  clear hS0
  refine lv_aload_n hx hb dX12_dog_0 rfl (lv_at hl 0 rfl) ?_
  refine lv_iload_n hx hb dX12_dog_1 rfl (lv_at hl 1 rfl) ?_
  refine gcalli (va_runV (As := [.int a1]) (rest := []) ⟨hx, hb, hml, hown, ht⟩ (c_X12_isDog l D ci cz tr q0 H.size (.ref q1) (.ref q2) (.ref q3) (.ref q4) u0 u1 u2 u3 u4 u5 u6 u7 u8 u9 u10 u11 u12 u13 u14 u15 u16 u17 zdogs a1 _ hw) (cwV 1 ht (gi_V mM_X12_80 mI_X12_isDog mS_X12_isDog mN_X12 mC_X12_isDog) rfl rfl rfl (by decide +kernel) ⟨Nat.le_trans (Nat.le_of_ble_eq_true rfl) hfr, Nat.le_trans (Nat.le_of_ble_eq_true rfl) hlc⟩) (gpreV (wc := [(q0, .inr (11, [.int zdogs, .ref q1, .ref q2, .ref q3, .ref q4, u0, u1, u2, u3, u4, u5, u6, u7, u8, u9, u10, u11, u12, u13, u14, u15, u16, u17]))]) (k := 11) (q0 := 0) hK hZ hP hD hS hA [0] rfl rfl rfl rfl rfl) rfl rfl hl.1 rfl (lv_room (Nat.le_of_ble_eq_true rfl)) dX12_dog_2 ⟨Nat.zero_le _, Nat.zero_le _⟩) hD hS hA [0] rfl (fun r_1 w9 H locs hw hP9 hk9 hS => ?_)
  obtain ⟨rfl, hw⟩ := hw
  have hP : va_P D vwCl [(q0, .inr (11, [.int zdogs, .ref q1, .ref q2, .ref q3, .ref q4, u0, u1, u2, u3, u4, u5, u6, u7, u8, u9, u10, u11, u12, u13, u14, u15, u16, u17])), (q1, .inl (ci, 7, .inl zhalves)), (q2, .inl (ci, 7, .inl zlikes)), (q3, .inl (cz, 7, .inl zisTold)), (q4, .inl (ci, 7, .inl zfears))] H := gjoin3 hP hD [0] hP9 hk9 rfl rfl [some 0, none, none, none, none] rfl rfl
  clear hP9 hk9
  refine lv_if_ne (tgt := 10) hx hb dX12_dog_5 (by decide) (fun hc => ?_) (fun hc => ?_)
  · have hw := hw.1 hc
    refine lv_iload_n hx hb dX12_dog_10 rfl (lv_at hl 2 rfl) ?_
    refine lv_if_ne (tgt := 23) hx hb dX12_dog_11 (by decide) (fun hc => ?_) (fun hc => ?_)
    · have hw := hw.1 hc
      refine lv_iload_n hx hb dX12_dog_23 rfl (lv_at hl 2 rfl) ?_
      refine lv_iconst (v := (1 : Int32)) hx hb dX12_dog_24 (by decide) ?_
      refine lv_icmp_ne (tgt := 54) hx hb dX12_dog_25 (by decide) (fun hc => ?_) (fun hc => ?_)
      · have hw := hw.1 hc
        refine lv_iload_n hx hb dX12_dog_54 rfl (lv_at hl 2 rfl) ?_
        refine lv_iconst (v := (2 : Int32)) hx hb dX12_dog_55 (by decide) ?_
        refine lv_icmp_ne (tgt := 68) hx hb dX12_dog_56 (by decide) (fun hc => ?_) (fun hc => ?_)
        · have hw := hw.1 hc
          refine lv_bipush (v := (-2 : Int32)) hx hb dX12_dog_68 (by decide) ?_
          exact hret _ _ H locs _ _ ⟨rfl, hw⟩ hP hS dX12_dog_70
        · have hw := hw.2 hc
          refine lv_aload_n hx hb dX12_dog_59 rfl (lv_at hl 0 rfl) ?_
          refine va_get (D := D) (ci := 11) (v := .ref q4) (C := RX12) (T := TX12) (N := 23) hx hb ht in_X12 hown hK.1 hP 0 rfl rfl 4 (by decide) (ht _ mF_X12_20) (fun _ h9 => h9) rfl dX12_dog_60 ?_
          refine lv_iload_n hx hb dX12_dog_63 rfl (lv_at hl 1 rfl) ?_
          obtain ⟨hin, hw⟩ := hw
          refine va_iald (D := D) hx hb hK.1 hP 4 0 rfl rfl hin dX12_dog_64 ?_
          refine lv_goto (tgt := 70) hx hb dX12_dog_65 (by decide) ?_
          exact hret _ _ H locs _ _ ⟨rfl, hw⟩ hP hS dX12_dog_70
      · have hw := hw.2 hc
        refine lv_aload_n hx hb dX12_dog_28 rfl (lv_at hl 0 rfl) ?_
        refine va_get (D := D) (ci := 11) (v := .ref q3) (C := RX12) (T := TX12) (N := 23) hx hb ht in_X12 hown hK.1 hP 0 rfl rfl 3 (by decide) (ht _ mF_X12_16) (fun _ h9 => h9) rfl dX12_dog_29 ?_
        refine lv_iload_n hx hb dX12_dog_32 rfl (lv_at hl 1 rfl) ?_
        obtain ⟨hin, hw⟩ := hw
        refine va_zald (D := D) hx hb hK.1 hP 3 1 rfl rfl hin dX12_dog_33 ?_
        refine lv_if_eq (tgt := 49) hx hb dX12_dog_34 (by decide) (fun hc => ?_) (fun hc => ?_)
        · have hw := hw.1 hc
          refine lv_bipush (v := (-6 : Int32)) hx hb dX12_dog_49 (by decide) ?_
          refine lv_goto (tgt := 70) hx hb dX12_dog_51 (by decide) ?_
          exact hret _ _ H locs _ _ ⟨rfl, hw⟩ hP hS dX12_dog_70
        · have hw := hw.2 hc
          refine lv_aload_n hx hb dX12_dog_37 rfl (lv_at hl 0 rfl) ?_
          refine va_get (D := D) (ci := 11) (v := .ref q2) (C := RX12) (T := TX12) (N := 23) hx hb ht in_X12 hown hK.1 hP 0 rfl rfl 2 (by decide) (ht _ mF_X12_13) (fun _ h9 => h9) rfl dX12_dog_38 ?_
          refine lv_iload_n hx hb dX12_dog_41 rfl (lv_at hl 1 rfl) ?_
          obtain ⟨hin, hw⟩ := hw
          refine va_iald (D := D) hx hb hK.1 hP 2 0 rfl rfl hin dX12_dog_42 ?_
          refine lv_bipush (v := (9 : Int32)) hx hb dX12_dog_43 (by decide) ?_
          refine lv_iadd hx hb dX12_dog_45 ?_
          refine lv_goto (tgt := 70) hx hb dX12_dog_46 (by decide) ?_
          exact hret _ _ H locs _ _ ⟨rfl, hw⟩ hP hS dX12_dog_70
    · have hw := hw.2 hc
      refine lv_aload_n hx hb dX12_dog_14 rfl (lv_at hl 0 rfl) ?_
      refine va_get (D := D) (ci := 11) (v := .ref q1) (C := RX12) (T := TX12) (N := 23) hx hb ht in_X12 hown hK.1 hP 0 rfl rfl 1 (by decide) (ht _ mF_X12_7) (fun _ h9 => h9) rfl dX12_dog_15 ?_
      refine lv_iload_n hx hb dX12_dog_18 rfl (lv_at hl 1 rfl) ?_
      obtain ⟨hin, hw⟩ := hw
      refine va_iald (D := D) hx hb hK.1 hP 1 0 rfl rfl hin dX12_dog_19 ?_
      refine lv_goto (tgt := 70) hx hb dX12_dog_20 (by decide) ?_
      exact hret _ _ H locs _ _ ⟨rfl, hw⟩ hP hS dX12_dog_70
  · have hw := hw.2 hc
    refine lv_iconst (v := (-1 : Int32)) hx hb dX12_dog_8 (by decide) ?_
    exact hret _ _ H locs _ _ ⟨rfl, hw⟩ hP hS dX12_dog_9

def wp_X12_drop (zasked : Int32)  (post : Int32 → Int32 → Prop) : Prop :=
  post zasked (0 : Int32)
set_option maxHeartbeats 4000000 in
set_option maxRecDepth 100000 in
theorem c_X12_drop (l : Launch) (D : va_G) (ci cz : ClassId) (tr : List (ClassId × FieldType)) (q0 : Nat) (sz : Nat) (u0 u1 u2 u3 u4 u5 u6 u7 u8 u9 u10 u11 u12 u13 u14 u15 u16 u17 u18 u19 u20 u21 : Value) (zasked : Int32)  (post : Int32 → Int32 → Prop) (hw : wp_X12_drop zasked post) : gM l yX12_drop cX12_drop 2 (some .int) 0 0 D ci cz tr [(q0, .inr (11, [u0, u1, u2, u3, u4, u5, u6, u7, u8, .int zasked, u9, u10, u11, u12, u13, u14, u15, u16, u17, u18, u19, u20, u21]))] sz [.ref q0] (gQi D [(q0, .inr (11, [u0, u1, u2, u3, u4, u5, u6, u7, u8, .int zasked, u9, u10, u11, u12, u13, u14, u15, u16, u17, u18, u19, u20, u21]))] sz (fun (r : Int32) w => ∃ (o_zasked : Int32), w = [(q0, .inr (11, [u0, u1, u2, u3, u4, u5, u6, u7, u8, .int o_zasked, u9, u10, u11, u12, u13, u14, u15, u16, u17, u18, u19, u20, u21]))] ∧ post r o_zasked)) := by
  refine gmet_i RX12 (by decide +kernel) rfl (Nat.le_of_ble_eq_true rfl) ?_
  intro p e s m args below meth c A R Q C hfr hlc hP hD hret ls hl
  obtain ⟨hx, hb, hml, hown, ht, hK, hZ, hA⟩ := C
  have hl : lv_has ls 2 [(0, .ref q0)] := hl
  unfold wp_X12_drop at hw
  refine g_in (fun H locs => W p l e R s m args below meth c H locs 0 0 Q (F0 m 0 ls [])) (fun H locs hS0 hP => ?_) hP (va_S.rf (A := A) (H0 := s.heap))
  have hS : va_S A s.heap H locs := hS0
  clear hS0
  refine lv_aload_n hx hb dX12_drop_0 rfl (lv_at hl 0 rfl) ?_
  refine va_get (D := D) (ci := 11) (v := .int zasked) (C := RX12) (T := TX12) (N := 23) hx hb ht in_X12 hown hK.1 hP 0 rfl rfl 9 (by decide) (ht _ mF_X12_165) (fun _ h9 => h9) rfl dX12_drop_1 ?_
  refine lv_istore_n (lv' := [(1, .int zasked), (0, .ref q0)]) hx hb dX12_drop_4 rfl hl (by decide) rfl (fun ls hl => ?_)
  refine lv_aload_n hx hb dX12_drop_5 rfl (lv_at hl 1 rfl) ?_
  refine lv_iconst (v := (0 : Int32)) hx hb dX12_drop_6 (by decide) ?_
  refine va_put (D := D) (ci := 11) (v := .int (0 : Int32)) (ty := .int) (C := RX12) (T := TX12) (N := 23) hx hb ht in_X12 tyX12 tyX12_ok nmX12 hown hK.1 hP hD hS 0 rfl rfl 9 (by decide) (ht _ mF_X12_165) (fun _ h9 => h9) rfl (by decide +kernel) rfl rfl (Nat.le_of_ble_eq_true rfl) dX12_drop_7 (fun H locs hP hD hS => ?_)
  have hP : va_P D vwCl [(q0, .inr (11, [u0, u1, u2, u3, u4, u5, u6, u7, u8, .int (0 : Int32), u9, u10, u11, u12, u13, u14, u15, u16, u17, u18, u19, u20, u21]))] H := hP
  have hD : va_D A [(q0, .inr (11, [u0, u1, u2, u3, u4, u5, u6, u7, u8, .int (0 : Int32), u9, u10, u11, u12, u13, u14, u15, u16, u17, u18, u19, u20, u21]))] := hD
  refine lv_iload_n hx hb dX12_drop_10 rfl (lv_at hl 0 rfl) ?_
  exact hret _ _ H locs _ _ ⟨_, rfl, hw⟩ hP hS dX12_drop_11

def wp_X12_factorial  (a0 : Int32) (post : Int32 → Prop) : Prop :=
  lo (fun _ _ => False) (fun (G4 : Int32 → Int32 → Prop) (x1_1 : Int32) (x2_2 : Int32) => ((a0 < x2_2 → post x1_1 ) ∧ (¬ a0 < x2_2 → G4 (x1_1 * x2_2) (x2_2 + (1 : Int32))))) (fun G4 => G4 (1 : Int32) (2 : Int32))
set_option maxHeartbeats 4000000 in
set_option maxRecDepth 100000 in
theorem c_X12_factorial (l : Launch) (D : va_G) (ci cz : ClassId) (tr : List (ClassId × FieldType)) (sz : Nat)  (a0 : Int32) (post : Int32 → Prop) (hw : wp_X12_factorial a0 post) : gM l yX12_factorial cX12_factorial 3 (some .int) 0 0 D ci cz tr [] sz [.int a0] (gQi D [] sz (fun (r : Int32) w => w = [] ∧ post r )) := by
  refine gmet_i RX12 (by decide +kernel) rfl (Nat.le_of_ble_eq_true rfl) ?_
  intro p e s m args below meth c A R Q C hfr hlc hP hD hret ls hl
  obtain ⟨hx, hb, hml, hown, ht, hK, hZ, hA⟩ := C
  have hl : lv_has ls 3 [(0, .int a0)] := hl
  unfold wp_X12_factorial at hw
  refine g_in (fun H locs => W p l e R s m args below meth c H locs 0 0 Q (F0 m 0 ls [])) (fun H locs hS0 hP => ?_) hP (va_S.rf (A := A) (H0 := s.heap))
  have hS : va_S A s.heap H locs := hS0
  clear hS0
  refine lv_iconst (v := (1 : Int32)) hx hb dX12_factorial_0 (by decide) ?_
  refine lv_istore_n (lv' := [(1, .int (1 : Int32)), (0, .int a0)]) hx hb dX12_factorial_1 rfl hl (by decide) rfl (fun ls hl => ?_)
  refine lv_iconst (v := (2 : Int32)) hx hb dX12_factorial_2 (by decide) ?_
  refine lv_istore_n (lv' := [(2, .int (2 : Int32)), (1, .int (1 : Int32)), (0, .int a0)]) hx hb dX12_factorial_3 rfl hl (by decide) rfl (fun ls hl => ?_)
  refine lo_walk hw (fun G4 => ∀ (x1_1 : Int32) (x2_2 : Int32) (H : Heap) (locs : List Loc) (ls : Array Slot), G4 x1_1 x2_2 → va_P D vwCl [] H → va_S A s.heap H locs → lv_has ls 3 [(0, .int a0), (1, .int x1_1), (2, .int x2_2)] → W p l e R s m args below meth c H locs 0 0 Q (F0 m 4 ls [])) (fun _ _ _ _ _ hw _ _ _ => False.elim hw) (fun G4 hG4 x1_1 x2_2 H locs ls hw hP hS hl => ?_) (fun G4 hG4 hw => hG4 _ _ H locs ls hw hP hS (lv_sub hl [2, 1, 0] rfl))
  have hD : va_D A [] := gD_re hD rfl
  refine lv_iload_n hx hb dX12_factorial_4 rfl (lv_at hl 2 rfl) ?_
  refine lv_iload_n hx hb dX12_factorial_5 rfl (lv_at hl 0 rfl) ?_
  refine lv_icmp_gt (tgt := 19) hx hb dX12_factorial_6 (by decide) (fun hc => ?_) (fun hc => ?_)
  · have hw := hw.1 hc
    refine lv_iload_n hx hb dX12_factorial_19 rfl (lv_at hl 1 rfl) ?_
    exact hret _ _ H locs _ _ ⟨rfl, hw⟩ hP hS dX12_factorial_20
  · have hw := hw.2 hc
    refine lv_iload_n hx hb dX12_factorial_9 rfl (lv_at hl 1 rfl) ?_
    refine lv_iload_n hx hb dX12_factorial_10 rfl (lv_at hl 2 rfl) ?_
    refine lv_imul hx hb dX12_factorial_11 ?_
    refine lv_istore_n (lv' := [(1, .int (x1_1 * x2_2)), (0, .int a0), (2, .int x2_2)]) hx hb dX12_factorial_12 rfl hl (by decide) rfl (fun ls hl => ?_)
    refine lv_iinc (v := (x2_2 + (1 : Int32))) (lv' := [(2, .int (x2_2 + (1 : Int32))), (1, .int (x1_1 * x2_2)), (0, .int a0)]) hx hb dX12_factorial_13 hl (k := 2) rfl rfl (by decide) rfl (fun ls hl => ?_)
    refine lv_goto (tgt := 4) hx hb dX12_factorial_16 (by decide) ?_
    exact hG4 _ _ H locs ls hw hP hS (lv_sub hl [2, 1, 0] rfl)

def wp_X12_faultOf (zsigns : Int32) (zpad : Nat → Int32)  (post : Int32 → Prop) : Prop :=
  jn (fun (x3_1 : Int32) => ((¬ x3_1 = 0 → post zsigns ) ∧ (x3_1 = 0 → post (-6 : Int32) ))) (fun (J336 : Int32 → Prop) => lo (fun _ _ _ _ _ => False) (fun (G12 : Int32 → Int32 → Int32 → Int32 → Int32 → Prop) (x1_2 : Int32) (x2_3 : Int32) (x3_4 : Int32) (x4_5 : Int32) (x5_6 : Int32) => ((zsigns ≤ x5_6 → J336 x3_4) ∧ (¬ zsigns ≤ x5_6 → (vp_in x5_6 60 ∧ jn (fun (x1_7 : Int32) (x2_8 : Int32) (x3_9 : Int32) (x4_10 : Int32) (x7_11 : Int32) => ((¬ x7_11 = 0 → G12 x1_7 x2_8 x3_9 x4_10 (x5_6 + (1 : Int32))) ∧ (x7_11 = 0 → post x5_6 ))) (fun (J322 : Int32 → Int32 → Int32 → Int32 → Int32 → Prop) => ((x3_4 = 0 → wp_X12_in (zpad (x5_6).toNatClampNeg) (49 : Int32) (57 : Int32) (fun (r_12 : Int32) => jn (fun (t_13 : Int32) => J322 x1_2 x2_3 (1 : Int32) x4_5 t_13) (fun (J87 : Int32 → Prop) => jn ( J87 (0 : Int32)) (fun (J86 : Prop) => ((r_12 = 0 → J86) ∧ (¬ r_12 = 0 → (((7 : Int32) ≤ x1_2 → J86) ∧ (¬ (7 : Int32) ≤ x1_2 → J87 (1 : Int32))))))))) ∧ (¬ x3_4 = 0 → ((x3_4 = 1 → jn (fun (t_14 : Int32) => jn (fun (t_15 : Int32) => jn (fun (t_16 : Int32) => J322 x1_2 (x2_3 + t_14) t_16 x4_5 t_15) (fun (J154 : Int32 → Prop) => ((¬ (zpad (x5_6).toNatClampNeg) = (63 : Int32) → J154 (2 : Int32)) ∧ ((zpad (x5_6).toNatClampNeg) = (63 : Int32) → J154 (3 : Int32))))) (fun (J140 : Int32 → Prop) => jn ( J140 (1 : Int32)) (fun (J135 : Prop) => (((zpad (x5_6).toNatClampNeg) = (43 : Int32) → J135) ∧ (¬ (zpad (x5_6).toNatClampNeg) = (43 : Int32) → (((zpad (x5_6).toNatClampNeg) = (45 : Int32) → J135) ∧ (¬ (zpad (x5_6).toNatClampNeg) = (45 : Int32) → jn ( J140 (0 : Int32)) (fun (J139 : Prop) => ((¬ (zpad (x5_6).toNatClampNeg) = (63 : Int32) → J139) ∧ ((zpad (x5_6).toNatClampNeg) = (63 : Int32) → (((4 : Int32) ≤ (x2_3 + t_14) → J139) ∧ (¬ (4 : Int32) ≤ (x2_3 + t_14) → J135)))))))))))) (fun (J107 : Int32 → Prop) => ((¬ (zpad (x5_6).toNatClampNeg) = (63 : Int32) → J107 (0 : Int32)) ∧ ((zpad (x5_6).toNatClampNeg) = (63 : Int32) → J107 (1 : Int32))))) ∧ (¬ x3_4 = 1 → ((x3_4 = 2 → wp_X12_in (zpad (x5_6).toNatClampNeg) (48 : Int32) (57 : Int32) (fun (r_17 : Int32) => J322 x1_2 x2_3 (3 : Int32) x4_5 r_17)) ∧ (¬ x3_4 = 2 → ((x3_4 = 3 → jn (fun (t_18 : Int32) => jn (fun (t_19 : Int32) => jn (fun (t_20 : Int32) => jn (fun (t_21 : Int32) => J322 (x1_2 + t_20) x2_3 t_21 x4_5 t_19) (fun (J321 : Int32 → Prop) => ((¬ (zpad (x5_6).toNatClampNeg) = (59 : Int32) → ((¬ (zpad (x5_6).toNatClampNeg) = (33 : Int32) → J321 (6 : Int32)) ∧ ((zpad (x5_6).toNatClampNeg) = (33 : Int32) → J321 (4 : Int32)))) ∧ ((zpad (x5_6).toNatClampNeg) = (59 : Int32) → J321 (0 : Int32))))) (fun (J295 : Int32 → Prop) => ((¬ (zpad (x5_6).toNatClampNeg) = (59 : Int32) → J295 (0 : Int32)) ∧ ((zpad (x5_6).toNatClampNeg) = (59 : Int32) → J295 (1 : Int32))))) (fun (J280 : Int32 → Prop) => jn ( J280 (1 : Int32)) (fun (J275 : Prop) => (((zpad (x5_6).toNatClampNeg) = (59 : Int32) → J275) ∧ (¬ (zpad (x5_6).toNatClampNeg) = (59 : Int32) → jn ( ((t_18 = 0 → J280 (0 : Int32)) ∧ (¬ t_18 = 0 → J275))) (fun (J270 : Prop) => ((¬ (zpad (x5_6).toNatClampNeg) = (33 : Int32) → J270) ∧ ((zpad (x5_6).toNatClampNeg) = (33 : Int32) → ((x3_4 = (3 : Int32) → J275) ∧ (¬ x3_4 = (3 : Int32) → J270)))))))))) (fun (J249 : Int32 → Prop) => jn ( J249 (0 : Int32)) (fun (J248 : Prop) => ((¬ x3_4 = (5 : Int32) → J248) ∧ (x3_4 = (5 : Int32) → wp_X12_in (zpad (x5_6).toNatClampNeg) (97 : Int32) (103 : Int32) (fun (r_22 : Int32) => ((r_22 = 0 → J248) ∧ (¬ r_22 = 0 → (((zpad (x5_6).toNatClampNeg) ≤ x4_5 → J248) ∧ (¬ (zpad (x5_6).toNatClampNeg) ≤ x4_5 → (((zpad (x5_6).toNatClampNeg) = ((97 : Int32) + x1_2) → J248) ∧ (¬ (zpad (x5_6).toNatClampNeg) = ((97 : Int32) + x1_2) → J249 (1 : Int32))))))))))))) ∧ (¬ x3_4 = 3 → ((x3_4 = 4 → wp_X12_in (zpad (x5_6).toNatClampNeg) (97 : Int32) (103 : Int32) (fun (r_23 : Int32) => jn (fun (t_24 : Int32) => J322 x1_2 x2_3 (5 : Int32) (zpad (x5_6).toNatClampNeg) t_24) (fun (J200 : Int32 → Prop) => jn ( J200 (0 : Int32)) (fun (J199 : Prop) => ((r_23 = 0 → J199) ∧ (¬ r_23 = 0 → (((zpad (x5_6).toNatClampNeg) = ((97 : Int32) + x1_2) → J199) ∧ (¬ (zpad (x5_6).toNatClampNeg) = ((97 : Int32) + x1_2) → J200 (1 : Int32))))))))) ∧ (¬ x3_4 = 4 → jn (fun (t_25 : Int32) => jn (fun (t_26 : Int32) => jn (fun (t_27 : Int32) => jn (fun (t_28 : Int32) => J322 (x1_2 + t_27) x2_3 t_28 x4_5 t_26) (fun (J321 : Int32 → Prop) => ((¬ (zpad (x5_6).toNatClampNeg) = (59 : Int32) → ((¬ (zpad (x5_6).toNatClampNeg) = (33 : Int32) → J321 (6 : Int32)) ∧ ((zpad (x5_6).toNatClampNeg) = (33 : Int32) → J321 (4 : Int32)))) ∧ ((zpad (x5_6).toNatClampNeg) = (59 : Int32) → J321 (0 : Int32))))) (fun (J295 : Int32 → Prop) => ((¬ (zpad (x5_6).toNatClampNeg) = (59 : Int32) → J295 (0 : Int32)) ∧ ((zpad (x5_6).toNatClampNeg) = (59 : Int32) → J295 (1 : Int32))))) (fun (J280 : Int32 → Prop) => jn ( J280 (1 : Int32)) (fun (J275 : Prop) => (((zpad (x5_6).toNatClampNeg) = (59 : Int32) → J275) ∧ (¬ (zpad (x5_6).toNatClampNeg) = (59 : Int32) → jn ( ((t_25 = 0 → J280 (0 : Int32)) ∧ (¬ t_25 = 0 → J275))) (fun (J270 : Prop) => ((¬ (zpad (x5_6).toNatClampNeg) = (33 : Int32) → J270) ∧ ((zpad (x5_6).toNatClampNeg) = (33 : Int32) → ((x3_4 = (3 : Int32) → J275) ∧ (¬ x3_4 = (3 : Int32) → J270)))))))))) (fun (J249 : Int32 → Prop) => jn ( J249 (0 : Int32)) (fun (J248 : Prop) => ((¬ x3_4 = (5 : Int32) → J248) ∧ (x3_4 = (5 : Int32) → wp_X12_in (zpad (x5_6).toNatClampNeg) (97 : Int32) (103 : Int32) (fun (r_29 : Int32) => ((r_29 = 0 → J248) ∧ (¬ r_29 = 0 → (((zpad (x5_6).toNatClampNeg) ≤ x4_5 → J248) ∧ (¬ (zpad (x5_6).toNatClampNeg) ≤ x4_5 → (((zpad (x5_6).toNatClampNeg) = ((97 : Int32) + x1_2) → J248) ∧ (¬ (zpad (x5_6).toNatClampNeg) = ((97 : Int32) + x1_2) → J249 (1 : Int32))))))))))))))))))))))))))) (fun G12 => G12 (0 : Int32) (0 : Int32) (0 : Int32) (0 : Int32) (0 : Int32)))
set_option maxHeartbeats 4000000 in
set_option maxRecDepth 100000 in
theorem c_X12_faultOf (l : Launch) (D : va_G) (ci cz : ClassId) (tr : List (ClassId × FieldType)) (q0 q1 : Nat) (sz : Nat) (u0 u1 u2 u3 u4 u5 u6 u7 u8 u9 u10 u11 u12 u13 u14 u15 u16 u17 u18 u19 u20 : Value) (zsigns : Int32) (zpad : Nat → Int32)  (post : Int32 → Prop) (hw : wp_X12_faultOf zsigns zpad post) : gM l yX12_faultOf cX12_faultOf 9 (some .int) 1 22 D ci cz tr [(q0, .inr (11, [u0, u1, u2, u3, u4, u5, u6, u7, u8, u9, u10, .int zsigns, .ref q1, u11, u12, u13, u14, u15, u16, u17, u18, u19, u20])), (q1, .inl (ci, 60, .inl zpad))] sz [.ref q0] (gQi D [(q0, .inr (11, [u0, u1, u2, u3, u4, u5, u6, u7, u8, u9, u10, .int zsigns, .ref q1, u11, u12, u13, u14, u15, u16, u17, u18, u19, u20])), (q1, .inl (ci, 60, .inl zpad))] sz (fun (r : Int32) w => w = [(q0, .inr (11, [u0, u1, u2, u3, u4, u5, u6, u7, u8, u9, u10, .int zsigns, .ref q1, u11, u12, u13, u14, u15, u16, u17, u18, u19, u20])), (q1, .inl (ci, 60, .inl zpad))] ∧ post r )) := by
  refine gmet_i RX12 (by decide +kernel) rfl (Nat.le_of_ble_eq_true rfl) ?_
  intro p e s m args below meth c A R Q C hfr hlc hP hD hret ls hl
  obtain ⟨hx, hb, hml, hown, ht, hK, hZ, hA⟩ := C
  have hl : lv_has ls 9 [(0, .ref q0)] := hl
  unfold wp_X12_faultOf at hw
  refine g_in (fun H locs => W p l e R s m args below meth c H locs 0 0 Q (F0 m 0 ls [])) (fun H locs hS0 hP => ?_) hP (va_S.rf (A := A) (H0 := s.heap))
  have hS : va_S A s.heap H locs := hS0
  clear hS0
  refine lv_iconst (v := (0 : Int32)) hx hb dX12_faultOf_0 (by decide) ?_
  refine lv_istore_n (lv' := [(1, .int (0 : Int32)), (0, .ref q0)]) hx hb dX12_faultOf_1 rfl hl (by decide) rfl (fun ls hl => ?_)
  refine lv_iconst (v := (0 : Int32)) hx hb dX12_faultOf_2 (by decide) ?_
  refine lv_istore_n (lv' := [(2, .int (0 : Int32)), (1, .int (0 : Int32)), (0, .ref q0)]) hx hb dX12_faultOf_3 rfl hl (by decide) rfl (fun ls hl => ?_)
  refine lv_iconst (v := (0 : Int32)) hx hb dX12_faultOf_4 (by decide) ?_
  refine lv_istore_n (lv' := [(3, .int (0 : Int32)), (2, .int (0 : Int32)), (1, .int (0 : Int32)), (0, .ref q0)]) hx hb dX12_faultOf_5 rfl hl (by decide) rfl (fun ls hl => ?_)
  refine lv_iconst (v := (0 : Int32)) hx hb dX12_faultOf_6 (by decide) ?_
  refine lv_istore (lv' := [(4, .int (0 : Int32)), (3, .int (0 : Int32)), (2, .int (0 : Int32)), (1, .int (0 : Int32)), (0, .ref q0)]) hx hb dX12_faultOf_7 hl (by decide) rfl (fun ls hl => ?_)
  refine lv_iconst (v := (0 : Int32)) hx hb dX12_faultOf_9 (by decide) ?_
  refine lv_istore (lv' := [(5, .int (0 : Int32)), (4, .int (0 : Int32)), (3, .int (0 : Int32)), (2, .int (0 : Int32)), (1, .int (0 : Int32)), (0, .ref q0)]) hx hb dX12_faultOf_10 hl (by decide) rfl (fun ls hl => ?_)
  refine jn_walk hw (fun J336 => ∀ (x3_1 : Int32) (H : Heap) (locs : List Loc) (ls : Array Slot), J336 x3_1 → va_P D vwCl [(q0, .inr (11, [u0, u1, u2, u3, u4, u5, u6, u7, u8, u9, u10, .int zsigns, .ref q1, u11, u12, u13, u14, u15, u16, u17, u18, u19, u20])), (q1, .inl (ci, 60, .inl zpad))] H → va_S A s.heap H locs → lv_has ls 9 [(0, .ref q0), (3, .int x3_1)] → W p l e R s m args below meth c H locs 0 0 Q (F0 m 336 ls [])) ?_ ?_
  · intro x3_1 H locs ls hw hP hS hl
    have hD : va_D A [(q0, .inr (11, [u0, u1, u2, u3, u4, u5, u6, u7, u8, u9, u10, .int zsigns, .ref q1, u11, u12, u13, u14, u15, u16, u17, u18, u19, u20])), (q1, .inl (ci, 60, .inl zpad))] := gD_re hD rfl
    refine lv_iload_n hx hb dX12_faultOf_336 rfl (lv_at hl 1 rfl) ?_
    refine lv_if_ne (tgt := 345) hx hb dX12_faultOf_337 (by decide) (fun hc => ?_) (fun hc => ?_)
    · have hw := hw.1 hc
      refine lv_aload_n hx hb dX12_faultOf_345 rfl (lv_at hl 0 rfl) ?_
      refine va_get (D := D) (ci := 11) (v := .int zsigns) (C := RX12) (T := TX12) (N := 23) hx hb ht in_X12 hown hK.1 hP 0 rfl rfl 11 (by decide) (ht _ mF_X12_70) (fun _ h9 => h9) rfl dX12_faultOf_346 ?_
      exact hret _ _ H locs _ _ ⟨rfl, hw⟩ hP hS dX12_faultOf_349
    · have hw := hw.2 hc
      refine lv_bipush (v := (-6 : Int32)) hx hb dX12_faultOf_340 (by decide) ?_
      refine lv_goto (tgt := 349) hx hb dX12_faultOf_342 (by decide) ?_
      exact hret _ _ H locs _ _ ⟨rfl, hw⟩ hP hS dX12_faultOf_349
  · intro J336 hJ336 hw
    refine lo_walk hw (fun G12 => ∀ (x1_2 : Int32) (x2_3 : Int32) (x3_4 : Int32) (x4_5 : Int32) (x5_6 : Int32) (H : Heap) (locs : List Loc) (ls : Array Slot), G12 x1_2 x2_3 x3_4 x4_5 x5_6 → va_P D vwCl [(q0, .inr (11, [u0, u1, u2, u3, u4, u5, u6, u7, u8, u9, u10, .int zsigns, .ref q1, u11, u12, u13, u14, u15, u16, u17, u18, u19, u20])), (q1, .inl (ci, 60, .inl zpad))] H → va_S A s.heap H locs → lv_has ls 9 [(0, .ref q0), (1, .int x1_2), (2, .int x2_3), (3, .int x3_4), (4, .int x4_5), (5, .int x5_6)] → W p l e R s m args below meth c H locs 0 0 Q (F0 m 12 ls [])) (fun _ _ _ _ _ _ _ _ hw _ _ _ => False.elim hw) (fun G12 hG12 x1_2 x2_3 x3_4 x4_5 x5_6 H locs ls hw hP hS hl => ?_) (fun G12 hG12 hw => hG12 _ _ _ _ _ H locs ls hw hP hS (lv_sub hl [5, 4, 3, 2, 1, 0] rfl))
    have hD : va_D A [(q0, .inr (11, [u0, u1, u2, u3, u4, u5, u6, u7, u8, u9, u10, .int zsigns, .ref q1, u11, u12, u13, u14, u15, u16, u17, u18, u19, u20])), (q1, .inl (ci, 60, .inl zpad))] := gD_re hD rfl
    refine lv_iload hx hb dX12_faultOf_12 (lv_at hl 5 rfl) ?_
    refine lv_aload_n hx hb dX12_faultOf_14 rfl (lv_at hl 0 rfl) ?_
    refine va_get (D := D) (ci := 11) (v := .int zsigns) (C := RX12) (T := TX12) (N := 23) hx hb ht in_X12 hown hK.1 hP 0 rfl rfl 11 (by decide) (ht _ mF_X12_70) (fun _ h9 => h9) rfl dX12_faultOf_15 ?_
    refine lv_icmp_ge (tgt := 336) hx hb dX12_faultOf_18 (by decide) (fun hc => ?_) (fun hc => ?_)
    · have hw := hw.1 hc
      exact hJ336 _ H locs ls hw hP hS (lv_sub hl [0, 3] rfl)
    · have hw := hw.2 hc
      refine lv_aload_n hx hb dX12_faultOf_21 rfl (lv_at hl 0 rfl) ?_
      refine va_get (D := D) (ci := 11) (v := .ref q1) (C := RX12) (T := TX12) (N := 23) hx hb ht in_X12 hown hK.1 hP 0 rfl rfl 12 (by decide) (ht _ mF_X12_36) (fun _ h9 => h9) rfl dX12_faultOf_22 ?_
      refine lv_iload hx hb dX12_faultOf_25 (lv_at hl 5 rfl) ?_
      obtain ⟨hin, hw⟩ := hw
      refine va_iald (D := D) hx hb hK.1 hP 1 0 rfl rfl hin dX12_faultOf_27 ?_
      refine lv_istore (lv' := [(6, .int (zpad (x5_6).toNatClampNeg)), (0, .ref q0), (1, .int x1_2), (2, .int x2_3), (3, .int x3_4), (4, .int x4_5), (5, .int x5_6)]) hx hb dX12_faultOf_28 hl (by decide) rfl (fun ls hl => ?_)
      refine lv_iload_n hx hb dX12_faultOf_30 rfl (lv_at hl 4 rfl) ?_
      refine jn_walk hw (fun J322 => ∀ (x1_7 : Int32) (x2_8 : Int32) (x3_9 : Int32) (x4_10 : Int32) (x7_11 : Int32) (H : Heap) (locs : List Loc) (ls : Array Slot), J322 x1_7 x2_8 x3_9 x4_10 x7_11 → va_P D vwCl [(q0, .inr (11, [u0, u1, u2, u3, u4, u5, u6, u7, u8, u9, u10, .int zsigns, .ref q1, u11, u12, u13, u14, u15, u16, u17, u18, u19, u20])), (q1, .inl (ci, 60, .inl zpad))] H → va_S A s.heap H locs → lv_has ls 9 [(0, .ref q0), (1, .int x1_7), (2, .int x2_8), (3, .int x3_9), (4, .int x4_10), (5, .int x5_6), (7, .int x7_11)] → W p l e R s m args below meth c H locs 0 0 Q (F0 m 322 ls [])) ?_ ?_
      · intro x1_7 x2_8 x3_9 x4_10 x7_11 H locs ls hw hP hS hl
        have hD : va_D A [(q0, .inr (11, [u0, u1, u2, u3, u4, u5, u6, u7, u8, u9, u10, .int zsigns, .ref q1, u11, u12, u13, u14, u15, u16, u17, u18, u19, u20])), (q1, .inl (ci, 60, .inl zpad))] := gD_re hD rfl
        refine lv_iload hx hb dX12_faultOf_322 (lv_at hl 6 rfl) ?_
        refine lv_if_ne (tgt := 330) hx hb dX12_faultOf_324 (by decide) (fun hc => ?_) (fun hc => ?_)
        · have hw := hw.1 hc
          refine lv_iinc (v := (x5_6 + (1 : Int32))) (lv' := [(5, .int (x5_6 + (1 : Int32))), (0, .ref q0), (1, .int x1_7), (2, .int x2_8), (3, .int x3_9), (4, .int x4_10), (7, .int x7_11)]) hx hb dX12_faultOf_330 hl (k := 5) rfl rfl (by decide) rfl (fun ls hl => ?_)
          refine lv_goto (tgt := 12) hx hb dX12_faultOf_333 (by decide) ?_
          exact hG12 _ _ _ _ _ H locs ls hw hP hS (lv_sub hl [1, 2, 3, 4, 5, 0] rfl)
        · have hw := hw.2 hc
          refine lv_iload hx hb dX12_faultOf_327 (lv_at hl 5 rfl) ?_
          exact hret _ _ H locs _ _ ⟨rfl, hw⟩ hP hS dX12_faultOf_329
      · intro J322 hJ322 hw
        by_cases hk0 : x3_4 = (0 : Int32)
        · have hw := hw.1 hk0
          refine lv_tableIn (tgt := 64) hx hb dX12_faultOf_31 (by rw [hk0]; decide) (by rw [hk0]; decide) (by rw [hk0]; rfl) (by decide) ?_
          refine lv_iload hx hb dX12_faultOf_64 (lv_at hl 0 rfl) ?_
          refine lv_bipush (v := (49 : Int32)) hx hb dX12_faultOf_66 (by decide) ?_
          refine lv_bipush (v := (57 : Int32)) hx hb dX12_faultOf_68 (by decide) ?_
          refine gcalli (va_runS (As := [.int (zpad (x5_6).toNatClampNeg), .int (49 : Int32), .int (57 : Int32)]) (rest := []) ⟨hx, hb, hml, hown, ht⟩ (c_X12_in l D ci cz tr  H.size (zpad (x5_6).toNatClampNeg) (49 : Int32) (57 : Int32) _ hw) (va_cwS 3 ht (gi_S mM_X12_66 mT_X12_in mN_X12 mC_X12_in) rfl rfl rfl (by decide +kernel) ⟨Nat.le_trans (Nat.le_of_ble_eq_true rfl) hfr, Nat.le_trans (Nat.le_of_ble_eq_true rfl) hlc⟩) (gpre (wc := []) hK hZ hP hD hS hA [] rfl rfl) rfl rfl hl.1 rfl (lv_room (Nat.le_of_ble_eq_true rfl)) dX12_faultOf_70 ⟨Nat.zero_le _, Nat.zero_le _⟩) hD hS hA [] rfl (fun r_12 w9 H locs hw hP9 hk9 hS => ?_)
          obtain ⟨rfl, hw⟩ := hw
          have hP : va_P D vwCl [(q0, .inr (11, [u0, u1, u2, u3, u4, u5, u6, u7, u8, u9, u10, .int zsigns, .ref q1, u11, u12, u13, u14, u15, u16, u17, u18, u19, u20])), (q1, .inl (ci, 60, .inl zpad))] H := gjoin3 hP hD [] hP9 hk9 rfl rfl [none, none] rfl rfl
          clear hP9 hk9
          refine jn_walk hw (fun J87 => ∀ (t_13 : Int32) (H : Heap) (locs : List Loc) (ls : Array Slot), J87 t_13 → va_P D vwCl [(q0, .inr (11, [u0, u1, u2, u3, u4, u5, u6, u7, u8, u9, u10, .int zsigns, .ref q1, u11, u12, u13, u14, u15, u16, u17, u18, u19, u20])), (q1, .inl (ci, 60, .inl zpad))] H → va_S A s.heap H locs → lv_has ls 9 [(0, .ref q0), (1, .int x1_2), (2, .int x2_3), (4, .int x4_5), (5, .int x5_6)] → W p l e R s m args below meth c H locs 0 0 Q (F0 m 87 ls [.int t_13])) ?_ ?_
          · intro t_13 H locs ls hw hP hS hl
            have hD : va_D A [(q0, .inr (11, [u0, u1, u2, u3, u4, u5, u6, u7, u8, u9, u10, .int zsigns, .ref q1, u11, u12, u13, u14, u15, u16, u17, u18, u19, u20])), (q1, .inl (ci, 60, .inl zpad))] := gD_re hD rfl
            refine lv_istore (lv' := [(7, .int t_13), (0, .ref q0), (1, .int x1_2), (2, .int x2_3), (4, .int x4_5), (5, .int x5_6)]) hx hb dX12_faultOf_87 hl (by decide) rfl (fun ls hl => ?_)
            refine lv_iconst (v := (1 : Int32)) hx hb dX12_faultOf_89 (by decide) ?_
            refine lv_istore_n (lv' := [(3, .int (1 : Int32)), (7, .int t_13), (0, .ref q0), (1, .int x1_2), (2, .int x2_3), (4, .int x4_5), (5, .int x5_6)]) hx hb dX12_faultOf_90 rfl hl (by decide) rfl (fun ls hl => ?_)
            refine lv_goto (tgt := 322) hx hb dX12_faultOf_91 (by decide) ?_
            exact hJ322 _ _ _ _ _ H locs ls hw hP hS (lv_sub hl [2, 3, 4, 0, 5, 6, 1] rfl)
          · intro J87 hJ87 hw
            refine jn_walk hw (fun J86 => ∀  (H : Heap) (locs : List Loc) (ls : Array Slot), J86 → va_P D vwCl [(q0, .inr (11, [u0, u1, u2, u3, u4, u5, u6, u7, u8, u9, u10, .int zsigns, .ref q1, u11, u12, u13, u14, u15, u16, u17, u18, u19, u20])), (q1, .inl (ci, 60, .inl zpad))] H → va_S A s.heap H locs → lv_has ls 9 [(0, .ref q0), (1, .int x1_2), (2, .int x2_3), (4, .int x4_5), (5, .int x5_6)] → W p l e R s m args below meth c H locs 0 0 Q (F0 m 86 ls [])) ?_ ?_
            · intro  H locs ls hw hP hS hl
              have hD : va_D A [(q0, .inr (11, [u0, u1, u2, u3, u4, u5, u6, u7, u8, u9, u10, .int zsigns, .ref q1, u11, u12, u13, u14, u15, u16, u17, u18, u19, u20])), (q1, .inl (ci, 60, .inl zpad))] := gD_re hD rfl
              refine lv_iconst (v := (0 : Int32)) hx hb dX12_faultOf_86 (by decide) ?_
              exact hJ87 _ H locs ls hw hP hS (lv_sub hl [0, 1, 2, 3, 4] rfl)
            · intro J86 hJ86 hw
              refine lv_if_eq (tgt := 86) hx hb dX12_faultOf_73 (by decide) (fun hc => ?_) (fun hc => ?_)
              · have hw := hw.1 hc
                exact hJ86  H locs ls hw hP hS (lv_sub hl [1, 2, 3, 5, 6] rfl)
              · have hw := hw.2 hc
                refine lv_iload_n hx hb dX12_faultOf_76 rfl (lv_at hl 2 rfl) ?_
                refine lv_bipush (v := (7 : Int32)) hx hb dX12_faultOf_77 (by decide) ?_
                refine lv_icmp_ge (tgt := 86) hx hb dX12_faultOf_79 (by decide) (fun hc => ?_) (fun hc => ?_)
                · have hw := hw.1 hc
                  exact hJ86  H locs ls hw hP hS (lv_sub hl [1, 2, 3, 5, 6] rfl)
                · have hw := hw.2 hc
                  refine lv_iconst (v := (1 : Int32)) hx hb dX12_faultOf_82 (by decide) ?_
                  refine lv_goto (tgt := 87) hx hb dX12_faultOf_83 (by decide) ?_
                  exact hJ87 _ H locs ls hw hP hS (lv_sub hl [1, 2, 3, 5, 6] rfl)
        have hw := hw.2 hk0
        by_cases hk1 : x3_4 = (1 : Int32)
        · have hw := hw.1 hk1
          refine lv_tableIn (tgt := 94) hx hb dX12_faultOf_31 (by rw [hk1]; decide) (by rw [hk1]; decide) (by rw [hk1]; rfl) (by decide) ?_
          refine lv_iload_n hx hb dX12_faultOf_94 rfl (lv_at hl 3 rfl) ?_
          refine lv_iload hx hb dX12_faultOf_95 (lv_at hl 0 rfl) ?_
          refine lv_bipush (v := (63 : Int32)) hx hb dX12_faultOf_97 (by decide) ?_
          refine jn_walk hw (fun J107 => ∀ (t_14 : Int32) (H : Heap) (locs : List Loc) (ls : Array Slot), J107 t_14 → va_P D vwCl [(q0, .inr (11, [u0, u1, u2, u3, u4, u5, u6, u7, u8, u9, u10, .int zsigns, .ref q1, u11, u12, u13, u14, u15, u16, u17, u18, u19, u20])), (q1, .inl (ci, 60, .inl zpad))] H → va_S A s.heap H locs → lv_has ls 9 [(0, .ref q0), (1, .int x1_2), (4, .int x4_5), (5, .int x5_6), (6, .int (zpad (x5_6).toNatClampNeg))] → W p l e R s m args below meth c H locs 0 0 Q (F0 m 107 ls [.int t_14, .int x2_3])) ?_ ?_
          · intro t_14 H locs ls hw hP hS hl
            have hD : va_D A [(q0, .inr (11, [u0, u1, u2, u3, u4, u5, u6, u7, u8, u9, u10, .int zsigns, .ref q1, u11, u12, u13, u14, u15, u16, u17, u18, u19, u20])), (q1, .inl (ci, 60, .inl zpad))] := gD_re hD rfl
            refine lv_iadd hx hb dX12_faultOf_107 ?_
            refine lv_istore_n (lv' := [(2, .int (x2_3 + t_14)), (0, .ref q0), (1, .int x1_2), (4, .int x4_5), (5, .int x5_6), (6, .int (zpad (x5_6).toNatClampNeg))]) hx hb dX12_faultOf_108 rfl hl (by decide) rfl (fun ls hl => ?_)
            refine lv_iload hx hb dX12_faultOf_109 (lv_at hl 5 rfl) ?_
            refine lv_bipush (v := (43 : Int32)) hx hb dX12_faultOf_111 (by decide) ?_
            refine jn_walk hw (fun J140 => ∀ (t_15 : Int32) (H : Heap) (locs : List Loc) (ls : Array Slot), J140 t_15 → va_P D vwCl [(q0, .inr (11, [u0, u1, u2, u3, u4, u5, u6, u7, u8, u9, u10, .int zsigns, .ref q1, u11, u12, u13, u14, u15, u16, u17, u18, u19, u20])), (q1, .inl (ci, 60, .inl zpad))] H → va_S A s.heap H locs → lv_has ls 9 [(0, .ref q0), (1, .int x1_2), (2, .int (x2_3 + t_14)), (4, .int x4_5), (5, .int x5_6), (6, .int (zpad (x5_6).toNatClampNeg))] → W p l e R s m args below meth c H locs 0 0 Q (F0 m 140 ls [.int t_15])) ?_ ?_
            · intro t_15 H locs ls hw hP hS hl
              have hD : va_D A [(q0, .inr (11, [u0, u1, u2, u3, u4, u5, u6, u7, u8, u9, u10, .int zsigns, .ref q1, u11, u12, u13, u14, u15, u16, u17, u18, u19, u20])), (q1, .inl (ci, 60, .inl zpad))] := gD_re hD rfl
              refine lv_istore (lv' := [(7, .int t_15), (0, .ref q0), (1, .int x1_2), (2, .int (x2_3 + t_14)), (4, .int x4_5), (5, .int x5_6), (6, .int (zpad (x5_6).toNatClampNeg))]) hx hb dX12_faultOf_140 hl (by decide) rfl (fun ls hl => ?_)
              refine lv_iload hx hb dX12_faultOf_142 (lv_at hl 6 rfl) ?_
              refine lv_bipush (v := (63 : Int32)) hx hb dX12_faultOf_144 (by decide) ?_
              refine jn_walk hw (fun J154 => ∀ (t_16 : Int32) (H : Heap) (locs : List Loc) (ls : Array Slot), J154 t_16 → va_P D vwCl [(q0, .inr (11, [u0, u1, u2, u3, u4, u5, u6, u7, u8, u9, u10, .int zsigns, .ref q1, u11, u12, u13, u14, u15, u16, u17, u18, u19, u20])), (q1, .inl (ci, 60, .inl zpad))] H → va_S A s.heap H locs → lv_has ls 9 [(0, .ref q0), (1, .int x1_2), (2, .int (x2_3 + t_14)), (4, .int x4_5), (5, .int x5_6), (7, .int t_15)] → W p l e R s m args below meth c H locs 0 0 Q (F0 m 154 ls [.int t_16])) ?_ ?_
              · intro t_16 H locs ls hw hP hS hl
                have hD : va_D A [(q0, .inr (11, [u0, u1, u2, u3, u4, u5, u6, u7, u8, u9, u10, .int zsigns, .ref q1, u11, u12, u13, u14, u15, u16, u17, u18, u19, u20])), (q1, .inl (ci, 60, .inl zpad))] := gD_re hD rfl
                refine lv_istore_n (lv' := [(3, .int t_16), (0, .ref q0), (1, .int x1_2), (2, .int (x2_3 + t_14)), (4, .int x4_5), (5, .int x5_6), (7, .int t_15)]) hx hb dX12_faultOf_154 rfl hl (by decide) rfl (fun ls hl => ?_)
                refine lv_goto (tgt := 322) hx hb dX12_faultOf_155 (by decide) ?_
                exact hJ322 _ _ _ _ _ H locs ls hw hP hS (lv_sub hl [1, 2, 3, 0, 4, 5, 6] rfl)
              · intro J154 hJ154 hw
                refine lv_icmp_ne (tgt := 153) hx hb dX12_faultOf_146 (by decide) (fun hc => ?_) (fun hc => ?_)
                · have hw := hw.1 hc
                  refine lv_iconst (v := (2 : Int32)) hx hb dX12_faultOf_153 (by decide) ?_
                  exact hJ154 _ H locs ls hw hP hS (lv_sub hl [1, 2, 3, 4, 5, 0] rfl)
                · have hw := hw.2 hc
                  refine lv_iconst (v := (3 : Int32)) hx hb dX12_faultOf_149 (by decide) ?_
                  refine lv_goto (tgt := 154) hx hb dX12_faultOf_150 (by decide) ?_
                  exact hJ154 _ H locs ls hw hP hS (lv_sub hl [1, 2, 3, 4, 5, 0] rfl)
            · intro J140 hJ140 hw
              refine jn_walk hw (fun J135 => ∀  (H : Heap) (locs : List Loc) (ls : Array Slot), J135 → va_P D vwCl [(q0, .inr (11, [u0, u1, u2, u3, u4, u5, u6, u7, u8, u9, u10, .int zsigns, .ref q1, u11, u12, u13, u14, u15, u16, u17, u18, u19, u20])), (q1, .inl (ci, 60, .inl zpad))] H → va_S A s.heap H locs → lv_has ls 9 [(0, .ref q0), (1, .int x1_2), (2, .int (x2_3 + t_14)), (4, .int x4_5), (5, .int x5_6), (6, .int (zpad (x5_6).toNatClampNeg))] → W p l e R s m args below meth c H locs 0 0 Q (F0 m 135 ls [])) ?_ ?_
              · intro  H locs ls hw hP hS hl
                have hD : va_D A [(q0, .inr (11, [u0, u1, u2, u3, u4, u5, u6, u7, u8, u9, u10, .int zsigns, .ref q1, u11, u12, u13, u14, u15, u16, u17, u18, u19, u20])), (q1, .inl (ci, 60, .inl zpad))] := gD_re hD rfl
                refine lv_iconst (v := (1 : Int32)) hx hb dX12_faultOf_135 (by decide) ?_
                refine lv_goto (tgt := 140) hx hb dX12_faultOf_136 (by decide) ?_
                exact hJ140 _ H locs ls hw hP hS (lv_sub hl [0, 1, 2, 3, 4, 5] rfl)
              · intro J135 hJ135 hw
                refine lv_icmp_eq (tgt := 135) hx hb dX12_faultOf_113 (by decide) (fun hc => ?_) (fun hc => ?_)
                · have hw := hw.1 hc
                  exact hJ135  H locs ls hw hP hS (lv_sub hl [1, 2, 0, 3, 4, 5] rfl)
                · have hw := hw.2 hc
                  refine lv_iload hx hb dX12_faultOf_116 (lv_at hl 5 rfl) ?_
                  refine lv_bipush (v := (45 : Int32)) hx hb dX12_faultOf_118 (by decide) ?_
                  refine lv_icmp_eq (tgt := 135) hx hb dX12_faultOf_120 (by decide) (fun hc => ?_) (fun hc => ?_)
                  · have hw := hw.1 hc
                    exact hJ135  H locs ls hw hP hS (lv_sub hl [1, 2, 0, 3, 4, 5] rfl)
                  · have hw := hw.2 hc
                    refine lv_iload hx hb dX12_faultOf_123 (lv_at hl 5 rfl) ?_
                    refine lv_bipush (v := (63 : Int32)) hx hb dX12_faultOf_125 (by decide) ?_
                    refine jn_walk hw (fun J139 => ∀  (H : Heap) (locs : List Loc) (ls : Array Slot), J139 → va_P D vwCl [(q0, .inr (11, [u0, u1, u2, u3, u4, u5, u6, u7, u8, u9, u10, .int zsigns, .ref q1, u11, u12, u13, u14, u15, u16, u17, u18, u19, u20])), (q1, .inl (ci, 60, .inl zpad))] H → va_S A s.heap H locs → lv_has ls 9 [(0, .ref q0), (1, .int x1_2), (2, .int (x2_3 + t_14)), (4, .int x4_5), (5, .int x5_6), (6, .int (zpad (x5_6).toNatClampNeg))] → W p l e R s m args below meth c H locs 0 0 Q (F0 m 139 ls [])) ?_ ?_
                    · intro  H locs ls hw hP hS hl
                      have hD : va_D A [(q0, .inr (11, [u0, u1, u2, u3, u4, u5, u6, u7, u8, u9, u10, .int zsigns, .ref q1, u11, u12, u13, u14, u15, u16, u17, u18, u19, u20])), (q1, .inl (ci, 60, .inl zpad))] := gD_re hD rfl
                      refine lv_iconst (v := (0 : Int32)) hx hb dX12_faultOf_139 (by decide) ?_
                      exact hJ140 _ H locs ls hw hP hS (lv_sub hl [0, 1, 2, 3, 4, 5] rfl)
                    · intro J139 hJ139 hw
                      refine lv_icmp_ne (tgt := 139) hx hb dX12_faultOf_127 (by decide) (fun hc => ?_) (fun hc => ?_)
                      · have hw := hw.1 hc
                        exact hJ139  H locs ls hw hP hS (lv_sub hl [1, 2, 0, 3, 4, 5] rfl)
                      · have hw := hw.2 hc
                        refine lv_iload_n hx hb dX12_faultOf_130 rfl (lv_at hl 0 rfl) ?_
                        refine lv_iconst (v := (4 : Int32)) hx hb dX12_faultOf_131 (by decide) ?_
                        refine lv_icmp_ge (tgt := 139) hx hb dX12_faultOf_132 (by decide) (fun hc => ?_) (fun hc => ?_)
                        · have hw := hw.1 hc
                          exact hJ139  H locs ls hw hP hS (lv_sub hl [1, 2, 0, 3, 4, 5] rfl)
                        · have hw := hw.2 hc
                          exact hJ135  H locs ls hw hP hS (lv_sub hl [1, 2, 0, 3, 4, 5] rfl)
          · intro J107 hJ107 hw
            refine lv_icmp_ne (tgt := 106) hx hb dX12_faultOf_99 (by decide) (fun hc => ?_) (fun hc => ?_)
            · have hw := hw.1 hc
              refine lv_iconst (v := (0 : Int32)) hx hb dX12_faultOf_106 (by decide) ?_
              exact hJ107 _ H locs ls hw hP hS (lv_sub hl [1, 2, 5, 6, 0] rfl)
            · have hw := hw.2 hc
              refine lv_iconst (v := (1 : Int32)) hx hb dX12_faultOf_102 (by decide) ?_
              refine lv_goto (tgt := 107) hx hb dX12_faultOf_103 (by decide) ?_
              exact hJ107 _ H locs ls hw hP hS (lv_sub hl [1, 2, 5, 6, 0] rfl)
        have hw := hw.2 hk1
        by_cases hk2 : x3_4 = (2 : Int32)
        · have hw := hw.1 hk2
          refine lv_tableIn (tgt := 158) hx hb dX12_faultOf_31 (by rw [hk2]; decide) (by rw [hk2]; decide) (by rw [hk2]; rfl) (by decide) ?_
          refine lv_iload hx hb dX12_faultOf_158 (lv_at hl 0 rfl) ?_
          refine lv_bipush (v := (48 : Int32)) hx hb dX12_faultOf_160 (by decide) ?_
          refine lv_bipush (v := (57 : Int32)) hx hb dX12_faultOf_162 (by decide) ?_
          refine gcalli (va_runS (As := [.int (zpad (x5_6).toNatClampNeg), .int (48 : Int32), .int (57 : Int32)]) (rest := []) ⟨hx, hb, hml, hown, ht⟩ (c_X12_in l D ci cz tr  H.size (zpad (x5_6).toNatClampNeg) (48 : Int32) (57 : Int32) _ hw) (va_cwS 3 ht (gi_S mM_X12_66 mT_X12_in mN_X12 mC_X12_in) rfl rfl rfl (by decide +kernel) ⟨Nat.le_trans (Nat.le_of_ble_eq_true rfl) hfr, Nat.le_trans (Nat.le_of_ble_eq_true rfl) hlc⟩) (gpre (wc := []) hK hZ hP hD hS hA [] rfl rfl) rfl rfl hl.1 rfl (lv_room (Nat.le_of_ble_eq_true rfl)) dX12_faultOf_164 ⟨Nat.zero_le _, Nat.zero_le _⟩) hD hS hA [] rfl (fun r_17 w9 H locs hw hP9 hk9 hS => ?_)
          obtain ⟨rfl, hw⟩ := hw
          have hP : va_P D vwCl [(q0, .inr (11, [u0, u1, u2, u3, u4, u5, u6, u7, u8, u9, u10, .int zsigns, .ref q1, u11, u12, u13, u14, u15, u16, u17, u18, u19, u20])), (q1, .inl (ci, 60, .inl zpad))] H := gjoin3 hP hD [] hP9 hk9 rfl rfl [none, none] rfl rfl
          clear hP9 hk9
          refine lv_istore (lv' := [(7, .int r_17), (6, .int (zpad (x5_6).toNatClampNeg)), (0, .ref q0), (1, .int x1_2), (2, .int x2_3), (3, .int x3_4), (4, .int x4_5), (5, .int x5_6)]) hx hb dX12_faultOf_167 hl (by decide) rfl (fun ls hl => ?_)
          refine lv_iconst (v := (3 : Int32)) hx hb dX12_faultOf_169 (by decide) ?_
          refine lv_istore_n (lv' := [(3, .int (3 : Int32)), (7, .int r_17), (6, .int (zpad (x5_6).toNatClampNeg)), (0, .ref q0), (1, .int x1_2), (2, .int x2_3), (4, .int x4_5), (5, .int x5_6)]) hx hb dX12_faultOf_170 rfl hl (by decide) rfl (fun ls hl => ?_)
          refine lv_goto (tgt := 322) hx hb dX12_faultOf_171 (by decide) ?_
          exact hJ322 _ _ _ _ _ H locs ls hw hP hS (lv_sub hl [3, 4, 5, 0, 6, 7, 1] rfl)
        have hw := hw.2 hk2
        by_cases hk3 : x3_4 = (3 : Int32)
        · have hw := hw.1 hk3
          refine lv_tableIn (tgt := 211) hx hb dX12_faultOf_31 (by rw [hk3]; decide) (by rw [hk3]; decide) (by rw [hk3]; rfl) (by decide) ?_
          refine lv_iload_n hx hb dX12_faultOf_211 rfl (lv_at hl 4 rfl) ?_
          refine lv_iconst (v := (5 : Int32)) hx hb dX12_faultOf_212 (by decide) ?_
          refine jn_walk hw (fun J249 => ∀ (t_18 : Int32) (H : Heap) (locs : List Loc) (ls : Array Slot), J249 t_18 → va_P D vwCl [(q0, .inr (11, [u0, u1, u2, u3, u4, u5, u6, u7, u8, u9, u10, .int zsigns, .ref q1, u11, u12, u13, u14, u15, u16, u17, u18, u19, u20])), (q1, .inl (ci, 60, .inl zpad))] H → va_S A s.heap H locs → lv_has ls 9 [(0, .ref q0), (1, .int x1_2), (2, .int x2_3), (3, .int x3_4), (4, .int x4_5), (5, .int x5_6), (6, .int (zpad (x5_6).toNatClampNeg))] → W p l e R s m args below meth c H locs 0 0 Q (F0 m 249 ls [.int t_18])) ?_ ?_
          · intro t_18 H locs ls hw hP hS hl
            have hD : va_D A [(q0, .inr (11, [u0, u1, u2, u3, u4, u5, u6, u7, u8, u9, u10, .int zsigns, .ref q1, u11, u12, u13, u14, u15, u16, u17, u18, u19, u20])), (q1, .inl (ci, 60, .inl zpad))] := gD_re hD rfl
            refine lv_istore (lv' := [(8, .int t_18), (0, .ref q0), (1, .int x1_2), (2, .int x2_3), (3, .int x3_4), (4, .int x4_5), (5, .int x5_6), (6, .int (zpad (x5_6).toNatClampNeg))]) hx hb dX12_faultOf_249 hl (by decide) rfl (fun ls hl => ?_)
            refine lv_iload hx hb dX12_faultOf_251 (lv_at hl 7 rfl) ?_
            refine lv_bipush (v := (59 : Int32)) hx hb dX12_faultOf_253 (by decide) ?_
            refine jn_walk hw (fun J280 => ∀ (t_19 : Int32) (H : Heap) (locs : List Loc) (ls : Array Slot), J280 t_19 → va_P D vwCl [(q0, .inr (11, [u0, u1, u2, u3, u4, u5, u6, u7, u8, u9, u10, .int zsigns, .ref q1, u11, u12, u13, u14, u15, u16, u17, u18, u19, u20])), (q1, .inl (ci, 60, .inl zpad))] H → va_S A s.heap H locs → lv_has ls 9 [(0, .ref q0), (1, .int x1_2), (2, .int x2_3), (4, .int x4_5), (5, .int x5_6), (6, .int (zpad (x5_6).toNatClampNeg))] → W p l e R s m args below meth c H locs 0 0 Q (F0 m 280 ls [.int t_19])) ?_ ?_
            · intro t_19 H locs ls hw hP hS hl
              have hD : va_D A [(q0, .inr (11, [u0, u1, u2, u3, u4, u5, u6, u7, u8, u9, u10, .int zsigns, .ref q1, u11, u12, u13, u14, u15, u16, u17, u18, u19, u20])), (q1, .inl (ci, 60, .inl zpad))] := gD_re hD rfl
              refine lv_istore (lv' := [(7, .int t_19), (0, .ref q0), (1, .int x1_2), (2, .int x2_3), (4, .int x4_5), (5, .int x5_6), (6, .int (zpad (x5_6).toNatClampNeg))]) hx hb dX12_faultOf_280 hl (by decide) rfl (fun ls hl => ?_)
              refine lv_iload_n hx hb dX12_faultOf_282 rfl (lv_at hl 2 rfl) ?_
              refine lv_iload hx hb dX12_faultOf_283 (lv_at hl 6 rfl) ?_
              refine lv_bipush (v := (59 : Int32)) hx hb dX12_faultOf_285 (by decide) ?_
              refine jn_walk hw (fun J295 => ∀ (t_20 : Int32) (H : Heap) (locs : List Loc) (ls : Array Slot), J295 t_20 → va_P D vwCl [(q0, .inr (11, [u0, u1, u2, u3, u4, u5, u6, u7, u8, u9, u10, .int zsigns, .ref q1, u11, u12, u13, u14, u15, u16, u17, u18, u19, u20])), (q1, .inl (ci, 60, .inl zpad))] H → va_S A s.heap H locs → lv_has ls 9 [(0, .ref q0), (2, .int x2_3), (4, .int x4_5), (5, .int x5_6), (6, .int (zpad (x5_6).toNatClampNeg)), (7, .int t_19)] → W p l e R s m args below meth c H locs 0 0 Q (F0 m 295 ls [.int t_20, .int x1_2])) ?_ ?_
              · intro t_20 H locs ls hw hP hS hl
                have hD : va_D A [(q0, .inr (11, [u0, u1, u2, u3, u4, u5, u6, u7, u8, u9, u10, .int zsigns, .ref q1, u11, u12, u13, u14, u15, u16, u17, u18, u19, u20])), (q1, .inl (ci, 60, .inl zpad))] := gD_re hD rfl
                refine lv_iadd hx hb dX12_faultOf_295 ?_
                refine lv_istore_n (lv' := [(1, .int (x1_2 + t_20)), (0, .ref q0), (2, .int x2_3), (4, .int x4_5), (5, .int x5_6), (6, .int (zpad (x5_6).toNatClampNeg)), (7, .int t_19)]) hx hb dX12_faultOf_296 rfl hl (by decide) rfl (fun ls hl => ?_)
                refine lv_iload hx hb dX12_faultOf_297 (lv_at hl 5 rfl) ?_
                refine lv_bipush (v := (59 : Int32)) hx hb dX12_faultOf_299 (by decide) ?_
                refine jn_walk hw (fun J321 => ∀ (t_21 : Int32) (H : Heap) (locs : List Loc) (ls : Array Slot), J321 t_21 → va_P D vwCl [(q0, .inr (11, [u0, u1, u2, u3, u4, u5, u6, u7, u8, u9, u10, .int zsigns, .ref q1, u11, u12, u13, u14, u15, u16, u17, u18, u19, u20])), (q1, .inl (ci, 60, .inl zpad))] H → va_S A s.heap H locs → lv_has ls 9 [(0, .ref q0), (1, .int (x1_2 + t_20)), (2, .int x2_3), (4, .int x4_5), (5, .int x5_6), (7, .int t_19)] → W p l e R s m args below meth c H locs 0 0 Q (F0 m 321 ls [.int t_21])) ?_ ?_
                · intro t_21 H locs ls hw hP hS hl
                  have hD : va_D A [(q0, .inr (11, [u0, u1, u2, u3, u4, u5, u6, u7, u8, u9, u10, .int zsigns, .ref q1, u11, u12, u13, u14, u15, u16, u17, u18, u19, u20])), (q1, .inl (ci, 60, .inl zpad))] := gD_re hD rfl
                  refine lv_istore_n (lv' := [(3, .int t_21), (0, .ref q0), (1, .int (x1_2 + t_20)), (2, .int x2_3), (4, .int x4_5), (5, .int x5_6), (7, .int t_19)]) hx hb dX12_faultOf_321 rfl hl (by decide) rfl (fun ls hl => ?_)
                  exact hJ322 _ _ _ _ _ H locs ls hw hP hS (lv_sub hl [1, 2, 3, 0, 4, 5, 6] rfl)
                · intro J321 hJ321 hw
                  refine lv_icmp_ne (tgt := 308) hx hb dX12_faultOf_301 (by decide) (fun hc => ?_) (fun hc => ?_)
                  · have hw := hw.1 hc
                    refine lv_iload hx hb dX12_faultOf_308 (lv_at hl 5 rfl) ?_
                    refine lv_bipush (v := (33 : Int32)) hx hb dX12_faultOf_310 (by decide) ?_
                    refine lv_icmp_ne (tgt := 319) hx hb dX12_faultOf_312 (by decide) (fun hc => ?_) (fun hc => ?_)
                    · have hw := hw.1 hc
                      refine lv_bipush (v := (6 : Int32)) hx hb dX12_faultOf_319 (by decide) ?_
                      exact hJ321 _ H locs ls hw hP hS (lv_sub hl [1, 0, 2, 3, 4, 6] rfl)
                    · have hw := hw.2 hc
                      refine lv_iconst (v := (4 : Int32)) hx hb dX12_faultOf_315 (by decide) ?_
                      refine lv_goto (tgt := 321) hx hb dX12_faultOf_316 (by decide) ?_
                      exact hJ321 _ H locs ls hw hP hS (lv_sub hl [1, 0, 2, 3, 4, 6] rfl)
                  · have hw := hw.2 hc
                    refine lv_iconst (v := (0 : Int32)) hx hb dX12_faultOf_304 (by decide) ?_
                    refine lv_goto (tgt := 321) hx hb dX12_faultOf_305 (by decide) ?_
                    exact hJ321 _ H locs ls hw hP hS (lv_sub hl [1, 0, 2, 3, 4, 6] rfl)
              · intro J295 hJ295 hw
                refine lv_icmp_ne (tgt := 294) hx hb dX12_faultOf_287 (by decide) (fun hc => ?_) (fun hc => ?_)
                · have hw := hw.1 hc
                  refine lv_iconst (v := (0 : Int32)) hx hb dX12_faultOf_294 (by decide) ?_
                  exact hJ295 _ H locs ls hw hP hS (lv_sub hl [1, 3, 4, 5, 6, 0] rfl)
                · have hw := hw.2 hc
                  refine lv_iconst (v := (1 : Int32)) hx hb dX12_faultOf_290 (by decide) ?_
                  refine lv_goto (tgt := 295) hx hb dX12_faultOf_291 (by decide) ?_
                  exact hJ295 _ H locs ls hw hP hS (lv_sub hl [1, 3, 4, 5, 6, 0] rfl)
            · intro J280 hJ280 hw
              refine jn_walk hw (fun J275 => ∀  (H : Heap) (locs : List Loc) (ls : Array Slot), J275 → va_P D vwCl [(q0, .inr (11, [u0, u1, u2, u3, u4, u5, u6, u7, u8, u9, u10, .int zsigns, .ref q1, u11, u12, u13, u14, u15, u16, u17, u18, u19, u20])), (q1, .inl (ci, 60, .inl zpad))] H → va_S A s.heap H locs → lv_has ls 9 [(0, .ref q0), (1, .int x1_2), (2, .int x2_3), (4, .int x4_5), (5, .int x5_6), (6, .int (zpad (x5_6).toNatClampNeg))] → W p l e R s m args below meth c H locs 0 0 Q (F0 m 275 ls [])) ?_ ?_
              · intro  H locs ls hw hP hS hl
                have hD : va_D A [(q0, .inr (11, [u0, u1, u2, u3, u4, u5, u6, u7, u8, u9, u10, .int zsigns, .ref q1, u11, u12, u13, u14, u15, u16, u17, u18, u19, u20])), (q1, .inl (ci, 60, .inl zpad))] := gD_re hD rfl
                refine lv_iconst (v := (1 : Int32)) hx hb dX12_faultOf_275 (by decide) ?_
                refine lv_goto (tgt := 280) hx hb dX12_faultOf_276 (by decide) ?_
                exact hJ280 _ H locs ls hw hP hS (lv_sub hl [0, 1, 2, 3, 4, 5] rfl)
              · intro J275 hJ275 hw
                refine lv_icmp_eq (tgt := 275) hx hb dX12_faultOf_255 (by decide) (fun hc => ?_) (fun hc => ?_)
                · have hw := hw.1 hc
                  exact hJ275  H locs ls hw hP hS (lv_sub hl [1, 2, 3, 5, 6, 7] rfl)
                · have hw := hw.2 hc
                  refine lv_iload hx hb dX12_faultOf_258 (lv_at hl 7 rfl) ?_
                  refine lv_bipush (v := (33 : Int32)) hx hb dX12_faultOf_260 (by decide) ?_
                  refine jn_walk hw (fun J270 => ∀  (H : Heap) (locs : List Loc) (ls : Array Slot), J270 → va_P D vwCl [(q0, .inr (11, [u0, u1, u2, u3, u4, u5, u6, u7, u8, u9, u10, .int zsigns, .ref q1, u11, u12, u13, u14, u15, u16, u17, u18, u19, u20])), (q1, .inl (ci, 60, .inl zpad))] H → va_S A s.heap H locs → lv_has ls 9 [(0, .ref q0), (1, .int x1_2), (2, .int x2_3), (4, .int x4_5), (5, .int x5_6), (6, .int (zpad (x5_6).toNatClampNeg)), (8, .int t_18)] → W p l e R s m args below meth c H locs 0 0 Q (F0 m 270 ls [])) ?_ ?_
                  · intro  H locs ls hw hP hS hl
                    have hD : va_D A [(q0, .inr (11, [u0, u1, u2, u3, u4, u5, u6, u7, u8, u9, u10, .int zsigns, .ref q1, u11, u12, u13, u14, u15, u16, u17, u18, u19, u20])), (q1, .inl (ci, 60, .inl zpad))] := gD_re hD rfl
                    refine lv_iload hx hb dX12_faultOf_270 (lv_at hl 6 rfl) ?_
                    refine lv_if_eq (tgt := 279) hx hb dX12_faultOf_272 (by decide) (fun hc => ?_) (fun hc => ?_)
                    · have hw := hw.1 hc
                      refine lv_iconst (v := (0 : Int32)) hx hb dX12_faultOf_279 (by decide) ?_
                      exact hJ280 _ H locs ls hw hP hS (lv_sub hl [0, 1, 2, 3, 4, 5] rfl)
                    · have hw := hw.2 hc
                      exact hJ275  H locs ls hw hP hS (lv_sub hl [0, 1, 2, 3, 4, 5] rfl)
                  · intro J270 hJ270 hw
                    refine lv_icmp_ne (tgt := 270) hx hb dX12_faultOf_262 (by decide) (fun hc => ?_) (fun hc => ?_)
                    · have hw := hw.1 hc
                      exact hJ270  H locs ls hw hP hS (lv_sub hl [1, 2, 3, 5, 6, 7, 0] rfl)
                    · have hw := hw.2 hc
                      refine lv_iload_n hx hb dX12_faultOf_265 rfl (lv_at hl 4 rfl) ?_
                      refine lv_iconst (v := (3 : Int32)) hx hb dX12_faultOf_266 (by decide) ?_
                      refine lv_icmp_eq (tgt := 275) hx hb dX12_faultOf_267 (by decide) (fun hc => ?_) (fun hc => ?_)
                      · have hw := hw.1 hc
                        exact hJ275  H locs ls hw hP hS (lv_sub hl [1, 2, 3, 5, 6, 7] rfl)
                      · have hw := hw.2 hc
                        exact hJ270  H locs ls hw hP hS (lv_sub hl [1, 2, 3, 5, 6, 7, 0] rfl)
          · intro J249 hJ249 hw
            refine jn_walk hw (fun J248 => ∀  (H : Heap) (locs : List Loc) (ls : Array Slot), J248 → va_P D vwCl [(q0, .inr (11, [u0, u1, u2, u3, u4, u5, u6, u7, u8, u9, u10, .int zsigns, .ref q1, u11, u12, u13, u14, u15, u16, u17, u18, u19, u20])), (q1, .inl (ci, 60, .inl zpad))] H → va_S A s.heap H locs → lv_has ls 9 [(0, .ref q0), (1, .int x1_2), (2, .int x2_3), (3, .int x3_4), (4, .int x4_5), (5, .int x5_6), (6, .int (zpad (x5_6).toNatClampNeg))] → W p l e R s m args below meth c H locs 0 0 Q (F0 m 248 ls [])) ?_ ?_
            · intro  H locs ls hw hP hS hl
              have hD : va_D A [(q0, .inr (11, [u0, u1, u2, u3, u4, u5, u6, u7, u8, u9, u10, .int zsigns, .ref q1, u11, u12, u13, u14, u15, u16, u17, u18, u19, u20])), (q1, .inl (ci, 60, .inl zpad))] := gD_re hD rfl
              refine lv_iconst (v := (0 : Int32)) hx hb dX12_faultOf_248 (by decide) ?_
              exact hJ249 _ H locs ls hw hP hS (lv_sub hl [0, 1, 2, 3, 4, 5, 6] rfl)
            · intro J248 hJ248 hw
              refine lv_icmp_ne (tgt := 248) hx hb dX12_faultOf_213 (by decide) (fun hc => ?_) (fun hc => ?_)
              · have hw := hw.1 hc
                exact hJ248  H locs ls hw hP hS (lv_sub hl [1, 2, 3, 4, 5, 6, 0] rfl)
              · have hw := hw.2 hc
                refine lv_iload hx hb dX12_faultOf_216 (lv_at hl 0 rfl) ?_
                refine lv_bipush (v := (97 : Int32)) hx hb dX12_faultOf_218 (by decide) ?_
                refine lv_bipush (v := (103 : Int32)) hx hb dX12_faultOf_220 (by decide) ?_
                refine gcalli (va_runS (As := [.int (zpad (x5_6).toNatClampNeg), .int (97 : Int32), .int (103 : Int32)]) (rest := []) ⟨hx, hb, hml, hown, ht⟩ (c_X12_in l D ci cz tr  H.size (zpad (x5_6).toNatClampNeg) (97 : Int32) (103 : Int32) _ hw) (va_cwS 3 ht (gi_S mM_X12_66 mT_X12_in mN_X12 mC_X12_in) rfl rfl rfl (by decide +kernel) ⟨Nat.le_trans (Nat.le_of_ble_eq_true rfl) hfr, Nat.le_trans (Nat.le_of_ble_eq_true rfl) hlc⟩) (gpre (wc := []) hK hZ hP hD hS hA [] rfl rfl) rfl rfl hl.1 rfl (lv_room (Nat.le_of_ble_eq_true rfl)) dX12_faultOf_222 ⟨Nat.zero_le _, Nat.zero_le _⟩) hD hS hA [] rfl (fun r_22 w9 H locs hw hP9 hk9 hS => ?_)
                obtain ⟨rfl, hw⟩ := hw
                have hP : va_P D vwCl [(q0, .inr (11, [u0, u1, u2, u3, u4, u5, u6, u7, u8, u9, u10, .int zsigns, .ref q1, u11, u12, u13, u14, u15, u16, u17, u18, u19, u20])), (q1, .inl (ci, 60, .inl zpad))] H := gjoin3 hP hD [] hP9 hk9 rfl rfl [none, none] rfl rfl
                clear hP9 hk9
                refine lv_if_eq (tgt := 248) hx hb dX12_faultOf_225 (by decide) (fun hc => ?_) (fun hc => ?_)
                · have hw := hw.1 hc
                  exact hJ248  H locs ls hw hP hS (lv_sub hl [1, 2, 3, 4, 5, 6, 0] rfl)
                · have hw := hw.2 hc
                  refine lv_iload hx hb dX12_faultOf_228 (lv_at hl 0 rfl) ?_
                  refine lv_iload hx hb dX12_faultOf_230 (lv_at hl 5 rfl) ?_
                  refine lv_icmp_le (tgt := 248) hx hb dX12_faultOf_232 (by decide) (fun hc => ?_) (fun hc => ?_)
                  · have hw := hw.1 hc
                    exact hJ248  H locs ls hw hP hS (lv_sub hl [1, 2, 3, 4, 5, 6, 0] rfl)
                  · have hw := hw.2 hc
                    refine lv_iload hx hb dX12_faultOf_235 (lv_at hl 0 rfl) ?_
                    refine lv_bipush (v := (97 : Int32)) hx hb dX12_faultOf_237 (by decide) ?_
                    refine lv_iload_n hx hb dX12_faultOf_239 rfl (lv_at hl 2 rfl) ?_
                    refine lv_iadd hx hb dX12_faultOf_240 ?_
                    refine lv_icmp_eq (tgt := 248) hx hb dX12_faultOf_241 (by decide) (fun hc => ?_) (fun hc => ?_)
                    · have hw := hw.1 hc
                      exact hJ248  H locs ls hw hP hS (lv_sub hl [1, 2, 3, 4, 5, 6, 0] rfl)
                    · have hw := hw.2 hc
                      refine lv_iconst (v := (1 : Int32)) hx hb dX12_faultOf_244 (by decide) ?_
                      refine lv_goto (tgt := 249) hx hb dX12_faultOf_245 (by decide) ?_
                      exact hJ249 _ H locs ls hw hP hS (lv_sub hl [1, 2, 3, 4, 5, 6, 0] rfl)
        have hw := hw.2 hk3
        by_cases hk4 : x3_4 = (4 : Int32)
        · have hw := hw.1 hk4
          refine lv_tableIn (tgt := 174) hx hb dX12_faultOf_31 (by rw [hk4]; decide) (by rw [hk4]; decide) (by rw [hk4]; rfl) (by decide) ?_
          refine lv_iload hx hb dX12_faultOf_174 (lv_at hl 0 rfl) ?_
          refine lv_bipush (v := (97 : Int32)) hx hb dX12_faultOf_176 (by decide) ?_
          refine lv_bipush (v := (103 : Int32)) hx hb dX12_faultOf_178 (by decide) ?_
          refine gcalli (va_runS (As := [.int (zpad (x5_6).toNatClampNeg), .int (97 : Int32), .int (103 : Int32)]) (rest := []) ⟨hx, hb, hml, hown, ht⟩ (c_X12_in l D ci cz tr  H.size (zpad (x5_6).toNatClampNeg) (97 : Int32) (103 : Int32) _ hw) (va_cwS 3 ht (gi_S mM_X12_66 mT_X12_in mN_X12 mC_X12_in) rfl rfl rfl (by decide +kernel) ⟨Nat.le_trans (Nat.le_of_ble_eq_true rfl) hfr, Nat.le_trans (Nat.le_of_ble_eq_true rfl) hlc⟩) (gpre (wc := []) hK hZ hP hD hS hA [] rfl rfl) rfl rfl hl.1 rfl (lv_room (Nat.le_of_ble_eq_true rfl)) dX12_faultOf_180 ⟨Nat.zero_le _, Nat.zero_le _⟩) hD hS hA [] rfl (fun r_23 w9 H locs hw hP9 hk9 hS => ?_)
          obtain ⟨rfl, hw⟩ := hw
          have hP : va_P D vwCl [(q0, .inr (11, [u0, u1, u2, u3, u4, u5, u6, u7, u8, u9, u10, .int zsigns, .ref q1, u11, u12, u13, u14, u15, u16, u17, u18, u19, u20])), (q1, .inl (ci, 60, .inl zpad))] H := gjoin3 hP hD [] hP9 hk9 rfl rfl [none, none] rfl rfl
          clear hP9 hk9
          refine jn_walk hw (fun J200 => ∀ (t_24 : Int32) (H : Heap) (locs : List Loc) (ls : Array Slot), J200 t_24 → va_P D vwCl [(q0, .inr (11, [u0, u1, u2, u3, u4, u5, u6, u7, u8, u9, u10, .int zsigns, .ref q1, u11, u12, u13, u14, u15, u16, u17, u18, u19, u20])), (q1, .inl (ci, 60, .inl zpad))] H → va_S A s.heap H locs → lv_has ls 9 [(0, .ref q0), (1, .int x1_2), (2, .int x2_3), (5, .int x5_6), (6, .int (zpad (x5_6).toNatClampNeg))] → W p l e R s m args below meth c H locs 0 0 Q (F0 m 200 ls [.int t_24])) ?_ ?_
          · intro t_24 H locs ls hw hP hS hl
            have hD : va_D A [(q0, .inr (11, [u0, u1, u2, u3, u4, u5, u6, u7, u8, u9, u10, .int zsigns, .ref q1, u11, u12, u13, u14, u15, u16, u17, u18, u19, u20])), (q1, .inl (ci, 60, .inl zpad))] := gD_re hD rfl
            refine lv_istore (lv' := [(7, .int t_24), (0, .ref q0), (1, .int x1_2), (2, .int x2_3), (5, .int x5_6), (6, .int (zpad (x5_6).toNatClampNeg))]) hx hb dX12_faultOf_200 hl (by decide) rfl (fun ls hl => ?_)
            refine lv_iload hx hb dX12_faultOf_202 (lv_at hl 5 rfl) ?_
            refine lv_istore (lv' := [(4, .int (zpad (x5_6).toNatClampNeg)), (7, .int t_24), (0, .ref q0), (1, .int x1_2), (2, .int x2_3), (5, .int x5_6), (6, .int (zpad (x5_6).toNatClampNeg))]) hx hb dX12_faultOf_204 hl (by decide) rfl (fun ls hl => ?_)
            refine lv_iconst (v := (5 : Int32)) hx hb dX12_faultOf_206 (by decide) ?_
            refine lv_istore_n (lv' := [(3, .int (5 : Int32)), (4, .int (zpad (x5_6).toNatClampNeg)), (7, .int t_24), (0, .ref q0), (1, .int x1_2), (2, .int x2_3), (5, .int x5_6), (6, .int (zpad (x5_6).toNatClampNeg))]) hx hb dX12_faultOf_207 rfl hl (by decide) rfl (fun ls hl => ?_)
            refine lv_goto (tgt := 322) hx hb dX12_faultOf_208 (by decide) ?_
            exact hJ322 _ _ _ _ _ H locs ls hw hP hS (lv_sub hl [3, 4, 5, 0, 1, 6, 2] rfl)
          · intro J200 hJ200 hw
            refine jn_walk hw (fun J199 => ∀  (H : Heap) (locs : List Loc) (ls : Array Slot), J199 → va_P D vwCl [(q0, .inr (11, [u0, u1, u2, u3, u4, u5, u6, u7, u8, u9, u10, .int zsigns, .ref q1, u11, u12, u13, u14, u15, u16, u17, u18, u19, u20])), (q1, .inl (ci, 60, .inl zpad))] H → va_S A s.heap H locs → lv_has ls 9 [(0, .ref q0), (1, .int x1_2), (2, .int x2_3), (5, .int x5_6), (6, .int (zpad (x5_6).toNatClampNeg))] → W p l e R s m args below meth c H locs 0 0 Q (F0 m 199 ls [])) ?_ ?_
            · intro  H locs ls hw hP hS hl
              have hD : va_D A [(q0, .inr (11, [u0, u1, u2, u3, u4, u5, u6, u7, u8, u9, u10, .int zsigns, .ref q1, u11, u12, u13, u14, u15, u16, u17, u18, u19, u20])), (q1, .inl (ci, 60, .inl zpad))] := gD_re hD rfl
              refine lv_iconst (v := (0 : Int32)) hx hb dX12_faultOf_199 (by decide) ?_
              exact hJ200 _ H locs ls hw hP hS (lv_sub hl [0, 1, 2, 3, 4] rfl)
            · intro J199 hJ199 hw
              refine lv_if_eq (tgt := 199) hx hb dX12_faultOf_183 (by decide) (fun hc => ?_) (fun hc => ?_)
              · have hw := hw.1 hc
                exact hJ199  H locs ls hw hP hS (lv_sub hl [1, 2, 3, 6, 0] rfl)
              · have hw := hw.2 hc
                refine lv_iload hx hb dX12_faultOf_186 (lv_at hl 0 rfl) ?_
                refine lv_bipush (v := (97 : Int32)) hx hb dX12_faultOf_188 (by decide) ?_
                refine lv_iload_n hx hb dX12_faultOf_190 rfl (lv_at hl 2 rfl) ?_
                refine lv_iadd hx hb dX12_faultOf_191 ?_
                refine lv_icmp_eq (tgt := 199) hx hb dX12_faultOf_192 (by decide) (fun hc => ?_) (fun hc => ?_)
                · have hw := hw.1 hc
                  exact hJ199  H locs ls hw hP hS (lv_sub hl [1, 2, 3, 6, 0] rfl)
                · have hw := hw.2 hc
                  refine lv_iconst (v := (1 : Int32)) hx hb dX12_faultOf_195 (by decide) ?_
                  refine lv_goto (tgt := 200) hx hb dX12_faultOf_196 (by decide) ?_
                  exact hJ200 _ H locs ls hw hP hS (lv_sub hl [1, 2, 3, 6, 0] rfl)
        have hw := hw.2 hk4
        have hout : (x3_4).toInt < 0 ∨ 4 < (x3_4).toInt := by
          have hn0 := lv_neT hk0 (by decide : (0 : Int32).toInt = 0)
          have hn1 := lv_neT hk1 (by decide : (1 : Int32).toInt = 1)
          have hn2 := lv_neT hk2 (by decide : (2 : Int32).toInt = 2)
          have hn3 := lv_neT hk3 (by decide : (3 : Int32).toInt = 3)
          have hn4 := lv_neT hk4 (by decide : (4 : Int32).toInt = 4)
          omega
        refine lv_tableOut (tgt := 211) hx hb dX12_faultOf_31 hout (by decide) ?_
        refine lv_iload_n hx hb dX12_faultOf_211 rfl (lv_at hl 4 rfl) ?_
        refine lv_iconst (v := (5 : Int32)) hx hb dX12_faultOf_212 (by decide) ?_
        refine jn_walk hw (fun J249 => ∀ (t_25 : Int32) (H : Heap) (locs : List Loc) (ls : Array Slot), J249 t_25 → va_P D vwCl [(q0, .inr (11, [u0, u1, u2, u3, u4, u5, u6, u7, u8, u9, u10, .int zsigns, .ref q1, u11, u12, u13, u14, u15, u16, u17, u18, u19, u20])), (q1, .inl (ci, 60, .inl zpad))] H → va_S A s.heap H locs → lv_has ls 9 [(0, .ref q0), (1, .int x1_2), (2, .int x2_3), (3, .int x3_4), (4, .int x4_5), (5, .int x5_6), (6, .int (zpad (x5_6).toNatClampNeg))] → W p l e R s m args below meth c H locs 0 0 Q (F0 m 249 ls [.int t_25])) ?_ ?_
        · intro t_25 H locs ls hw hP hS hl
          have hD : va_D A [(q0, .inr (11, [u0, u1, u2, u3, u4, u5, u6, u7, u8, u9, u10, .int zsigns, .ref q1, u11, u12, u13, u14, u15, u16, u17, u18, u19, u20])), (q1, .inl (ci, 60, .inl zpad))] := gD_re hD rfl
          refine lv_istore (lv' := [(8, .int t_25), (0, .ref q0), (1, .int x1_2), (2, .int x2_3), (3, .int x3_4), (4, .int x4_5), (5, .int x5_6), (6, .int (zpad (x5_6).toNatClampNeg))]) hx hb dX12_faultOf_249 hl (by decide) rfl (fun ls hl => ?_)
          refine lv_iload hx hb dX12_faultOf_251 (lv_at hl 7 rfl) ?_
          refine lv_bipush (v := (59 : Int32)) hx hb dX12_faultOf_253 (by decide) ?_
          refine jn_walk hw (fun J280 => ∀ (t_26 : Int32) (H : Heap) (locs : List Loc) (ls : Array Slot), J280 t_26 → va_P D vwCl [(q0, .inr (11, [u0, u1, u2, u3, u4, u5, u6, u7, u8, u9, u10, .int zsigns, .ref q1, u11, u12, u13, u14, u15, u16, u17, u18, u19, u20])), (q1, .inl (ci, 60, .inl zpad))] H → va_S A s.heap H locs → lv_has ls 9 [(0, .ref q0), (1, .int x1_2), (2, .int x2_3), (4, .int x4_5), (5, .int x5_6), (6, .int (zpad (x5_6).toNatClampNeg))] → W p l e R s m args below meth c H locs 0 0 Q (F0 m 280 ls [.int t_26])) ?_ ?_
          · intro t_26 H locs ls hw hP hS hl
            have hD : va_D A [(q0, .inr (11, [u0, u1, u2, u3, u4, u5, u6, u7, u8, u9, u10, .int zsigns, .ref q1, u11, u12, u13, u14, u15, u16, u17, u18, u19, u20])), (q1, .inl (ci, 60, .inl zpad))] := gD_re hD rfl
            refine lv_istore (lv' := [(7, .int t_26), (0, .ref q0), (1, .int x1_2), (2, .int x2_3), (4, .int x4_5), (5, .int x5_6), (6, .int (zpad (x5_6).toNatClampNeg))]) hx hb dX12_faultOf_280 hl (by decide) rfl (fun ls hl => ?_)
            refine lv_iload_n hx hb dX12_faultOf_282 rfl (lv_at hl 2 rfl) ?_
            refine lv_iload hx hb dX12_faultOf_283 (lv_at hl 6 rfl) ?_
            refine lv_bipush (v := (59 : Int32)) hx hb dX12_faultOf_285 (by decide) ?_
            refine jn_walk hw (fun J295 => ∀ (t_27 : Int32) (H : Heap) (locs : List Loc) (ls : Array Slot), J295 t_27 → va_P D vwCl [(q0, .inr (11, [u0, u1, u2, u3, u4, u5, u6, u7, u8, u9, u10, .int zsigns, .ref q1, u11, u12, u13, u14, u15, u16, u17, u18, u19, u20])), (q1, .inl (ci, 60, .inl zpad))] H → va_S A s.heap H locs → lv_has ls 9 [(0, .ref q0), (2, .int x2_3), (4, .int x4_5), (5, .int x5_6), (6, .int (zpad (x5_6).toNatClampNeg)), (7, .int t_26)] → W p l e R s m args below meth c H locs 0 0 Q (F0 m 295 ls [.int t_27, .int x1_2])) ?_ ?_
            · intro t_27 H locs ls hw hP hS hl
              have hD : va_D A [(q0, .inr (11, [u0, u1, u2, u3, u4, u5, u6, u7, u8, u9, u10, .int zsigns, .ref q1, u11, u12, u13, u14, u15, u16, u17, u18, u19, u20])), (q1, .inl (ci, 60, .inl zpad))] := gD_re hD rfl
              refine lv_iadd hx hb dX12_faultOf_295 ?_
              refine lv_istore_n (lv' := [(1, .int (x1_2 + t_27)), (0, .ref q0), (2, .int x2_3), (4, .int x4_5), (5, .int x5_6), (6, .int (zpad (x5_6).toNatClampNeg)), (7, .int t_26)]) hx hb dX12_faultOf_296 rfl hl (by decide) rfl (fun ls hl => ?_)
              refine lv_iload hx hb dX12_faultOf_297 (lv_at hl 5 rfl) ?_
              refine lv_bipush (v := (59 : Int32)) hx hb dX12_faultOf_299 (by decide) ?_
              refine jn_walk hw (fun J321 => ∀ (t_28 : Int32) (H : Heap) (locs : List Loc) (ls : Array Slot), J321 t_28 → va_P D vwCl [(q0, .inr (11, [u0, u1, u2, u3, u4, u5, u6, u7, u8, u9, u10, .int zsigns, .ref q1, u11, u12, u13, u14, u15, u16, u17, u18, u19, u20])), (q1, .inl (ci, 60, .inl zpad))] H → va_S A s.heap H locs → lv_has ls 9 [(0, .ref q0), (1, .int (x1_2 + t_27)), (2, .int x2_3), (4, .int x4_5), (5, .int x5_6), (7, .int t_26)] → W p l e R s m args below meth c H locs 0 0 Q (F0 m 321 ls [.int t_28])) ?_ ?_
              · intro t_28 H locs ls hw hP hS hl
                have hD : va_D A [(q0, .inr (11, [u0, u1, u2, u3, u4, u5, u6, u7, u8, u9, u10, .int zsigns, .ref q1, u11, u12, u13, u14, u15, u16, u17, u18, u19, u20])), (q1, .inl (ci, 60, .inl zpad))] := gD_re hD rfl
                refine lv_istore_n (lv' := [(3, .int t_28), (0, .ref q0), (1, .int (x1_2 + t_27)), (2, .int x2_3), (4, .int x4_5), (5, .int x5_6), (7, .int t_26)]) hx hb dX12_faultOf_321 rfl hl (by decide) rfl (fun ls hl => ?_)
                exact hJ322 _ _ _ _ _ H locs ls hw hP hS (lv_sub hl [1, 2, 3, 0, 4, 5, 6] rfl)
              · intro J321 hJ321 hw
                refine lv_icmp_ne (tgt := 308) hx hb dX12_faultOf_301 (by decide) (fun hc => ?_) (fun hc => ?_)
                · have hw := hw.1 hc
                  refine lv_iload hx hb dX12_faultOf_308 (lv_at hl 5 rfl) ?_
                  refine lv_bipush (v := (33 : Int32)) hx hb dX12_faultOf_310 (by decide) ?_
                  refine lv_icmp_ne (tgt := 319) hx hb dX12_faultOf_312 (by decide) (fun hc => ?_) (fun hc => ?_)
                  · have hw := hw.1 hc
                    refine lv_bipush (v := (6 : Int32)) hx hb dX12_faultOf_319 (by decide) ?_
                    exact hJ321 _ H locs ls hw hP hS (lv_sub hl [1, 0, 2, 3, 4, 6] rfl)
                  · have hw := hw.2 hc
                    refine lv_iconst (v := (4 : Int32)) hx hb dX12_faultOf_315 (by decide) ?_
                    refine lv_goto (tgt := 321) hx hb dX12_faultOf_316 (by decide) ?_
                    exact hJ321 _ H locs ls hw hP hS (lv_sub hl [1, 0, 2, 3, 4, 6] rfl)
                · have hw := hw.2 hc
                  refine lv_iconst (v := (0 : Int32)) hx hb dX12_faultOf_304 (by decide) ?_
                  refine lv_goto (tgt := 321) hx hb dX12_faultOf_305 (by decide) ?_
                  exact hJ321 _ H locs ls hw hP hS (lv_sub hl [1, 0, 2, 3, 4, 6] rfl)
            · intro J295 hJ295 hw
              refine lv_icmp_ne (tgt := 294) hx hb dX12_faultOf_287 (by decide) (fun hc => ?_) (fun hc => ?_)
              · have hw := hw.1 hc
                refine lv_iconst (v := (0 : Int32)) hx hb dX12_faultOf_294 (by decide) ?_
                exact hJ295 _ H locs ls hw hP hS (lv_sub hl [1, 3, 4, 5, 6, 0] rfl)
              · have hw := hw.2 hc
                refine lv_iconst (v := (1 : Int32)) hx hb dX12_faultOf_290 (by decide) ?_
                refine lv_goto (tgt := 295) hx hb dX12_faultOf_291 (by decide) ?_
                exact hJ295 _ H locs ls hw hP hS (lv_sub hl [1, 3, 4, 5, 6, 0] rfl)
          · intro J280 hJ280 hw
            refine jn_walk hw (fun J275 => ∀  (H : Heap) (locs : List Loc) (ls : Array Slot), J275 → va_P D vwCl [(q0, .inr (11, [u0, u1, u2, u3, u4, u5, u6, u7, u8, u9, u10, .int zsigns, .ref q1, u11, u12, u13, u14, u15, u16, u17, u18, u19, u20])), (q1, .inl (ci, 60, .inl zpad))] H → va_S A s.heap H locs → lv_has ls 9 [(0, .ref q0), (1, .int x1_2), (2, .int x2_3), (4, .int x4_5), (5, .int x5_6), (6, .int (zpad (x5_6).toNatClampNeg))] → W p l e R s m args below meth c H locs 0 0 Q (F0 m 275 ls [])) ?_ ?_
            · intro  H locs ls hw hP hS hl
              have hD : va_D A [(q0, .inr (11, [u0, u1, u2, u3, u4, u5, u6, u7, u8, u9, u10, .int zsigns, .ref q1, u11, u12, u13, u14, u15, u16, u17, u18, u19, u20])), (q1, .inl (ci, 60, .inl zpad))] := gD_re hD rfl
              refine lv_iconst (v := (1 : Int32)) hx hb dX12_faultOf_275 (by decide) ?_
              refine lv_goto (tgt := 280) hx hb dX12_faultOf_276 (by decide) ?_
              exact hJ280 _ H locs ls hw hP hS (lv_sub hl [0, 1, 2, 3, 4, 5] rfl)
            · intro J275 hJ275 hw
              refine lv_icmp_eq (tgt := 275) hx hb dX12_faultOf_255 (by decide) (fun hc => ?_) (fun hc => ?_)
              · have hw := hw.1 hc
                exact hJ275  H locs ls hw hP hS (lv_sub hl [1, 2, 3, 5, 6, 7] rfl)
              · have hw := hw.2 hc
                refine lv_iload hx hb dX12_faultOf_258 (lv_at hl 7 rfl) ?_
                refine lv_bipush (v := (33 : Int32)) hx hb dX12_faultOf_260 (by decide) ?_
                refine jn_walk hw (fun J270 => ∀  (H : Heap) (locs : List Loc) (ls : Array Slot), J270 → va_P D vwCl [(q0, .inr (11, [u0, u1, u2, u3, u4, u5, u6, u7, u8, u9, u10, .int zsigns, .ref q1, u11, u12, u13, u14, u15, u16, u17, u18, u19, u20])), (q1, .inl (ci, 60, .inl zpad))] H → va_S A s.heap H locs → lv_has ls 9 [(0, .ref q0), (1, .int x1_2), (2, .int x2_3), (4, .int x4_5), (5, .int x5_6), (6, .int (zpad (x5_6).toNatClampNeg)), (8, .int t_25)] → W p l e R s m args below meth c H locs 0 0 Q (F0 m 270 ls [])) ?_ ?_
                · intro  H locs ls hw hP hS hl
                  have hD : va_D A [(q0, .inr (11, [u0, u1, u2, u3, u4, u5, u6, u7, u8, u9, u10, .int zsigns, .ref q1, u11, u12, u13, u14, u15, u16, u17, u18, u19, u20])), (q1, .inl (ci, 60, .inl zpad))] := gD_re hD rfl
                  refine lv_iload hx hb dX12_faultOf_270 (lv_at hl 6 rfl) ?_
                  refine lv_if_eq (tgt := 279) hx hb dX12_faultOf_272 (by decide) (fun hc => ?_) (fun hc => ?_)
                  · have hw := hw.1 hc
                    refine lv_iconst (v := (0 : Int32)) hx hb dX12_faultOf_279 (by decide) ?_
                    exact hJ280 _ H locs ls hw hP hS (lv_sub hl [0, 1, 2, 3, 4, 5] rfl)
                  · have hw := hw.2 hc
                    exact hJ275  H locs ls hw hP hS (lv_sub hl [0, 1, 2, 3, 4, 5] rfl)
                · intro J270 hJ270 hw
                  refine lv_icmp_ne (tgt := 270) hx hb dX12_faultOf_262 (by decide) (fun hc => ?_) (fun hc => ?_)
                  · have hw := hw.1 hc
                    exact hJ270  H locs ls hw hP hS (lv_sub hl [1, 2, 3, 5, 6, 7, 0] rfl)
                  · have hw := hw.2 hc
                    refine lv_iload_n hx hb dX12_faultOf_265 rfl (lv_at hl 4 rfl) ?_
                    refine lv_iconst (v := (3 : Int32)) hx hb dX12_faultOf_266 (by decide) ?_
                    refine lv_icmp_eq (tgt := 275) hx hb dX12_faultOf_267 (by decide) (fun hc => ?_) (fun hc => ?_)
                    · have hw := hw.1 hc
                      exact hJ275  H locs ls hw hP hS (lv_sub hl [1, 2, 3, 5, 6, 7] rfl)
                    · have hw := hw.2 hc
                      exact hJ270  H locs ls hw hP hS (lv_sub hl [1, 2, 3, 5, 6, 7, 0] rfl)
        · intro J249 hJ249 hw
          refine jn_walk hw (fun J248 => ∀  (H : Heap) (locs : List Loc) (ls : Array Slot), J248 → va_P D vwCl [(q0, .inr (11, [u0, u1, u2, u3, u4, u5, u6, u7, u8, u9, u10, .int zsigns, .ref q1, u11, u12, u13, u14, u15, u16, u17, u18, u19, u20])), (q1, .inl (ci, 60, .inl zpad))] H → va_S A s.heap H locs → lv_has ls 9 [(0, .ref q0), (1, .int x1_2), (2, .int x2_3), (3, .int x3_4), (4, .int x4_5), (5, .int x5_6), (6, .int (zpad (x5_6).toNatClampNeg))] → W p l e R s m args below meth c H locs 0 0 Q (F0 m 248 ls [])) ?_ ?_
          · intro  H locs ls hw hP hS hl
            have hD : va_D A [(q0, .inr (11, [u0, u1, u2, u3, u4, u5, u6, u7, u8, u9, u10, .int zsigns, .ref q1, u11, u12, u13, u14, u15, u16, u17, u18, u19, u20])), (q1, .inl (ci, 60, .inl zpad))] := gD_re hD rfl
            refine lv_iconst (v := (0 : Int32)) hx hb dX12_faultOf_248 (by decide) ?_
            exact hJ249 _ H locs ls hw hP hS (lv_sub hl [0, 1, 2, 3, 4, 5, 6] rfl)
          · intro J248 hJ248 hw
            refine lv_icmp_ne (tgt := 248) hx hb dX12_faultOf_213 (by decide) (fun hc => ?_) (fun hc => ?_)
            · have hw := hw.1 hc
              exact hJ248  H locs ls hw hP hS (lv_sub hl [1, 2, 3, 4, 5, 6, 0] rfl)
            · have hw := hw.2 hc
              refine lv_iload hx hb dX12_faultOf_216 (lv_at hl 0 rfl) ?_
              refine lv_bipush (v := (97 : Int32)) hx hb dX12_faultOf_218 (by decide) ?_
              refine lv_bipush (v := (103 : Int32)) hx hb dX12_faultOf_220 (by decide) ?_
              refine gcalli (va_runS (As := [.int (zpad (x5_6).toNatClampNeg), .int (97 : Int32), .int (103 : Int32)]) (rest := []) ⟨hx, hb, hml, hown, ht⟩ (c_X12_in l D ci cz tr  H.size (zpad (x5_6).toNatClampNeg) (97 : Int32) (103 : Int32) _ hw) (va_cwS 3 ht (gi_S mM_X12_66 mT_X12_in mN_X12 mC_X12_in) rfl rfl rfl (by decide +kernel) ⟨Nat.le_trans (Nat.le_of_ble_eq_true rfl) hfr, Nat.le_trans (Nat.le_of_ble_eq_true rfl) hlc⟩) (gpre (wc := []) hK hZ hP hD hS hA [] rfl rfl) rfl rfl hl.1 rfl (lv_room (Nat.le_of_ble_eq_true rfl)) dX12_faultOf_222 ⟨Nat.zero_le _, Nat.zero_le _⟩) hD hS hA [] rfl (fun r_29 w9 H locs hw hP9 hk9 hS => ?_)
              obtain ⟨rfl, hw⟩ := hw
              have hP : va_P D vwCl [(q0, .inr (11, [u0, u1, u2, u3, u4, u5, u6, u7, u8, u9, u10, .int zsigns, .ref q1, u11, u12, u13, u14, u15, u16, u17, u18, u19, u20])), (q1, .inl (ci, 60, .inl zpad))] H := gjoin3 hP hD [] hP9 hk9 rfl rfl [none, none] rfl rfl
              clear hP9 hk9
              refine lv_if_eq (tgt := 248) hx hb dX12_faultOf_225 (by decide) (fun hc => ?_) (fun hc => ?_)
              · have hw := hw.1 hc
                exact hJ248  H locs ls hw hP hS (lv_sub hl [1, 2, 3, 4, 5, 6, 0] rfl)
              · have hw := hw.2 hc
                refine lv_iload hx hb dX12_faultOf_228 (lv_at hl 0 rfl) ?_
                refine lv_iload hx hb dX12_faultOf_230 (lv_at hl 5 rfl) ?_
                refine lv_icmp_le (tgt := 248) hx hb dX12_faultOf_232 (by decide) (fun hc => ?_) (fun hc => ?_)
                · have hw := hw.1 hc
                  exact hJ248  H locs ls hw hP hS (lv_sub hl [1, 2, 3, 4, 5, 6, 0] rfl)
                · have hw := hw.2 hc
                  refine lv_iload hx hb dX12_faultOf_235 (lv_at hl 0 rfl) ?_
                  refine lv_bipush (v := (97 : Int32)) hx hb dX12_faultOf_237 (by decide) ?_
                  refine lv_iload_n hx hb dX12_faultOf_239 rfl (lv_at hl 2 rfl) ?_
                  refine lv_iadd hx hb dX12_faultOf_240 ?_
                  refine lv_icmp_eq (tgt := 248) hx hb dX12_faultOf_241 (by decide) (fun hc => ?_) (fun hc => ?_)
                  · have hw := hw.1 hc
                    exact hJ248  H locs ls hw hP hS (lv_sub hl [1, 2, 3, 4, 5, 6, 0] rfl)
                  · have hw := hw.2 hc
                    refine lv_iconst (v := (1 : Int32)) hx hb dX12_faultOf_244 (by decide) ?_
                    refine lv_goto (tgt := 249) hx hb dX12_faultOf_245 (by decide) ?_
                    exact hJ249 _ H locs ls hw hP hS (lv_sub hl [1, 2, 3, 4, 5, 6, 0] rfl)

def wp_X12_fault (zsigns : Int32) (zpad : Nat → Int32)  (post : Int32 → Prop) : Prop :=
  wp_X12_faultOf zsigns zpad (fun (r_1 : Int32) => post r_1 )
set_option maxHeartbeats 4000000 in
set_option maxRecDepth 100000 in
theorem c_X12_fault (l : Launch) (D : va_G) (ci cz : ClassId) (tr : List (ClassId × FieldType)) (q0 q1 : Nat) (sz : Nat) (u0 u1 u2 u3 u4 u5 u6 u7 u8 u9 u10 u11 u12 u13 u14 u15 u16 u17 u18 u19 u20 : Value) (zsigns : Int32) (zpad : Nat → Int32)  (post : Int32 → Prop) (hw : wp_X12_fault zsigns zpad post) : gM l yX12_fault cX12_fault 1 (some .int) 2 50 D ci cz tr [(q0, .inr (11, [u0, u1, u2, u3, u4, u5, u6, u7, u8, u9, u10, .int zsigns, .ref q1, u11, u12, u13, u14, u15, u16, u17, u18, u19, u20])), (q1, .inl (ci, 60, .inl zpad))] sz [.ref q0] (gQi D [(q0, .inr (11, [u0, u1, u2, u3, u4, u5, u6, u7, u8, u9, u10, .int zsigns, .ref q1, u11, u12, u13, u14, u15, u16, u17, u18, u19, u20])), (q1, .inl (ci, 60, .inl zpad))] sz (fun (r : Int32) w => w = [(q0, .inr (11, [u0, u1, u2, u3, u4, u5, u6, u7, u8, u9, u10, .int zsigns, .ref q1, u11, u12, u13, u14, u15, u16, u17, u18, u19, u20])), (q1, .inl (ci, 60, .inl zpad))] ∧ post r )) := by
  refine gmet_i RX12 (by decide +kernel) rfl (Nat.le_of_ble_eq_true rfl) ?_
  intro p e s m args below meth c A R Q C hfr hlc hP hD hret ls hl
  obtain ⟨hx, hb, hml, hown, ht, hK, hZ, hA⟩ := C
  have hl : lv_has ls 1 [(0, .ref q0)] := hl
  unfold wp_X12_fault at hw
  refine g_in (fun H locs => W p l e R s m args below meth c H locs 0 0 Q (F0 m 0 ls [])) (fun H locs hS0 hP => ?_) hP (va_S.rf (A := A) (H0 := s.heap))
  have hS : va_S A s.heap H locs := hS0
  clear hS0
  refine lv_aload_n hx hb dX12_fault_0 rfl (lv_at hl 0 rfl) ?_
  refine gcalli (va_runV (As := []) (rest := []) ⟨hx, hb, hml, hown, ht⟩ (c_X12_faultOf l D ci cz tr q0 q1 H.size u0 u1 u2 u3 u4 u5 u6 u7 u8 u9 u10 u11 u12 u13 u14 u15 u16 u17 u18 u19 u20 zsigns zpad _ hw) (cwV 0 ht (gi_V mM_X12_73 mI_X12_faultOf mS_X12_faultOf mN_X12 mC_X12_faultOf) rfl rfl rfl (by decide +kernel) ⟨Nat.le_trans (Nat.le_of_ble_eq_true rfl) hfr, Nat.le_trans (Nat.le_of_ble_eq_true rfl) hlc⟩) (gpreV (wc := [(q0, .inr (11, [u0, u1, u2, u3, u4, u5, u6, u7, u8, u9, u10, .int zsigns, .ref q1, u11, u12, u13, u14, u15, u16, u17, u18, u19, u20])), (q1, .inl (ci, 60, .inl zpad))]) (k := 11) (q0 := 0) hK hZ hP hD hS hA [0, 1] rfl rfl rfl rfl rfl) rfl rfl hl.1 rfl (lv_room (Nat.le_of_ble_eq_true rfl)) dX12_fault_1 ⟨Nat.zero_le _, Nat.zero_le _⟩) hD hS hA [0, 1] rfl (fun r_1 w9 H locs hw hP9 hk9 hS => ?_)
  obtain ⟨rfl, hw⟩ := hw
  have hP : va_P D vwCl [(q0, .inr (11, [u0, u1, u2, u3, u4, u5, u6, u7, u8, u9, u10, .int zsigns, .ref q1, u11, u12, u13, u14, u15, u16, u17, u18, u19, u20])), (q1, .inl (ci, 60, .inl zpad))] H := gjoin3 hP hD [0, 1] hP9 hk9 rfl rfl [some 0, some 1] rfl rfl
  clear hP9 hk9
  exact hret _ _ H locs _ _ ⟨rfl, hw⟩ hP hS dX12_fault_4

def wp_X12_fresh (zdogs : Int32) (zhungry : Int32) (zatLeft : Int32) (zatRight : Int32) (zhalves : Nat → Int32) (zlikes : Nat → Int32) (zfears : Nat → Int32) (zorder : Nat → Int32) (zwent : Nat → Int32) (zfill : Nat → Int32) (a1 : Int32) (a2 : Int32) (a3 : Int32) (post : Int32 → Int32 → (Nat → Int32) → (Nat → Int32) → (Nat → Int32) → Prop) : Prop :=
  wp_X12_byLetters zorder (fun (zorder_2 : Nat → Int32) => wp_X12_nobodyFull zfill (fun (zfill_4 : Nat → Int32) => wp_X12_letGo zdogs zhungry zatLeft zatRight zhalves zlikes zfears zorder_2 zwent zfill_4 a1 a2 a3 (fun (zatLeft_6 : Int32) (zatRight_7 : Int32) (zwent_8 : Nat → Int32) (zfill_9 : Nat → Int32) => post zatLeft_6 zatRight_7 zorder_2 zwent_8 zfill_9)))
set_option maxHeartbeats 4000000 in
set_option maxRecDepth 100000 in
theorem c_X12_fresh (l : Launch) (D : va_G) (ci cz : ClassId) (tr : List (ClassId × FieldType)) (q0 q1 q2 q3 q4 q5 q6 : Nat) (sz : Nat) (u0 u1 u2 u3 u4 u5 u6 u7 u8 u9 u10 u11 u12 : Value) (zdogs : Int32) (zhungry : Int32) (zatLeft : Int32) (zatRight : Int32) (zhalves : Nat → Int32) (zlikes : Nat → Int32) (zfears : Nat → Int32) (zorder : Nat → Int32) (zwent : Nat → Int32) (zfill : Nat → Int32) (a1 : Int32) (a2 : Int32) (a3 : Int32) (post : Int32 → Int32 → (Nat → Int32) → (Nat → Int32) → (Nat → Int32) → Prop) (hw : wp_X12_fresh zdogs zhungry zatLeft zatRight zhalves zlikes zfears zorder zwent zfill a1 a2 a3 post) : gM l yX12_fresh cX12_fresh 4 none 3 72 D ci cz tr [(q0, .inr (11, [.int zdogs, .ref q1, .ref q2, u0, .ref q3, u1, .int zhungry, u2, u3, u4, u5, u6, u7, .ref q4, .ref q5, .ref q6, .int zatLeft, .int zatRight, u8, u9, u10, u11, u12])), (q1, .inl (ci, 7, .inl zhalves)), (q2, .inl (ci, 7, .inl zlikes)), (q3, .inl (ci, 7, .inl zfears)), (q4, .inl (ci, 7, .inl zorder)), (q5, .inl (ci, 7, .inl zwent)), (q6, .inl (ci, 7, .inl zfill))] sz [.ref q0, .int a1, .int a2, .int a3] (gQv D [(q0, .inr (11, [.int zdogs, .ref q1, .ref q2, u0, .ref q3, u1, .int zhungry, u2, u3, u4, u5, u6, u7, .ref q4, .ref q5, .ref q6, .int zatLeft, .int zatRight, u8, u9, u10, u11, u12])), (q1, .inl (ci, 7, .inl zhalves)), (q2, .inl (ci, 7, .inl zlikes)), (q3, .inl (ci, 7, .inl zfears)), (q4, .inl (ci, 7, .inl zorder)), (q5, .inl (ci, 7, .inl zwent)), (q6, .inl (ci, 7, .inl zfill))] sz (fun w => ∃ (o_zatLeft : Int32) (o_zatRight : Int32) (o_zorder : Nat → Int32) (o_zwent : Nat → Int32) (o_zfill : Nat → Int32), w = [(q0, .inr (11, [.int zdogs, .ref q1, .ref q2, u0, .ref q3, u1, .int zhungry, u2, u3, u4, u5, u6, u7, .ref q4, .ref q5, .ref q6, .int o_zatLeft, .int o_zatRight, u8, u9, u10, u11, u12])), (q1, .inl (ci, 7, .inl zhalves)), (q2, .inl (ci, 7, .inl zlikes)), (q3, .inl (ci, 7, .inl zfears)), (q4, .inl (ci, 7, .inl o_zorder)), (q5, .inl (ci, 7, .inl o_zwent)), (q6, .inl (ci, 7, .inl o_zfill))] ∧ post o_zatLeft o_zatRight o_zorder o_zwent o_zfill)) := by
  refine gmet_v RX12 (by decide +kernel) rfl (Nat.le_of_ble_eq_true rfl) ?_
  intro p e s m args below meth c A R Q C hfr hlc hP hD hret ls hl
  obtain ⟨hx, hb, hml, hown, ht, hK, hZ, hA⟩ := C
  have hl : lv_has ls 4 [(0, .ref q0), (1, .int a1), (2, .int a2), (3, .int a3)] := hl
  unfold wp_X12_fresh at hw
  refine g_in (fun H locs => W p l e R s m args below meth c H locs 0 0 Q (F0 m 0 ls [])) (fun H locs hS0 hP => ?_) hP (va_S.rf (A := A) (H0 := s.heap))
  have hS : va_S A s.heap H locs := hS0
  clear hS0
  refine lv_aload_n hx hb dX12_fresh_0 rfl (lv_at hl 0 rfl) ?_
  refine gcallv (va_runV (As := []) (rest := []) ⟨hx, hb, hml, hown, ht⟩ (c_X12_byLetters l D ci cz tr q0 q4 H.size (.int zdogs) (.ref q1) (.ref q2) u0 (.ref q3) u1 (.int zhungry) u2 u3 u4 u5 u6 u7 (.ref q5) (.ref q6) (.int zatLeft) (.int zatRight) u8 u9 u10 u11 u12 zorder _ hw) (cwV 0 ht (gi_V mM_X12_97 mI_X12_byLetters mS_X12_byLetters mN_X12 mC_X12_byLetters) rfl rfl rfl (by decide +kernel) ⟨Nat.le_trans (Nat.le_of_ble_eq_true rfl) hfr, Nat.le_trans (Nat.le_of_ble_eq_true rfl) hlc⟩) (gpreV (wc := [(q0, .inr (11, [.int zdogs, .ref q1, .ref q2, u0, .ref q3, u1, .int zhungry, u2, u3, u4, u5, u6, u7, .ref q4, .ref q5, .ref q6, .int zatLeft, .int zatRight, u8, u9, u10, u11, u12])), (q4, .inl (ci, 7, .inl zorder))]) (k := 11) (q0 := 0) hK hZ hP hD hS hA [0, 4] rfl rfl rfl rfl rfl) rfl rfl hl.1 rfl (lv_room (Nat.le_of_ble_eq_true rfl)) dX12_fresh_1 ⟨Nat.zero_le _, Nat.zero_le _⟩) hD hS hA [0, 4] rfl (fun w9 H locs hw hP9 hk9 hS => ?_)
  obtain ⟨zorder_2, rfl, hw⟩ := hw
  have hP : va_P D vwCl [(q0, .inr (11, [.int zdogs, .ref q1, .ref q2, u0, .ref q3, u1, .int zhungry, u2, u3, u4, u5, u6, u7, .ref q4, .ref q5, .ref q6, .int zatLeft, .int zatRight, u8, u9, u10, u11, u12])), (q1, .inl (ci, 7, .inl zhalves)), (q2, .inl (ci, 7, .inl zlikes)), (q3, .inl (ci, 7, .inl zfears)), (q4, .inl (ci, 7, .inl zorder_2)), (q5, .inl (ci, 7, .inl zwent)), (q6, .inl (ci, 7, .inl zfill))] H := gjoin3 hP hD [0, 4] hP9 hk9 rfl rfl [some 0, none, none, none, some 1, none, none] rfl rfl
  have hD : va_D A [(q0, .inr (11, [.int zdogs, .ref q1, .ref q2, u0, .ref q3, u1, .int zhungry, u2, u3, u4, u5, u6, u7, .ref q4, .ref q5, .ref q6, .int zatLeft, .int zatRight, u8, u9, u10, u11, u12])), (q1, .inl (ci, 7, .inl zhalves)), (q2, .inl (ci, 7, .inl zlikes)), (q3, .inl (ci, 7, .inl zfears)), (q4, .inl (ci, 7, .inl zorder_2)), (q5, .inl (ci, 7, .inl zwent)), (q6, .inl (ci, 7, .inl zfill))] := gD_re hD rfl
  clear hP9 hk9
  refine lv_aload_n hx hb dX12_fresh_4 rfl (lv_at hl 0 rfl) ?_
  refine gcallv (va_runV (As := []) (rest := []) ⟨hx, hb, hml, hown, ht⟩ (c_X12_nobodyFull l D ci cz tr q0 q6 H.size (.int zdogs) (.ref q1) (.ref q2) u0 (.ref q3) u1 (.int zhungry) u2 u3 u4 u5 u6 u7 (.ref q4) (.ref q5) (.int zatLeft) (.int zatRight) u8 u9 u10 u11 u12 zfill _ hw) (cwV 0 ht (gi_V mM_X12_100 mI_X12_nobodyFull mS_X12_nobodyFull mN_X12 mC_X12_nobodyFull) rfl rfl rfl (by decide +kernel) ⟨Nat.le_trans (Nat.le_of_ble_eq_true rfl) hfr, Nat.le_trans (Nat.le_of_ble_eq_true rfl) hlc⟩) (gpreV (wc := [(q0, .inr (11, [.int zdogs, .ref q1, .ref q2, u0, .ref q3, u1, .int zhungry, u2, u3, u4, u5, u6, u7, .ref q4, .ref q5, .ref q6, .int zatLeft, .int zatRight, u8, u9, u10, u11, u12])), (q6, .inl (ci, 7, .inl zfill))]) (k := 11) (q0 := 0) hK hZ hP hD hS hA [0, 6] rfl rfl rfl rfl rfl) rfl rfl hl.1 rfl (lv_room (Nat.le_of_ble_eq_true rfl)) dX12_fresh_5 ⟨Nat.zero_le _, Nat.zero_le _⟩) hD hS hA [0, 6] rfl (fun w9 H locs hw hP9 hk9 hS => ?_)
  obtain ⟨zfill_4, rfl, hw⟩ := hw
  have hP : va_P D vwCl [(q0, .inr (11, [.int zdogs, .ref q1, .ref q2, u0, .ref q3, u1, .int zhungry, u2, u3, u4, u5, u6, u7, .ref q4, .ref q5, .ref q6, .int zatLeft, .int zatRight, u8, u9, u10, u11, u12])), (q1, .inl (ci, 7, .inl zhalves)), (q2, .inl (ci, 7, .inl zlikes)), (q3, .inl (ci, 7, .inl zfears)), (q4, .inl (ci, 7, .inl zorder_2)), (q5, .inl (ci, 7, .inl zwent)), (q6, .inl (ci, 7, .inl zfill_4))] H := gjoin3 hP hD [0, 6] hP9 hk9 rfl rfl [some 0, none, none, none, none, none, some 1] rfl rfl
  have hD : va_D A [(q0, .inr (11, [.int zdogs, .ref q1, .ref q2, u0, .ref q3, u1, .int zhungry, u2, u3, u4, u5, u6, u7, .ref q4, .ref q5, .ref q6, .int zatLeft, .int zatRight, u8, u9, u10, u11, u12])), (q1, .inl (ci, 7, .inl zhalves)), (q2, .inl (ci, 7, .inl zlikes)), (q3, .inl (ci, 7, .inl zfears)), (q4, .inl (ci, 7, .inl zorder_2)), (q5, .inl (ci, 7, .inl zwent)), (q6, .inl (ci, 7, .inl zfill_4))] := gD_re hD rfl
  clear hP9 hk9
  refine lv_aload_n hx hb dX12_fresh_8 rfl (lv_at hl 0 rfl) ?_
  refine lv_iload_n hx hb dX12_fresh_9 rfl (lv_at hl 1 rfl) ?_
  refine lv_iload_n hx hb dX12_fresh_10 rfl (lv_at hl 2 rfl) ?_
  refine lv_iload_n hx hb dX12_fresh_11 rfl (lv_at hl 3 rfl) ?_
  refine gcallv (va_runV (As := [.int a1, .int a2, .int a3]) (rest := []) ⟨hx, hb, hml, hown, ht⟩ (c_X12_letGo l D ci cz tr q0 q1 q2 q3 q4 q5 q6 H.size u0 u1 u2 u3 u4 u5 u6 u7 u8 u9 u10 u11 u12 zdogs zhungry zatLeft zatRight zhalves zlikes zfears zorder_2 zwent zfill_4 a1 a2 a3 _ hw) (cwV 3 ht (gi_V mM_X12_103 mI_X12_letGo mS_X12_letGo mN_X12 mC_X12_letGo) rfl rfl rfl (by decide +kernel) ⟨Nat.le_trans (Nat.le_of_ble_eq_true rfl) hfr, Nat.le_trans (Nat.le_of_ble_eq_true rfl) hlc⟩) (gpreV (wc := [(q0, .inr (11, [.int zdogs, .ref q1, .ref q2, u0, .ref q3, u1, .int zhungry, u2, u3, u4, u5, u6, u7, .ref q4, .ref q5, .ref q6, .int zatLeft, .int zatRight, u8, u9, u10, u11, u12])), (q1, .inl (ci, 7, .inl zhalves)), (q2, .inl (ci, 7, .inl zlikes)), (q3, .inl (ci, 7, .inl zfears)), (q4, .inl (ci, 7, .inl zorder_2)), (q5, .inl (ci, 7, .inl zwent)), (q6, .inl (ci, 7, .inl zfill_4))]) (k := 11) (q0 := 0) hK hZ hP hD hS hA [0, 1, 2, 3, 4, 5, 6] rfl rfl rfl rfl rfl) rfl rfl hl.1 rfl (lv_room (Nat.le_of_ble_eq_true rfl)) dX12_fresh_12 ⟨Nat.zero_le _, Nat.zero_le _⟩) hD hS hA [0, 1, 2, 3, 4, 5, 6] rfl (fun w9 H locs hw hP9 hk9 hS => ?_)
  obtain ⟨zatLeft_6, zatRight_7, zwent_8, zfill_9, rfl, hw⟩ := hw
  have hP : va_P D vwCl [(q0, .inr (11, [.int zdogs, .ref q1, .ref q2, u0, .ref q3, u1, .int zhungry, u2, u3, u4, u5, u6, u7, .ref q4, .ref q5, .ref q6, .int zatLeft_6, .int zatRight_7, u8, u9, u10, u11, u12])), (q1, .inl (ci, 7, .inl zhalves)), (q2, .inl (ci, 7, .inl zlikes)), (q3, .inl (ci, 7, .inl zfears)), (q4, .inl (ci, 7, .inl zorder_2)), (q5, .inl (ci, 7, .inl zwent_8)), (q6, .inl (ci, 7, .inl zfill_9))] H := gjoin3 hP hD [0, 1, 2, 3, 4, 5, 6] hP9 hk9 rfl rfl [some 0, some 1, some 2, some 3, some 4, some 5, some 6] rfl rfl
  have hD : va_D A [(q0, .inr (11, [.int zdogs, .ref q1, .ref q2, u0, .ref q3, u1, .int zhungry, u2, u3, u4, u5, u6, u7, .ref q4, .ref q5, .ref q6, .int zatLeft_6, .int zatRight_7, u8, u9, u10, u11, u12])), (q1, .inl (ci, 7, .inl zhalves)), (q2, .inl (ci, 7, .inl zlikes)), (q3, .inl (ci, 7, .inl zfears)), (q4, .inl (ci, 7, .inl zorder_2)), (q5, .inl (ci, 7, .inl zwent_8)), (q6, .inl (ci, 7, .inl zfill_9))] := gD_re hD rfl
  clear hP9 hk9
  exact hret _ H locs _ _ ⟨_, _, _, _, _, rfl, hw⟩ hP hS dX12_fresh_15

def wp_X12_write (zdogs : Int32) (zhungry : Int32) (zcounts : Int32) (zatLeft : Int32) (zatRight : Int32) (zhalves : Nat → Int32) (zlikes : Nat → Int32) (zisTold : Nat → Int32) (zfears : Nat → Int32) (zcount : Nat → Int32) (zorder : Nat → Int32) (zwent : Nat → Int32) (zfill : Nat → Int32) (a1 : Int32) (post : Int32 → Int32 → Int32 → (Nat → Int32) → (Nat → Int32) → (Nat → Int32) → (Nat → Int32) → Prop) : Prop :=
  jn (fun (zlikes_1 : Nat → Int32) => lo (fun _ _ _ _ _ _ _ => False) (fun (G51 : Int32 → Int32 → Int32 → Int32 → (Nat → Int32) → (Nat → Int32) → (Nat → Int32) → Prop) (x3_2 : Int32) (x4_3 : Int32) (zatLeft_4 : Int32) (zatRight_5 : Int32) (zorder_6 : Nat → Int32) (zwent_7 : Nat → Int32) (zfill_8 : Nat → Int32) => ((zcounts ≤ x4_3 → ((x3_2 = 0 ∨ x3_2 = 1) ∧ post x3_2 zatLeft_4 zatRight_5 zlikes_1 zorder_6 zwent_7 zfill_8)) ∧ (¬ zcounts ≤ x4_3 → ((x3_2 = 0 → ((x3_2 = 0 ∨ x3_2 = 1) ∧ post x3_2 zatLeft_4 zatRight_5 zlikes_1 zorder_6 zwent_7 zfill_8)) ∧ (¬ x3_2 = 0 → (vp_in ((3 : Int32) * x4_3) 18 ∧ (vp_in (((3 : Int32) * x4_3) + (1 : Int32)) 18 ∧ wp_X12_fresh zdogs zhungry zatLeft_4 zatRight_5 zhalves zlikes_1 zfears zorder_6 zwent_7 zfill_8 (zcount (((3 : Int32) * x4_3)).toNatClampNeg) (zcount ((((3 : Int32) * x4_3) + (1 : Int32))).toNatClampNeg) (-6 : Int32) (fun (zatLeft_10 : Int32) (zatRight_11 : Int32) (zorder_12 : Nat → Int32) (zwent_13 : Nat → Int32) (zfill_14 : Nat → Int32) => (vp_in (((3 : Int32) * x4_3) + (2 : Int32)) 18 ∧ jn (fun (t_15 : Int32) => G51 t_15 (x4_3 + (1 : Int32)) zatLeft_10 zatRight_11 zorder_12 zwent_13 zfill_14) (fun (J113 : Int32 → Prop) => ((¬ zatLeft_10 = (zcount ((((3 : Int32) * x4_3) + (2 : Int32))).toNatClampNeg) → J113 (0 : Int32)) ∧ (zatLeft_10 = (zcount ((((3 : Int32) * x4_3) + (2 : Int32))).toNatClampNeg) → J113 (1 : Int32))))))))))))) (fun G51 => G51 (1 : Int32) (0 : Int32) zatLeft zatRight zorder zwent zfill)) (fun (J46 : (Nat → Int32) → Prop) => lo (fun _ _ _ => False) (fun (G9 : Int32 → Int32 → (Nat → Int32) → Prop) (x2_16 : Int32) (x3_17 : Int32) (zlikes_18 : Nat → Int32) => ((x3_17 < 0 → J46 zlikes_18) ∧ (¬ x3_17 < 0 → (vp_in x3_17 7 ∧ ((¬ (zisTold (x3_17).toNatClampNeg) = 0 → G9 x2_16 (x3_17 + (-1 : Int32)) zlikes_18) ∧ ((zisTold (x3_17).toNatClampNeg) = 0 → (vp_in x3_17 7 ∧ G9 (x2_16 / (19 : Int32)) (x3_17 + (-1 : Int32)) (upd zlikes_18 (x3_17).toNatClampNeg ((x2_16 - x2_16 / (19 : Int32) * (19 : Int32)) - (9 : Int32)))))))))) (fun G9 => G9 a1 (zdogs - (1 : Int32)) zlikes))
set_option maxHeartbeats 4000000 in
set_option maxRecDepth 100000 in
theorem c_X12_write (l : Launch) (D : va_G) (ci cz : ClassId) (tr : List (ClassId × FieldType)) (q0 q1 q2 q3 q4 q5 q6 q7 q8 : Nat) (sz : Nat) (u0 u1 u2 u3 u4 u5 u6 u7 u8 u9 : Value) (zdogs : Int32) (zhungry : Int32) (zcounts : Int32) (zatLeft : Int32) (zatRight : Int32) (zhalves : Nat → Int32) (zlikes : Nat → Int32) (zisTold : Nat → Int32) (zfears : Nat → Int32) (zcount : Nat → Int32) (zorder : Nat → Int32) (zwent : Nat → Int32) (zfill : Nat → Int32) (a1 : Int32) (post : Int32 → Int32 → Int32 → (Nat → Int32) → (Nat → Int32) → (Nat → Int32) → (Nat → Int32) → Prop) (hw : wp_X12_write zdogs zhungry zcounts zatLeft zatRight zhalves zlikes zisTold zfears zcount zorder zwent zfill a1 post) : gM l yX12_write cX12_write 5 (some .boolean) 4 95 D ci cz tr [(q0, .inr (11, [.int zdogs, .ref q1, .ref q2, .ref q3, .ref q4, u0, .int zhungry, .int zcounts, .ref q5, u1, u2, u3, u4, .ref q6, .ref q7, .ref q8, .int zatLeft, .int zatRight, u5, u6, u7, u8, u9])), (q1, .inl (ci, 7, .inl zhalves)), (q2, .inl (ci, 7, .inl zlikes)), (q3, .inl (cz, 7, .inl zisTold)), (q4, .inl (ci, 7, .inl zfears)), (q5, .inl (ci, 18, .inl zcount)), (q6, .inl (ci, 7, .inl zorder)), (q7, .inl (ci, 7, .inl zwent)), (q8, .inl (ci, 7, .inl zfill))] sz [.ref q0, .int a1] (gQi D [(q0, .inr (11, [.int zdogs, .ref q1, .ref q2, .ref q3, .ref q4, u0, .int zhungry, .int zcounts, .ref q5, u1, u2, u3, u4, .ref q6, .ref q7, .ref q8, .int zatLeft, .int zatRight, u5, u6, u7, u8, u9])), (q1, .inl (ci, 7, .inl zhalves)), (q2, .inl (ci, 7, .inl zlikes)), (q3, .inl (cz, 7, .inl zisTold)), (q4, .inl (ci, 7, .inl zfears)), (q5, .inl (ci, 18, .inl zcount)), (q6, .inl (ci, 7, .inl zorder)), (q7, .inl (ci, 7, .inl zwent)), (q8, .inl (ci, 7, .inl zfill))] sz (fun (r : Int32) w => ∃ (o_zatLeft : Int32) (o_zatRight : Int32) (o_zlikes : Nat → Int32) (o_zorder : Nat → Int32) (o_zwent : Nat → Int32) (o_zfill : Nat → Int32), w = [(q0, .inr (11, [.int zdogs, .ref q1, .ref q2, .ref q3, .ref q4, u0, .int zhungry, .int zcounts, .ref q5, u1, u2, u3, u4, .ref q6, .ref q7, .ref q8, .int o_zatLeft, .int o_zatRight, u5, u6, u7, u8, u9])), (q1, .inl (ci, 7, .inl zhalves)), (q2, .inl (ci, 7, .inl o_zlikes)), (q3, .inl (cz, 7, .inl zisTold)), (q4, .inl (ci, 7, .inl zfears)), (q5, .inl (ci, 18, .inl zcount)), (q6, .inl (ci, 7, .inl o_zorder)), (q7, .inl (ci, 7, .inl o_zwent)), (q8, .inl (ci, 7, .inl o_zfill))] ∧ post r o_zatLeft o_zatRight o_zlikes o_zorder o_zwent o_zfill)) := by
  refine gmet_z RX12 (by decide +kernel) rfl (Nat.le_of_ble_eq_true rfl) ?_
  intro p e s m args below meth c A R Q C hfr hlc hP hD hret ls hl
  obtain ⟨hx, hb, hml, hown, ht, hK, hZ, hA⟩ := C
  have hl : lv_has ls 5 [(0, .ref q0), (1, .int a1)] := hl
  unfold wp_X12_write at hw
  refine g_in (fun H locs => W p l e R s m args below meth c H locs 0 0 Q (F0 m 0 ls [])) (fun H locs hS0 hP => ?_) hP (va_S.rf (A := A) (H0 := s.heap))
  have hS : va_S A s.heap H locs := hS0
  clear hS0
  refine lv_iload_n hx hb dX12_write_0 rfl (lv_at hl 1 rfl) ?_
  refine lv_istore_n (lv' := [(2, .int a1), (0, .ref q0), (1, .int a1)]) hx hb dX12_write_1 rfl hl (by decide) rfl (fun ls hl => ?_)
  refine lv_aload_n hx hb dX12_write_2 rfl (lv_at hl 1 rfl) ?_
  refine va_get (D := D) (ci := 11) (v := .int zdogs) (C := RX12) (T := TX12) (N := 23) hx hb ht in_X12 hown hK.1 hP 0 rfl rfl 0 (by decide) (ht _ mF_X12_63) (fun _ h9 => h9) rfl dX12_write_3 ?_
  refine lv_iconst (v := (1 : Int32)) hx hb dX12_write_6 (by decide) ?_
  refine lv_isub hx hb dX12_write_7 ?_
  refine lv_istore_n (lv' := [(3, .int (zdogs - (1 : Int32))), (2, .int a1), (0, .ref q0), (1, .int a1)]) hx hb dX12_write_8 rfl hl (by decide) rfl (fun ls hl => ?_)
  refine jn_walk hw (fun J46 => ∀ (zlikes_1 : Nat → Int32) (H : Heap) (locs : List Loc) (ls : Array Slot), J46 zlikes_1 → va_P D vwCl [(q0, .inr (11, [.int zdogs, .ref q1, .ref q2, .ref q3, .ref q4, u0, .int zhungry, .int zcounts, .ref q5, u1, u2, u3, u4, .ref q6, .ref q7, .ref q8, .int zatLeft, .int zatRight, u5, u6, u7, u8, u9])), (q1, .inl (ci, 7, .inl zhalves)), (q2, .inl (ci, 7, .inl zlikes_1)), (q3, .inl (cz, 7, .inl zisTold)), (q4, .inl (ci, 7, .inl zfears)), (q5, .inl (ci, 18, .inl zcount)), (q6, .inl (ci, 7, .inl zorder)), (q7, .inl (ci, 7, .inl zwent)), (q8, .inl (ci, 7, .inl zfill))] H → va_S A s.heap H locs → lv_has ls 5 [(0, .ref q0)] → W p l e R s m args below meth c H locs 0 0 Q (F0 m 46 ls [])) ?_ ?_
  · intro zlikes_1 H locs ls hw hP hS hl
    have hD : va_D A [(q0, .inr (11, [.int zdogs, .ref q1, .ref q2, .ref q3, .ref q4, u0, .int zhungry, .int zcounts, .ref q5, u1, u2, u3, u4, .ref q6, .ref q7, .ref q8, .int zatLeft, .int zatRight, u5, u6, u7, u8, u9])), (q1, .inl (ci, 7, .inl zhalves)), (q2, .inl (ci, 7, .inl zlikes_1)), (q3, .inl (cz, 7, .inl zisTold)), (q4, .inl (ci, 7, .inl zfears)), (q5, .inl (ci, 18, .inl zcount)), (q6, .inl (ci, 7, .inl zorder)), (q7, .inl (ci, 7, .inl zwent)), (q8, .inl (ci, 7, .inl zfill))] := gD_re hD rfl
    refine lv_iconst (v := (1 : Int32)) hx hb dX12_write_46 (by decide) ?_
    refine lv_istore_n (lv' := [(3, .int (1 : Int32)), (0, .ref q0)]) hx hb dX12_write_47 rfl hl (by decide) rfl (fun ls hl => ?_)
    refine lv_iconst (v := (0 : Int32)) hx hb dX12_write_48 (by decide) ?_
    refine lv_istore (lv' := [(4, .int (0 : Int32)), (3, .int (1 : Int32)), (0, .ref q0)]) hx hb dX12_write_49 hl (by decide) rfl (fun ls hl => ?_)
    refine lo_walk hw (fun G51 => ∀ (x3_2 : Int32) (x4_3 : Int32) (zatLeft_4 : Int32) (zatRight_5 : Int32) (zorder_6 : Nat → Int32) (zwent_7 : Nat → Int32) (zfill_8 : Nat → Int32) (H : Heap) (locs : List Loc) (ls : Array Slot), G51 x3_2 x4_3 zatLeft_4 zatRight_5 zorder_6 zwent_7 zfill_8 → va_P D vwCl [(q0, .inr (11, [.int zdogs, .ref q1, .ref q2, .ref q3, .ref q4, u0, .int zhungry, .int zcounts, .ref q5, u1, u2, u3, u4, .ref q6, .ref q7, .ref q8, .int zatLeft_4, .int zatRight_5, u5, u6, u7, u8, u9])), (q1, .inl (ci, 7, .inl zhalves)), (q2, .inl (ci, 7, .inl zlikes_1)), (q3, .inl (cz, 7, .inl zisTold)), (q4, .inl (ci, 7, .inl zfears)), (q5, .inl (ci, 18, .inl zcount)), (q6, .inl (ci, 7, .inl zorder_6)), (q7, .inl (ci, 7, .inl zwent_7)), (q8, .inl (ci, 7, .inl zfill_8))] H → va_S A s.heap H locs → lv_has ls 5 [(0, .ref q0), (3, .int x3_2), (4, .int x4_3)] → W p l e R s m args below meth c H locs 0 0 Q (F0 m 51 ls [])) (fun _ _ _ _ _ _ _ _ _ _ hw _ _ _ => False.elim hw) (fun G51 hG51 x3_2 x4_3 zatLeft_4 zatRight_5 zorder_6 zwent_7 zfill_8 H locs ls hw hP hS hl => ?_) (fun G51 hG51 hw => hG51 _ _ _ _ _ _ _ H locs ls hw hP hS (lv_sub hl [2, 1, 0] rfl))
    have hD : va_D A [(q0, .inr (11, [.int zdogs, .ref q1, .ref q2, .ref q3, .ref q4, u0, .int zhungry, .int zcounts, .ref q5, u1, u2, u3, u4, .ref q6, .ref q7, .ref q8, .int zatLeft_4, .int zatRight_5, u5, u6, u7, u8, u9])), (q1, .inl (ci, 7, .inl zhalves)), (q2, .inl (ci, 7, .inl zlikes_1)), (q3, .inl (cz, 7, .inl zisTold)), (q4, .inl (ci, 7, .inl zfears)), (q5, .inl (ci, 18, .inl zcount)), (q6, .inl (ci, 7, .inl zorder_6)), (q7, .inl (ci, 7, .inl zwent_7)), (q8, .inl (ci, 7, .inl zfill_8))] := gD_re hD rfl
    refine lv_iload hx hb dX12_write_51 (lv_at hl 2 rfl) ?_
    refine lv_aload_n hx hb dX12_write_53 rfl (lv_at hl 0 rfl) ?_
    refine va_get (D := D) (ci := 11) (v := .int zcounts) (C := RX12) (T := TX12) (N := 23) hx hb ht in_X12 hown hK.1 hP 0 rfl rfl 7 (by decide) (ht _ mF_X12_77) (fun _ h9 => h9) rfl dX12_write_54 ?_
    refine lv_icmp_ge (tgt := 120) hx hb dX12_write_57 (by decide) (fun hc => ?_) (fun hc => ?_)
    · have hw := hw.1 hc
      refine lv_iload_n hx hb dX12_write_120 rfl (lv_at hl 1 rfl) ?_
      obtain ⟨h01, hw⟩ := hw
      exact hret _ _ H locs _ _ h01 ⟨_, _, _, _, _, _, rfl, hw⟩ hP hS dX12_write_121
    · have hw := hw.2 hc
      refine lv_iload_n hx hb dX12_write_60 rfl (lv_at hl 1 rfl) ?_
      refine lv_if_eq (tgt := 120) hx hb dX12_write_61 (by decide) (fun hc => ?_) (fun hc => ?_)
      · have hw := hw.1 hc
        refine lv_iload_n hx hb dX12_write_120 rfl (lv_at hl 1 rfl) ?_
        obtain ⟨h01, hw⟩ := hw
        exact hret _ _ H locs _ _ h01 ⟨_, _, _, _, _, _, rfl, hw⟩ hP hS dX12_write_121
      · have hw := hw.2 hc
        refine lv_aload_n hx hb dX12_write_64 rfl (lv_at hl 0 rfl) ?_
        refine lv_aload_n hx hb dX12_write_65 rfl (lv_at hl 0 rfl) ?_
        refine va_get (D := D) (ci := 11) (v := .ref q5) (C := RX12) (T := TX12) (N := 23) hx hb ht in_X12 hown hK.1 hP 0 rfl rfl 8 (by decide) (ht _ mF_X12_30) (fun _ h9 => h9) rfl dX12_write_66 ?_
        refine lv_iconst (v := (3 : Int32)) hx hb dX12_write_69 (by decide) ?_
        refine lv_iload hx hb dX12_write_70 (lv_at hl 2 rfl) ?_
        refine lv_imul hx hb dX12_write_72 ?_
        obtain ⟨hin, hw⟩ := hw
        refine va_iald (D := D) hx hb hK.1 hP 5 0 rfl rfl hin dX12_write_73 ?_
        refine lv_aload_n hx hb dX12_write_74 rfl (lv_at hl 0 rfl) ?_
        refine va_get (D := D) (ci := 11) (v := .ref q5) (C := RX12) (T := TX12) (N := 23) hx hb ht in_X12 hown hK.1 hP 0 rfl rfl 8 (by decide) (ht _ mF_X12_30) (fun _ h9 => h9) rfl dX12_write_75 ?_
        refine lv_iconst (v := (3 : Int32)) hx hb dX12_write_78 (by decide) ?_
        refine lv_iload hx hb dX12_write_79 (lv_at hl 2 rfl) ?_
        refine lv_imul hx hb dX12_write_81 ?_
        refine lv_iconst (v := (1 : Int32)) hx hb dX12_write_82 (by decide) ?_
        refine lv_iadd hx hb dX12_write_83 ?_
        obtain ⟨hin, hw⟩ := hw
        refine va_iald (D := D) hx hb hK.1 hP 5 0 rfl rfl hin dX12_write_84 ?_
        refine lv_bipush (v := (-6 : Int32)) hx hb dX12_write_85 (by decide) ?_
        refine gcallv (va_runV (As := [.int (zcount (((3 : Int32) * x4_3)).toNatClampNeg), .int (zcount ((((3 : Int32) * x4_3) + (1 : Int32))).toNatClampNeg), .int (-6 : Int32)]) (rest := []) ⟨hx, hb, hml, hown, ht⟩ (c_X12_fresh l D ci cz tr q0 q1 q2 q4 q6 q7 q8 H.size (.ref q3) u0 (.int zcounts) (.ref q5) u1 u2 u3 u4 u5 u6 u7 u8 u9 zdogs zhungry zatLeft_4 zatRight_5 zhalves zlikes_1 zfears zorder_6 zwent_7 zfill_8 (zcount (((3 : Int32) * x4_3)).toNatClampNeg) (zcount ((((3 : Int32) * x4_3) + (1 : Int32))).toNatClampNeg) (-6 : Int32) _ hw) (cwV 3 ht (gi_V mM_X12_110 mI_X12_fresh mS_X12_fresh mN_X12 mC_X12_fresh) rfl rfl rfl (by decide +kernel) ⟨Nat.le_trans (Nat.le_of_ble_eq_true rfl) hfr, Nat.le_trans (Nat.le_of_ble_eq_true rfl) hlc⟩) (gpreV (wc := [(q0, .inr (11, [.int zdogs, .ref q1, .ref q2, .ref q3, .ref q4, u0, .int zhungry, .int zcounts, .ref q5, u1, u2, u3, u4, .ref q6, .ref q7, .ref q8, .int zatLeft_4, .int zatRight_5, u5, u6, u7, u8, u9])), (q1, .inl (ci, 7, .inl zhalves)), (q2, .inl (ci, 7, .inl zlikes_1)), (q4, .inl (ci, 7, .inl zfears)), (q6, .inl (ci, 7, .inl zorder_6)), (q7, .inl (ci, 7, .inl zwent_7)), (q8, .inl (ci, 7, .inl zfill_8))]) (k := 11) (q0 := 0) hK hZ hP hD hS hA [0, 1, 2, 4, 6, 7, 8] rfl rfl rfl rfl rfl) rfl rfl hl.1 rfl (lv_room (Nat.le_of_ble_eq_true rfl)) dX12_write_87 ⟨Nat.zero_le _, Nat.zero_le _⟩) hD hS hA [0, 1, 2, 4, 6, 7, 8] rfl (fun w9 H locs hw hP9 hk9 hS => ?_)
        obtain ⟨zatLeft_10, zatRight_11, zorder_12, zwent_13, zfill_14, rfl, hw⟩ := hw
        have hP : va_P D vwCl [(q0, .inr (11, [.int zdogs, .ref q1, .ref q2, .ref q3, .ref q4, u0, .int zhungry, .int zcounts, .ref q5, u1, u2, u3, u4, .ref q6, .ref q7, .ref q8, .int zatLeft_10, .int zatRight_11, u5, u6, u7, u8, u9])), (q1, .inl (ci, 7, .inl zhalves)), (q2, .inl (ci, 7, .inl zlikes_1)), (q3, .inl (cz, 7, .inl zisTold)), (q4, .inl (ci, 7, .inl zfears)), (q5, .inl (ci, 18, .inl zcount)), (q6, .inl (ci, 7, .inl zorder_12)), (q7, .inl (ci, 7, .inl zwent_13)), (q8, .inl (ci, 7, .inl zfill_14))] H := gjoin3 hP hD [0, 1, 2, 4, 6, 7, 8] hP9 hk9 rfl rfl [some 0, some 1, some 2, none, some 3, none, some 4, some 5, some 6] rfl rfl
        have hD : va_D A [(q0, .inr (11, [.int zdogs, .ref q1, .ref q2, .ref q3, .ref q4, u0, .int zhungry, .int zcounts, .ref q5, u1, u2, u3, u4, .ref q6, .ref q7, .ref q8, .int zatLeft_10, .int zatRight_11, u5, u6, u7, u8, u9])), (q1, .inl (ci, 7, .inl zhalves)), (q2, .inl (ci, 7, .inl zlikes_1)), (q3, .inl (cz, 7, .inl zisTold)), (q4, .inl (ci, 7, .inl zfears)), (q5, .inl (ci, 18, .inl zcount)), (q6, .inl (ci, 7, .inl zorder_12)), (q7, .inl (ci, 7, .inl zwent_13)), (q8, .inl (ci, 7, .inl zfill_14))] := gD_re hD rfl
        clear hP9 hk9
        refine lv_aload_n hx hb dX12_write_90 rfl (lv_at hl 0 rfl) ?_
        refine va_get (D := D) (ci := 11) (v := .int zatLeft_10) (C := RX12) (T := TX12) (N := 23) hx hb ht in_X12 hown hK.1 hP 0 rfl rfl 16 (by decide) (ht _ mF_X12_88) (fun _ h9 => h9) rfl dX12_write_91 ?_
        refine lv_aload_n hx hb dX12_write_94 rfl (lv_at hl 0 rfl) ?_
        refine va_get (D := D) (ci := 11) (v := .ref q5) (C := RX12) (T := TX12) (N := 23) hx hb ht in_X12 hown hK.1 hP 0 rfl rfl 8 (by decide) (ht _ mF_X12_30) (fun _ h9 => h9) rfl dX12_write_95 ?_
        refine lv_iconst (v := (3 : Int32)) hx hb dX12_write_98 (by decide) ?_
        refine lv_iload hx hb dX12_write_99 (lv_at hl 2 rfl) ?_
        refine lv_imul hx hb dX12_write_101 ?_
        refine lv_iconst (v := (2 : Int32)) hx hb dX12_write_102 (by decide) ?_
        refine lv_iadd hx hb dX12_write_103 ?_
        obtain ⟨hin, hw⟩ := hw
        refine va_iald (D := D) hx hb hK.1 hP 5 0 rfl rfl hin dX12_write_104 ?_
        refine jn_walk hw (fun J113 => ∀ (t_15 : Int32) (H : Heap) (locs : List Loc) (ls : Array Slot), J113 t_15 → va_P D vwCl [(q0, .inr (11, [.int zdogs, .ref q1, .ref q2, .ref q3, .ref q4, u0, .int zhungry, .int zcounts, .ref q5, u1, u2, u3, u4, .ref q6, .ref q7, .ref q8, .int zatLeft_10, .int zatRight_11, u5, u6, u7, u8, u9])), (q1, .inl (ci, 7, .inl zhalves)), (q2, .inl (ci, 7, .inl zlikes_1)), (q3, .inl (cz, 7, .inl zisTold)), (q4, .inl (ci, 7, .inl zfears)), (q5, .inl (ci, 18, .inl zcount)), (q6, .inl (ci, 7, .inl zorder_12)), (q7, .inl (ci, 7, .inl zwent_13)), (q8, .inl (ci, 7, .inl zfill_14))] H → va_S A s.heap H locs → lv_has ls 5 [(0, .ref q0), (4, .int x4_3)] → W p l e R s m args below meth c H locs 0 0 Q (F0 m 113 ls [.int t_15])) ?_ ?_
        · intro t_15 H locs ls hw hP hS hl
          have hD : va_D A [(q0, .inr (11, [.int zdogs, .ref q1, .ref q2, .ref q3, .ref q4, u0, .int zhungry, .int zcounts, .ref q5, u1, u2, u3, u4, .ref q6, .ref q7, .ref q8, .int zatLeft_10, .int zatRight_11, u5, u6, u7, u8, u9])), (q1, .inl (ci, 7, .inl zhalves)), (q2, .inl (ci, 7, .inl zlikes_1)), (q3, .inl (cz, 7, .inl zisTold)), (q4, .inl (ci, 7, .inl zfears)), (q5, .inl (ci, 18, .inl zcount)), (q6, .inl (ci, 7, .inl zorder_12)), (q7, .inl (ci, 7, .inl zwent_13)), (q8, .inl (ci, 7, .inl zfill_14))] := gD_re hD rfl
          refine lv_istore_n (lv' := [(3, .int t_15), (0, .ref q0), (4, .int x4_3)]) hx hb dX12_write_113 rfl hl (by decide) rfl (fun ls hl => ?_)
          refine lv_iinc (v := (x4_3 + (1 : Int32))) (lv' := [(4, .int (x4_3 + (1 : Int32))), (3, .int t_15), (0, .ref q0)]) hx hb dX12_write_114 hl (k := 2) rfl rfl (by decide) rfl (fun ls hl => ?_)
          refine lv_goto (tgt := 51) hx hb dX12_write_117 (by decide) ?_
          exact hG51 _ _ _ _ _ _ _ H locs ls hw hP hS (lv_sub hl [2, 1, 0] rfl)
        · intro J113 hJ113 hw
          refine lv_icmp_ne (tgt := 112) hx hb dX12_write_105 (by decide) (fun hc => ?_) (fun hc => ?_)
          · have hw := hw.1 hc
            refine lv_iconst (v := (0 : Int32)) hx hb dX12_write_112 (by decide) ?_
            exact hJ113 _ H locs ls hw hP hS (lv_sub hl [0, 2] rfl)
          · have hw := hw.2 hc
            refine lv_iconst (v := (1 : Int32)) hx hb dX12_write_108 (by decide) ?_
            refine lv_goto (tgt := 113) hx hb dX12_write_109 (by decide) ?_
            exact hJ113 _ H locs ls hw hP hS (lv_sub hl [0, 2] rfl)
  · intro J46 hJ46 hw
    refine lo_walk hw (fun G9 => ∀ (x2_16 : Int32) (x3_17 : Int32) (zlikes_18 : Nat → Int32) (H : Heap) (locs : List Loc) (ls : Array Slot), G9 x2_16 x3_17 zlikes_18 → va_P D vwCl [(q0, .inr (11, [.int zdogs, .ref q1, .ref q2, .ref q3, .ref q4, u0, .int zhungry, .int zcounts, .ref q5, u1, u2, u3, u4, .ref q6, .ref q7, .ref q8, .int zatLeft, .int zatRight, u5, u6, u7, u8, u9])), (q1, .inl (ci, 7, .inl zhalves)), (q2, .inl (ci, 7, .inl zlikes_18)), (q3, .inl (cz, 7, .inl zisTold)), (q4, .inl (ci, 7, .inl zfears)), (q5, .inl (ci, 18, .inl zcount)), (q6, .inl (ci, 7, .inl zorder)), (q7, .inl (ci, 7, .inl zwent)), (q8, .inl (ci, 7, .inl zfill))] H → va_S A s.heap H locs → lv_has ls 5 [(0, .ref q0), (2, .int x2_16), (3, .int x3_17)] → W p l e R s m args below meth c H locs 0 0 Q (F0 m 9 ls [])) (fun _ _ _ _ _ _ hw _ _ _ => False.elim hw) (fun G9 hG9 x2_16 x3_17 zlikes_18 H locs ls hw hP hS hl => ?_) (fun G9 hG9 hw => hG9 _ _ _ H locs ls hw hP hS (lv_sub hl [2, 1, 0] rfl))
    have hD : va_D A [(q0, .inr (11, [.int zdogs, .ref q1, .ref q2, .ref q3, .ref q4, u0, .int zhungry, .int zcounts, .ref q5, u1, u2, u3, u4, .ref q6, .ref q7, .ref q8, .int zatLeft, .int zatRight, u5, u6, u7, u8, u9])), (q1, .inl (ci, 7, .inl zhalves)), (q2, .inl (ci, 7, .inl zlikes_18)), (q3, .inl (cz, 7, .inl zisTold)), (q4, .inl (ci, 7, .inl zfears)), (q5, .inl (ci, 18, .inl zcount)), (q6, .inl (ci, 7, .inl zorder)), (q7, .inl (ci, 7, .inl zwent)), (q8, .inl (ci, 7, .inl zfill))] := gD_re hD rfl
    refine lv_iload_n hx hb dX12_write_9 rfl (lv_at hl 2 rfl) ?_
    refine lv_if_lt (tgt := 46) hx hb dX12_write_10 (by decide) (fun hc => ?_) (fun hc => ?_)
    · have hw := hw.1 hc
      exact hJ46 _ H locs ls hw hP hS (lv_sub hl [0] rfl)
    · have hw := hw.2 hc
      refine lv_aload_n hx hb dX12_write_13 rfl (lv_at hl 0 rfl) ?_
      refine va_get (D := D) (ci := 11) (v := .ref q3) (C := RX12) (T := TX12) (N := 23) hx hb ht in_X12 hown hK.1 hP 0 rfl rfl 3 (by decide) (ht _ mF_X12_16) (fun _ h9 => h9) rfl dX12_write_14 ?_
      refine lv_iload_n hx hb dX12_write_17 rfl (lv_at hl 2 rfl) ?_
      obtain ⟨hin, hw⟩ := hw
      refine va_zald (D := D) hx hb hK.1 hP 3 1 rfl rfl hin dX12_write_18 ?_
      refine lv_if_ne (tgt := 40) hx hb dX12_write_19 (by decide) (fun hc => ?_) (fun hc => ?_)
      · have hw := hw.1 hc
        refine lv_iinc (v := (x3_17 + (-1 : Int32))) (lv' := [(3, .int (x3_17 + (-1 : Int32))), (0, .ref q0), (2, .int x2_16)]) hx hb dX12_write_40 hl (k := 2) rfl rfl (by decide) rfl (fun ls hl => ?_)
        refine lv_goto (tgt := 9) hx hb dX12_write_43 (by decide) ?_
        exact hG9 _ _ _ H locs ls hw hP hS (lv_sub hl [1, 2, 0] rfl)
      · have hw := hw.2 hc
        refine lv_aload_n hx hb dX12_write_22 rfl (lv_at hl 0 rfl) ?_
        refine va_get (D := D) (ci := 11) (v := .ref q2) (C := RX12) (T := TX12) (N := 23) hx hb ht in_X12 hown hK.1 hP 0 rfl rfl 2 (by decide) (ht _ mF_X12_13) (fun _ h9 => h9) rfl dX12_write_23 ?_
        refine lv_iload_n hx hb dX12_write_26 rfl (lv_at hl 2 rfl) ?_
        refine lv_iload_n hx hb dX12_write_27 rfl (lv_at hl 1 rfl) ?_
        refine lv_bipush (v := (19 : Int32)) hx hb dX12_write_28 (by decide) ?_
        refine lv_irem hx hb dX12_write_30 (by decide) ?_
        refine lv_bipush (v := (9 : Int32)) hx hb dX12_write_31 (by decide) ?_
        refine lv_isub hx hb dX12_write_33 ?_
        obtain ⟨hin, hw⟩ := hw
        refine va_iast (D := D) hx hb hK.1 hP hD hS 2 0 rfl rfl hin dX12_write_34 (fun H locs hP hD hS => ?_)
        have hP : va_P D vwCl [(q0, .inr (11, [.int zdogs, .ref q1, .ref q2, .ref q3, .ref q4, u0, .int zhungry, .int zcounts, .ref q5, u1, u2, u3, u4, .ref q6, .ref q7, .ref q8, .int zatLeft, .int zatRight, u5, u6, u7, u8, u9])), (q1, .inl (ci, 7, .inl zhalves)), (q2, .inl (ci, 7, .inl (upd zlikes_18 (x3_17).toNatClampNeg ((x2_16 - x2_16 / (19 : Int32) * (19 : Int32)) - (9 : Int32))))), (q3, .inl (cz, 7, .inl zisTold)), (q4, .inl (ci, 7, .inl zfears)), (q5, .inl (ci, 18, .inl zcount)), (q6, .inl (ci, 7, .inl zorder)), (q7, .inl (ci, 7, .inl zwent)), (q8, .inl (ci, 7, .inl zfill))] H := hP
        have hD : va_D A [(q0, .inr (11, [.int zdogs, .ref q1, .ref q2, .ref q3, .ref q4, u0, .int zhungry, .int zcounts, .ref q5, u1, u2, u3, u4, .ref q6, .ref q7, .ref q8, .int zatLeft, .int zatRight, u5, u6, u7, u8, u9])), (q1, .inl (ci, 7, .inl zhalves)), (q2, .inl (ci, 7, .inl (upd zlikes_18 (x3_17).toNatClampNeg ((x2_16 - x2_16 / (19 : Int32) * (19 : Int32)) - (9 : Int32))))), (q3, .inl (cz, 7, .inl zisTold)), (q4, .inl (ci, 7, .inl zfears)), (q5, .inl (ci, 18, .inl zcount)), (q6, .inl (ci, 7, .inl zorder)), (q7, .inl (ci, 7, .inl zwent)), (q8, .inl (ci, 7, .inl zfill))] := hD
        refine lv_iload_n hx hb dX12_write_35 rfl (lv_at hl 1 rfl) ?_
        refine lv_bipush (v := (19 : Int32)) hx hb dX12_write_36 (by decide) ?_
        refine lv_idiv hx hb dX12_write_38 (by decide) ?_
        refine lv_istore_n (lv' := [(2, .int (x2_16 / (19 : Int32))), (0, .ref q0), (3, .int x3_17)]) hx hb dX12_write_39 rfl hl (by decide) rfl (fun ls hl => ?_)
        refine lv_iinc (v := (x3_17 + (-1 : Int32))) (lv' := [(3, .int (x3_17 + (-1 : Int32))), (2, .int (x2_16 / (19 : Int32))), (0, .ref q0)]) hx hb dX12_write_40 hl (k := 2) rfl rfl (by decide) rfl (fun ls hl => ?_)
        refine lv_goto (tgt := 9) hx hb dX12_write_43 (by decide) ?_
        exact hG9 _ _ _ H locs ls hw hP hS (lv_sub hl [2, 1, 0] rfl)

def wp_X12_unwrite (zdogs : Int32) (zlikes : Nat → Int32) (zisTold : Nat → Int32)  (post : (Nat → Int32) → Prop) : Prop :=
  lo (fun _ _ => False) (fun (G2 : Int32 → (Nat → Int32) → Prop) (x1_1 : Int32) (zlikes_2 : Nat → Int32) => ((zdogs ≤ x1_1 → post zlikes_2) ∧ (¬ zdogs ≤ x1_1 → (vp_in x1_1 7 ∧ jn (fun (t_3 : Int32) => (vp_in x1_1 7 ∧ G2 (x1_1 + (1 : Int32)) (upd zlikes_2 (x1_1).toNatClampNeg t_3))) (fun (J34 : Int32 → Prop) => (((zisTold (x1_1).toNatClampNeg) = 0 → J34 (0 : Int32)) ∧ (¬ (zisTold (x1_1).toNatClampNeg) = 0 → (vp_in x1_1 7 ∧ J34 (zlikes_2 (x1_1).toNatClampNeg))))))))) (fun G2 => G2 (0 : Int32) zlikes)
set_option maxHeartbeats 4000000 in
set_option maxRecDepth 100000 in
theorem c_X12_unwrite (l : Launch) (D : va_G) (ci cz : ClassId) (tr : List (ClassId × FieldType)) (q0 q1 q2 : Nat) (sz : Nat) (u0 u1 u2 u3 u4 u5 u6 u7 u8 u9 u10 u11 u12 u13 u14 u15 u16 u17 u18 u19 : Value) (zdogs : Int32) (zlikes : Nat → Int32) (zisTold : Nat → Int32)  (post : (Nat → Int32) → Prop) (hw : wp_X12_unwrite zdogs zlikes zisTold post) : gM l yX12_unwrite cX12_unwrite 2 none 0 0 D ci cz tr [(q0, .inr (11, [.int zdogs, u0, .ref q1, .ref q2, u1, u2, u3, u4, u5, u6, u7, u8, u9, u10, u11, u12, u13, u14, u15, u16, u17, u18, u19])), (q1, .inl (ci, 7, .inl zlikes)), (q2, .inl (cz, 7, .inl zisTold))] sz [.ref q0] (gQv D [(q0, .inr (11, [.int zdogs, u0, .ref q1, .ref q2, u1, u2, u3, u4, u5, u6, u7, u8, u9, u10, u11, u12, u13, u14, u15, u16, u17, u18, u19])), (q1, .inl (ci, 7, .inl zlikes)), (q2, .inl (cz, 7, .inl zisTold))] sz (fun w => ∃ (o_zlikes : Nat → Int32), w = [(q0, .inr (11, [.int zdogs, u0, .ref q1, .ref q2, u1, u2, u3, u4, u5, u6, u7, u8, u9, u10, u11, u12, u13, u14, u15, u16, u17, u18, u19])), (q1, .inl (ci, 7, .inl o_zlikes)), (q2, .inl (cz, 7, .inl zisTold))] ∧ post o_zlikes)) := by
  refine gmet_v RX12 (by decide +kernel) rfl (Nat.le_of_ble_eq_true rfl) ?_
  intro p e s m args below meth c A R Q C hfr hlc hP hD hret ls hl
  obtain ⟨hx, hb, hml, hown, ht, hK, hZ, hA⟩ := C
  have hl : lv_has ls 2 [(0, .ref q0)] := hl
  unfold wp_X12_unwrite at hw
  refine g_in (fun H locs => W p l e R s m args below meth c H locs 0 0 Q (F0 m 0 ls [])) (fun H locs hS0 hP => ?_) hP (va_S.rf (A := A) (H0 := s.heap))
  have hS : va_S A s.heap H locs := hS0
  clear hS0
  refine lv_iconst (v := (0 : Int32)) hx hb dX12_unwrite_0 (by decide) ?_
  refine lv_istore_n (lv' := [(1, .int (0 : Int32)), (0, .ref q0)]) hx hb dX12_unwrite_1 rfl hl (by decide) rfl (fun ls hl => ?_)
  refine lo_walk hw (fun G2 => ∀ (x1_1 : Int32) (zlikes_2 : Nat → Int32) (H : Heap) (locs : List Loc) (ls : Array Slot), G2 x1_1 zlikes_2 → va_P D vwCl [(q0, .inr (11, [.int zdogs, u0, .ref q1, .ref q2, u1, u2, u3, u4, u5, u6, u7, u8, u9, u10, u11, u12, u13, u14, u15, u16, u17, u18, u19])), (q1, .inl (ci, 7, .inl zlikes_2)), (q2, .inl (cz, 7, .inl zisTold))] H → va_S A s.heap H locs → lv_has ls 2 [(0, .ref q0), (1, .int x1_1)] → W p l e R s m args below meth c H locs 0 0 Q (F0 m 2 ls [])) (fun _ _ _ _ _ hw _ _ _ => False.elim hw) (fun G2 hG2 x1_1 zlikes_2 H locs ls hw hP hS hl => ?_) (fun G2 hG2 hw => hG2 _ _ H locs ls hw hP hS (lv_sub hl [1, 0] rfl))
  have hD : va_D A [(q0, .inr (11, [.int zdogs, u0, .ref q1, .ref q2, u1, u2, u3, u4, u5, u6, u7, u8, u9, u10, u11, u12, u13, u14, u15, u16, u17, u18, u19])), (q1, .inl (ci, 7, .inl zlikes_2)), (q2, .inl (cz, 7, .inl zisTold))] := gD_re hD rfl
  refine lv_iload_n hx hb dX12_unwrite_2 rfl (lv_at hl 1 rfl) ?_
  refine lv_aload_n hx hb dX12_unwrite_3 rfl (lv_at hl 0 rfl) ?_
  refine va_get (D := D) (ci := 11) (v := .int zdogs) (C := RX12) (T := TX12) (N := 23) hx hb ht in_X12 hown hK.1 hP 0 rfl rfl 0 (by decide) (ht _ mF_X12_63) (fun _ h9 => h9) rfl dX12_unwrite_4 ?_
  refine lv_icmp_ge (tgt := 41) hx hb dX12_unwrite_7 (by decide) (fun hc => ?_) (fun hc => ?_)
  · have hw := hw.1 hc
    exact hret _ H locs _ _ ⟨_, rfl, hw⟩ hP hS dX12_unwrite_41
  · have hw := hw.2 hc
    refine lv_aload_n hx hb dX12_unwrite_10 rfl (lv_at hl 0 rfl) ?_
    refine va_get (D := D) (ci := 11) (v := .ref q1) (C := RX12) (T := TX12) (N := 23) hx hb ht in_X12 hown hK.1 hP 0 rfl rfl 2 (by decide) (ht _ mF_X12_13) (fun _ h9 => h9) rfl dX12_unwrite_11 ?_
    refine lv_iload_n hx hb dX12_unwrite_14 rfl (lv_at hl 1 rfl) ?_
    refine lv_aload_n hx hb dX12_unwrite_15 rfl (lv_at hl 0 rfl) ?_
    refine va_get (D := D) (ci := 11) (v := .ref q2) (C := RX12) (T := TX12) (N := 23) hx hb ht in_X12 hown hK.1 hP 0 rfl rfl 3 (by decide) (ht _ mF_X12_16) (fun _ h9 => h9) rfl dX12_unwrite_16 ?_
    refine lv_iload_n hx hb dX12_unwrite_19 rfl (lv_at hl 1 rfl) ?_
    obtain ⟨hin, hw⟩ := hw
    refine va_zald (D := D) hx hb hK.1 hP 2 1 rfl rfl hin dX12_unwrite_20 ?_
    refine jn_walk hw (fun J34 => ∀ (t_3 : Int32) (H : Heap) (locs : List Loc) (ls : Array Slot), J34 t_3 → va_P D vwCl [(q0, .inr (11, [.int zdogs, u0, .ref q1, .ref q2, u1, u2, u3, u4, u5, u6, u7, u8, u9, u10, u11, u12, u13, u14, u15, u16, u17, u18, u19])), (q1, .inl (ci, 7, .inl zlikes_2)), (q2, .inl (cz, 7, .inl zisTold))] H → va_S A s.heap H locs → lv_has ls 2 [(0, .ref q0), (1, .int x1_1)] → W p l e R s m args below meth c H locs 0 0 Q (F0 m 34 ls [.int t_3, .int x1_1, .ref q1])) ?_ ?_
    · intro t_3 H locs ls hw hP hS hl
      have hD : va_D A [(q0, .inr (11, [.int zdogs, u0, .ref q1, .ref q2, u1, u2, u3, u4, u5, u6, u7, u8, u9, u10, u11, u12, u13, u14, u15, u16, u17, u18, u19])), (q1, .inl (ci, 7, .inl zlikes_2)), (q2, .inl (cz, 7, .inl zisTold))] := gD_re hD rfl
      obtain ⟨hin, hw⟩ := hw
      refine va_iast (D := D) hx hb hK.1 hP hD hS 1 0 rfl rfl hin dX12_unwrite_34 (fun H locs hP hD hS => ?_)
      have hP : va_P D vwCl [(q0, .inr (11, [.int zdogs, u0, .ref q1, .ref q2, u1, u2, u3, u4, u5, u6, u7, u8, u9, u10, u11, u12, u13, u14, u15, u16, u17, u18, u19])), (q1, .inl (ci, 7, .inl (upd zlikes_2 (x1_1).toNatClampNeg t_3))), (q2, .inl (cz, 7, .inl zisTold))] H := hP
      have hD : va_D A [(q0, .inr (11, [.int zdogs, u0, .ref q1, .ref q2, u1, u2, u3, u4, u5, u6, u7, u8, u9, u10, u11, u12, u13, u14, u15, u16, u17, u18, u19])), (q1, .inl (ci, 7, .inl (upd zlikes_2 (x1_1).toNatClampNeg t_3))), (q2, .inl (cz, 7, .inl zisTold))] := hD
      refine lv_iinc (v := (x1_1 + (1 : Int32))) (lv' := [(1, .int (x1_1 + (1 : Int32))), (0, .ref q0)]) hx hb dX12_unwrite_35 hl (k := 1) rfl rfl (by decide) rfl (fun ls hl => ?_)
      refine lv_goto (tgt := 2) hx hb dX12_unwrite_38 (by decide) ?_
      exact hG2 _ _ H locs ls hw hP hS (lv_sub hl [1, 0] rfl)
    · intro J34 hJ34 hw
      refine lv_if_eq (tgt := 33) hx hb dX12_unwrite_21 (by decide) (fun hc => ?_) (fun hc => ?_)
      · have hw := hw.1 hc
        refine lv_iconst (v := (0 : Int32)) hx hb dX12_unwrite_33 (by decide) ?_
        exact hJ34 _ H locs ls hw hP hS (lv_sub hl [0, 1] rfl)
      · have hw := hw.2 hc
        refine lv_aload_n hx hb dX12_unwrite_24 rfl (lv_at hl 0 rfl) ?_
        refine va_get (D := D) (ci := 11) (v := .ref q1) (C := RX12) (T := TX12) (N := 23) hx hb ht in_X12 hown hK.1 hP 0 rfl rfl 2 (by decide) (ht _ mF_X12_13) (fun _ h9 => h9) rfl dX12_unwrite_25 ?_
        refine lv_iload_n hx hb dX12_unwrite_28 rfl (lv_at hl 1 rfl) ?_
        obtain ⟨hin, hw⟩ := hw
        refine va_iald (D := D) hx hb hK.1 hP 1 0 rfl rfl hin dX12_unwrite_29 ?_
        refine lv_goto (tgt := 34) hx hb dX12_unwrite_30 (by decide) ?_
        exact hJ34 _ H locs ls hw hP hS (lv_sub hl [0, 1] rfl)

def wp_X12_fits (zdogs : Int32) (zhungry : Int32) (zcounts : Int32) (zatLeft : Int32) (zatRight : Int32) (zhalves : Nat → Int32) (zlikes : Nat → Int32) (zisTold : Nat → Int32) (zfears : Nat → Int32) (zcount : Nat → Int32) (zorder : Nat → Int32) (zwent : Nat → Int32) (zfill : Nat → Int32) (a1 : Int32) (post : Int32 → Int32 → Int32 → (Nat → Int32) → (Nat → Int32) → (Nat → Int32) → (Nat → Int32) → Prop) : Prop :=
  jn (fun (x2_1 : Int32) (x3_2 : Int32) (zatLeft_3 : Int32) (zatRight_4 : Int32) (zlikes_5 : Nat → Int32) (zorder_6 : Nat → Int32) (zwent_7 : Nat → Int32) (zfill_8 : Nat → Int32) => wp_X12_unwrite zdogs zlikes_5 zisTold (fun (zlikes_10 : Nat → Int32) => ((¬ a1 = (-1 : Int32) → ((x3_2 < 0 → post (-6 : Int32) zatLeft_3 zatRight_4 zlikes_10 zorder_6 zwent_7 zfill_8) ∧ (¬ x3_2 < 0 → wp_X12_opens zdogs zisTold (fun (r_11 : Int32) => wp_X12_in a1 (0 : Int32) (r_11 - (1 : Int32)) (fun (r_12 : Int32) => ((¬ r_12 = 0 → wp_X12_opens zdogs zisTold (fun (r_13 : Int32) => jn (fun (x4_14 : Int32) => post (x4_14 - x4_14 / (19 : Int32) * (19 : Int32)) zatLeft_3 zatRight_4 zlikes_10 zorder_6 zwent_7 zfill_8) (fun (J108 : Int32 → Prop) => lo (fun _ _ => False) (fun (G89 : Int32 → Int32 → Prop) (x4_15 : Int32) (x5_16 : Int32) => ((x5_16 ≤ a1 → J108 x4_15) ∧ (¬ x5_16 ≤ a1 → G89 (x4_15 / (19 : Int32)) (x5_16 + (-1 : Int32))))) (fun G89 => G89 x3_2 (r_13 - (1 : Int32)))))) ∧ (r_12 = 0 → post (-6 : Int32) zatLeft_3 zatRight_4 zlikes_10 zorder_6 zwent_7 zfill_8))))))) ∧ (a1 = (-1 : Int32) → post x2_1 zatLeft_3 zatRight_4 zlikes_10 zorder_6 zwent_7 zfill_8)))) (fun (J46 : Int32 → Int32 → Int32 → Int32 → (Nat → Int32) → (Nat → Int32) → (Nat → Int32) → (Nat → Int32) → Prop) => lo (fun _ _ _ _ _ _ _ _ _ => False) (fun (G8 : Int32 → Int32 → Int32 → Int32 → Int32 → (Nat → Int32) → (Nat → Int32) → (Nat → Int32) → (Nat → Int32) → Prop) (x2_17 : Int32) (x3_18 : Int32) (x4_19 : Int32) (zatLeft_20 : Int32) (zatRight_21 : Int32) (zlikes_22 : Nat → Int32) (zorder_23 : Nat → Int32) (zwent_24 : Nat → Int32) (zfill_25 : Nat → Int32) => wp_X12_codes zdogs zisTold (fun (r_26 : Int32) => ((r_26 ≤ x4_19 → J46 x2_17 x3_18 zatLeft_20 zatRight_21 zlikes_22 zorder_23 zwent_24 zfill_25) ∧ (¬ r_26 ≤ x4_19 → wp_X12_write zdogs zhungry zcounts zatLeft_20 zatRight_21 zhalves zlikes_22 zisTold zfears zcount zorder_23 zwent_24 zfill_25 x4_19 (fun (r_27 : Int32) (zatLeft_28 : Int32) (zatRight_29 : Int32) (zlikes_30 : Nat → Int32) (zorder_31 : Nat → Int32) (zwent_32 : Nat → Int32) (zfill_33 : Nat → Int32) => ((r_27 = 0 → G8 x2_17 x3_18 (x4_19 + (1 : Int32)) zatLeft_28 zatRight_29 zlikes_30 zorder_31 zwent_32 zfill_33) ∧ (¬ r_27 = 0 → jn (fun (t_34 : Int32) => G8 (x2_17 + (1 : Int32)) t_34 (x4_19 + (1 : Int32)) zatLeft_28 zatRight_29 zlikes_30 zorder_31 zwent_32 zfill_33) (fun (J36 : Int32 → Prop) => ((0 ≤ x3_18 → J36 x3_18) ∧ (¬ 0 ≤ x3_18 → J36 x4_19)))))))))) (fun G8 => G8 (0 : Int32) (-6 : Int32) (0 : Int32) zatLeft zatRight zlikes zorder zwent zfill))
set_option maxHeartbeats 4000000 in
set_option maxRecDepth 100000 in
theorem c_X12_fits (l : Launch) (D : va_G) (ci cz : ClassId) (tr : List (ClassId × FieldType)) (q0 q1 q2 q3 q4 q5 q6 q7 q8 : Nat) (sz : Nat) (u0 u1 u2 u3 u4 u5 u6 u7 u8 u9 : Value) (zdogs : Int32) (zhungry : Int32) (zcounts : Int32) (zatLeft : Int32) (zatRight : Int32) (zhalves : Nat → Int32) (zlikes : Nat → Int32) (zisTold : Nat → Int32) (zfears : Nat → Int32) (zcount : Nat → Int32) (zorder : Nat → Int32) (zwent : Nat → Int32) (zfill : Nat → Int32) (a1 : Int32) (post : Int32 → Int32 → Int32 → (Nat → Int32) → (Nat → Int32) → (Nat → Int32) → (Nat → Int32) → Prop) (hw : wp_X12_fits zdogs zhungry zcounts zatLeft zatRight zhalves zlikes zisTold zfears zcount zorder zwent zfill a1 post) : gM l yX12_fits cX12_fits 6 (some .int) 5 119 D ci cz tr [(q0, .inr (11, [.int zdogs, .ref q1, .ref q2, .ref q3, .ref q4, u0, .int zhungry, .int zcounts, .ref q5, u1, u2, u3, u4, .ref q6, .ref q7, .ref q8, .int zatLeft, .int zatRight, u5, u6, u7, u8, u9])), (q1, .inl (ci, 7, .inl zhalves)), (q2, .inl (ci, 7, .inl zlikes)), (q3, .inl (cz, 7, .inl zisTold)), (q4, .inl (ci, 7, .inl zfears)), (q5, .inl (ci, 18, .inl zcount)), (q6, .inl (ci, 7, .inl zorder)), (q7, .inl (ci, 7, .inl zwent)), (q8, .inl (ci, 7, .inl zfill))] sz [.ref q0, .int a1] (gQi D [(q0, .inr (11, [.int zdogs, .ref q1, .ref q2, .ref q3, .ref q4, u0, .int zhungry, .int zcounts, .ref q5, u1, u2, u3, u4, .ref q6, .ref q7, .ref q8, .int zatLeft, .int zatRight, u5, u6, u7, u8, u9])), (q1, .inl (ci, 7, .inl zhalves)), (q2, .inl (ci, 7, .inl zlikes)), (q3, .inl (cz, 7, .inl zisTold)), (q4, .inl (ci, 7, .inl zfears)), (q5, .inl (ci, 18, .inl zcount)), (q6, .inl (ci, 7, .inl zorder)), (q7, .inl (ci, 7, .inl zwent)), (q8, .inl (ci, 7, .inl zfill))] sz (fun (r : Int32) w => ∃ (o_zatLeft : Int32) (o_zatRight : Int32) (o_zlikes : Nat → Int32) (o_zorder : Nat → Int32) (o_zwent : Nat → Int32) (o_zfill : Nat → Int32), w = [(q0, .inr (11, [.int zdogs, .ref q1, .ref q2, .ref q3, .ref q4, u0, .int zhungry, .int zcounts, .ref q5, u1, u2, u3, u4, .ref q6, .ref q7, .ref q8, .int o_zatLeft, .int o_zatRight, u5, u6, u7, u8, u9])), (q1, .inl (ci, 7, .inl zhalves)), (q2, .inl (ci, 7, .inl o_zlikes)), (q3, .inl (cz, 7, .inl zisTold)), (q4, .inl (ci, 7, .inl zfears)), (q5, .inl (ci, 18, .inl zcount)), (q6, .inl (ci, 7, .inl o_zorder)), (q7, .inl (ci, 7, .inl o_zwent)), (q8, .inl (ci, 7, .inl o_zfill))] ∧ post r o_zatLeft o_zatRight o_zlikes o_zorder o_zwent o_zfill)) := by
  refine gmet_i RX12 (by decide +kernel) rfl (Nat.le_of_ble_eq_true rfl) ?_
  intro p e s m args below meth c A R Q C hfr hlc hP hD hret ls hl
  obtain ⟨hx, hb, hml, hown, ht, hK, hZ, hA⟩ := C
  have hl : lv_has ls 6 [(0, .ref q0), (1, .int a1)] := hl
  unfold wp_X12_fits at hw
  refine g_in (fun H locs => W p l e R s m args below meth c H locs 0 0 Q (F0 m 0 ls [])) (fun H locs hS0 hP => ?_) hP (va_S.rf (A := A) (H0 := s.heap))
  have hS : va_S A s.heap H locs := hS0
  clear hS0
  refine lv_iconst (v := (0 : Int32)) hx hb dX12_fits_0 (by decide) ?_
  refine lv_istore_n (lv' := [(2, .int (0 : Int32)), (0, .ref q0), (1, .int a1)]) hx hb dX12_fits_1 rfl hl (by decide) rfl (fun ls hl => ?_)
  refine lv_bipush (v := (-6 : Int32)) hx hb dX12_fits_2 (by decide) ?_
  refine lv_istore_n (lv' := [(3, .int (-6 : Int32)), (2, .int (0 : Int32)), (0, .ref q0), (1, .int a1)]) hx hb dX12_fits_4 rfl hl (by decide) rfl (fun ls hl => ?_)
  refine lv_iconst (v := (0 : Int32)) hx hb dX12_fits_5 (by decide) ?_
  refine lv_istore (lv' := [(4, .int (0 : Int32)), (3, .int (-6 : Int32)), (2, .int (0 : Int32)), (0, .ref q0), (1, .int a1)]) hx hb dX12_fits_6 hl (by decide) rfl (fun ls hl => ?_)
  refine jn_walk hw (fun J46 => ∀ (x2_1 : Int32) (x3_2 : Int32) (zatLeft_3 : Int32) (zatRight_4 : Int32) (zlikes_5 : Nat → Int32) (zorder_6 : Nat → Int32) (zwent_7 : Nat → Int32) (zfill_8 : Nat → Int32) (H : Heap) (locs : List Loc) (ls : Array Slot), J46 x2_1 x3_2 zatLeft_3 zatRight_4 zlikes_5 zorder_6 zwent_7 zfill_8 → va_P D vwCl [(q0, .inr (11, [.int zdogs, .ref q1, .ref q2, .ref q3, .ref q4, u0, .int zhungry, .int zcounts, .ref q5, u1, u2, u3, u4, .ref q6, .ref q7, .ref q8, .int zatLeft_3, .int zatRight_4, u5, u6, u7, u8, u9])), (q1, .inl (ci, 7, .inl zhalves)), (q2, .inl (ci, 7, .inl zlikes_5)), (q3, .inl (cz, 7, .inl zisTold)), (q4, .inl (ci, 7, .inl zfears)), (q5, .inl (ci, 18, .inl zcount)), (q6, .inl (ci, 7, .inl zorder_6)), (q7, .inl (ci, 7, .inl zwent_7)), (q8, .inl (ci, 7, .inl zfill_8))] H → va_S A s.heap H locs → lv_has ls 6 [(0, .ref q0), (1, .int a1), (2, .int x2_1), (3, .int x3_2)] → W p l e R s m args below meth c H locs 0 0 Q (F0 m 46 ls [])) ?_ ?_
  · intro x2_1 x3_2 zatLeft_3 zatRight_4 zlikes_5 zorder_6 zwent_7 zfill_8 H locs ls hw hP hS hl
    have hD : va_D A [(q0, .inr (11, [.int zdogs, .ref q1, .ref q2, .ref q3, .ref q4, u0, .int zhungry, .int zcounts, .ref q5, u1, u2, u3, u4, .ref q6, .ref q7, .ref q8, .int zatLeft_3, .int zatRight_4, u5, u6, u7, u8, u9])), (q1, .inl (ci, 7, .inl zhalves)), (q2, .inl (ci, 7, .inl zlikes_5)), (q3, .inl (cz, 7, .inl zisTold)), (q4, .inl (ci, 7, .inl zfears)), (q5, .inl (ci, 18, .inl zcount)), (q6, .inl (ci, 7, .inl zorder_6)), (q7, .inl (ci, 7, .inl zwent_7)), (q8, .inl (ci, 7, .inl zfill_8))] := gD_re hD rfl
    refine lv_aload_n hx hb dX12_fits_46 rfl (lv_at hl 0 rfl) ?_
    refine gcallv (va_runV (As := []) (rest := []) ⟨hx, hb, hml, hown, ht⟩ (c_X12_unwrite l D ci cz tr q0 q2 q3 H.size (.ref q1) (.ref q4) u0 (.int zhungry) (.int zcounts) (.ref q5) u1 u2 u3 u4 (.ref q6) (.ref q7) (.ref q8) (.int zatLeft_3) (.int zatRight_4) u5 u6 u7 u8 u9 zdogs zlikes_5 zisTold _ hw) (cwV 0 ht (gi_V mM_X12_162 mI_X12_unwrite mS_X12_unwrite mN_X12 mC_X12_unwrite) rfl rfl rfl (by decide +kernel) ⟨Nat.le_trans (Nat.le_of_ble_eq_true rfl) hfr, Nat.le_trans (Nat.le_of_ble_eq_true rfl) hlc⟩) (gpreV (wc := [(q0, .inr (11, [.int zdogs, .ref q1, .ref q2, .ref q3, .ref q4, u0, .int zhungry, .int zcounts, .ref q5, u1, u2, u3, u4, .ref q6, .ref q7, .ref q8, .int zatLeft_3, .int zatRight_4, u5, u6, u7, u8, u9])), (q2, .inl (ci, 7, .inl zlikes_5)), (q3, .inl (cz, 7, .inl zisTold))]) (k := 11) (q0 := 0) hK hZ hP hD hS hA [0, 2, 3] rfl rfl rfl rfl rfl) rfl rfl hl.1 rfl (lv_room (Nat.le_of_ble_eq_true rfl)) dX12_fits_47 ⟨Nat.zero_le _, Nat.zero_le _⟩) hD hS hA [0, 2, 3] rfl (fun w9 H locs hw hP9 hk9 hS => ?_)
    obtain ⟨zlikes_10, rfl, hw⟩ := hw
    have hP : va_P D vwCl [(q0, .inr (11, [.int zdogs, .ref q1, .ref q2, .ref q3, .ref q4, u0, .int zhungry, .int zcounts, .ref q5, u1, u2, u3, u4, .ref q6, .ref q7, .ref q8, .int zatLeft_3, .int zatRight_4, u5, u6, u7, u8, u9])), (q1, .inl (ci, 7, .inl zhalves)), (q2, .inl (ci, 7, .inl zlikes_10)), (q3, .inl (cz, 7, .inl zisTold)), (q4, .inl (ci, 7, .inl zfears)), (q5, .inl (ci, 18, .inl zcount)), (q6, .inl (ci, 7, .inl zorder_6)), (q7, .inl (ci, 7, .inl zwent_7)), (q8, .inl (ci, 7, .inl zfill_8))] H := gjoin3 hP hD [0, 2, 3] hP9 hk9 rfl rfl [some 0, none, some 1, some 2, none, none, none, none, none] rfl rfl
    have hD : va_D A [(q0, .inr (11, [.int zdogs, .ref q1, .ref q2, .ref q3, .ref q4, u0, .int zhungry, .int zcounts, .ref q5, u1, u2, u3, u4, .ref q6, .ref q7, .ref q8, .int zatLeft_3, .int zatRight_4, u5, u6, u7, u8, u9])), (q1, .inl (ci, 7, .inl zhalves)), (q2, .inl (ci, 7, .inl zlikes_10)), (q3, .inl (cz, 7, .inl zisTold)), (q4, .inl (ci, 7, .inl zfears)), (q5, .inl (ci, 18, .inl zcount)), (q6, .inl (ci, 7, .inl zorder_6)), (q7, .inl (ci, 7, .inl zwent_7)), (q8, .inl (ci, 7, .inl zfill_8))] := gD_re hD rfl
    clear hP9 hk9
    refine lv_iload_n hx hb dX12_fits_50 rfl (lv_at hl 1 rfl) ?_
    refine lv_iconst (v := (-1 : Int32)) hx hb dX12_fits_51 (by decide) ?_
    refine lv_icmp_ne (tgt := 57) hx hb dX12_fits_52 (by decide) (fun hc => ?_) (fun hc => ?_)
    · have hw := hw.1 hc
      refine lv_iload_n hx hb dX12_fits_57 rfl (lv_at hl 3 rfl) ?_
      refine lv_if_lt (tgt := 75) hx hb dX12_fits_58 (by decide) (fun hc => ?_) (fun hc => ?_)
      · have hw := hw.1 hc
        refine lv_bipush (v := (-6 : Int32)) hx hb dX12_fits_75 (by decide) ?_
        exact hret _ _ H locs _ _ ⟨_, _, _, _, _, _, rfl, hw⟩ hP hS dX12_fits_77
      · have hw := hw.2 hc
        refine lv_iload_n hx hb dX12_fits_61 rfl (lv_at hl 1 rfl) ?_
        refine lv_iconst (v := (0 : Int32)) hx hb dX12_fits_62 (by decide) ?_
        refine lv_aload_n hx hb dX12_fits_63 rfl (lv_at hl 0 rfl) ?_
        refine gcalli (va_runV (As := []) (rest := [.int (0 : Int32), .int a1]) ⟨hx, hb, hml, hown, ht⟩ (c_X12_opens l D ci cz tr q0 q3 H.size (.ref q1) (.ref q2) (.ref q4) u0 (.int zhungry) (.int zcounts) (.ref q5) u1 u2 u3 u4 (.ref q6) (.ref q7) (.ref q8) (.int zatLeft_3) (.int zatRight_4) u5 u6 u7 u8 u9 zdogs zisTold _ hw) (cwV 0 ht (gi_V mM_X12_153 mI_X12_opens mS_X12_opens mN_X12 mC_X12_opens) rfl rfl rfl (by decide +kernel) ⟨Nat.le_trans (Nat.le_of_ble_eq_true rfl) hfr, Nat.le_trans (Nat.le_of_ble_eq_true rfl) hlc⟩) (gpreV (wc := [(q0, .inr (11, [.int zdogs, .ref q1, .ref q2, .ref q3, .ref q4, u0, .int zhungry, .int zcounts, .ref q5, u1, u2, u3, u4, .ref q6, .ref q7, .ref q8, .int zatLeft_3, .int zatRight_4, u5, u6, u7, u8, u9])), (q3, .inl (cz, 7, .inl zisTold))]) (k := 11) (q0 := 0) hK hZ hP hD hS hA [0, 3] rfl rfl rfl rfl rfl) rfl rfl hl.1 rfl (lv_room (Nat.le_of_ble_eq_true rfl)) dX12_fits_64 ⟨Nat.zero_le _, Nat.zero_le _⟩) hD hS hA [0, 3] rfl (fun r_11 w9 H locs hw hP9 hk9 hS => ?_)
        obtain ⟨rfl, hw⟩ := hw
        have hP : va_P D vwCl [(q0, .inr (11, [.int zdogs, .ref q1, .ref q2, .ref q3, .ref q4, u0, .int zhungry, .int zcounts, .ref q5, u1, u2, u3, u4, .ref q6, .ref q7, .ref q8, .int zatLeft_3, .int zatRight_4, u5, u6, u7, u8, u9])), (q1, .inl (ci, 7, .inl zhalves)), (q2, .inl (ci, 7, .inl zlikes_10)), (q3, .inl (cz, 7, .inl zisTold)), (q4, .inl (ci, 7, .inl zfears)), (q5, .inl (ci, 18, .inl zcount)), (q6, .inl (ci, 7, .inl zorder_6)), (q7, .inl (ci, 7, .inl zwent_7)), (q8, .inl (ci, 7, .inl zfill_8))] H := gjoin3 hP hD [0, 3] hP9 hk9 rfl rfl [some 0, none, none, some 1, none, none, none, none, none] rfl rfl
        clear hP9 hk9
        refine lv_iconst (v := (1 : Int32)) hx hb dX12_fits_67 (by decide) ?_
        refine lv_isub hx hb dX12_fits_68 ?_
        refine gcalli (va_runS (As := [.int a1, .int (0 : Int32), .int (r_11 - (1 : Int32))]) (rest := []) ⟨hx, hb, hml, hown, ht⟩ (c_X12_in l D ci cz tr  H.size a1 (0 : Int32) (r_11 - (1 : Int32)) _ hw) (va_cwS 3 ht (gi_S mM_X12_66 mT_X12_in mN_X12 mC_X12_in) rfl rfl rfl (by decide +kernel) ⟨Nat.le_trans (Nat.le_of_ble_eq_true rfl) hfr, Nat.le_trans (Nat.le_of_ble_eq_true rfl) hlc⟩) (gpre (wc := []) hK hZ hP hD hS hA [] rfl rfl) rfl rfl hl.1 rfl (lv_room (Nat.le_of_ble_eq_true rfl)) dX12_fits_69 ⟨Nat.zero_le _, Nat.zero_le _⟩) hD hS hA [] rfl (fun r_12 w9 H locs hw hP9 hk9 hS => ?_)
        obtain ⟨rfl, hw⟩ := hw
        have hP : va_P D vwCl [(q0, .inr (11, [.int zdogs, .ref q1, .ref q2, .ref q3, .ref q4, u0, .int zhungry, .int zcounts, .ref q5, u1, u2, u3, u4, .ref q6, .ref q7, .ref q8, .int zatLeft_3, .int zatRight_4, u5, u6, u7, u8, u9])), (q1, .inl (ci, 7, .inl zhalves)), (q2, .inl (ci, 7, .inl zlikes_10)), (q3, .inl (cz, 7, .inl zisTold)), (q4, .inl (ci, 7, .inl zfears)), (q5, .inl (ci, 18, .inl zcount)), (q6, .inl (ci, 7, .inl zorder_6)), (q7, .inl (ci, 7, .inl zwent_7)), (q8, .inl (ci, 7, .inl zfill_8))] H := gjoin3 hP hD [] hP9 hk9 rfl rfl [none, none, none, none, none, none, none, none, none] rfl rfl
        clear hP9 hk9
        refine lv_if_ne (tgt := 78) hx hb dX12_fits_72 (by decide) (fun hc => ?_) (fun hc => ?_)
        · have hw := hw.1 hc
          refine lv_iload_n hx hb dX12_fits_78 rfl (lv_at hl 3 rfl) ?_
          refine lv_istore (lv' := [(4, .int x3_2), (0, .ref q0), (1, .int a1), (2, .int x2_1), (3, .int x3_2)]) hx hb dX12_fits_79 hl (by decide) rfl (fun ls hl => ?_)
          refine lv_aload_n hx hb dX12_fits_81 rfl (lv_at hl 1 rfl) ?_
          refine gcalli (va_runV (As := []) (rest := []) ⟨hx, hb, hml, hown, ht⟩ (c_X12_opens l D ci cz tr q0 q3 H.size (.ref q1) (.ref q2) (.ref q4) u0 (.int zhungry) (.int zcounts) (.ref q5) u1 u2 u3 u4 (.ref q6) (.ref q7) (.ref q8) (.int zatLeft_3) (.int zatRight_4) u5 u6 u7 u8 u9 zdogs zisTold _ hw) (cwV 0 ht (gi_V mM_X12_153 mI_X12_opens mS_X12_opens mN_X12 mC_X12_opens) rfl rfl rfl (by decide +kernel) ⟨Nat.le_trans (Nat.le_of_ble_eq_true rfl) hfr, Nat.le_trans (Nat.le_of_ble_eq_true rfl) hlc⟩) (gpreV (wc := [(q0, .inr (11, [.int zdogs, .ref q1, .ref q2, .ref q3, .ref q4, u0, .int zhungry, .int zcounts, .ref q5, u1, u2, u3, u4, .ref q6, .ref q7, .ref q8, .int zatLeft_3, .int zatRight_4, u5, u6, u7, u8, u9])), (q3, .inl (cz, 7, .inl zisTold))]) (k := 11) (q0 := 0) hK hZ hP hD hS hA [0, 3] rfl rfl rfl rfl rfl) rfl rfl hl.1 rfl (lv_room (Nat.le_of_ble_eq_true rfl)) dX12_fits_82 ⟨Nat.zero_le _, Nat.zero_le _⟩) hD hS hA [0, 3] rfl (fun r_13 w9 H locs hw hP9 hk9 hS => ?_)
          obtain ⟨rfl, hw⟩ := hw
          have hP : va_P D vwCl [(q0, .inr (11, [.int zdogs, .ref q1, .ref q2, .ref q3, .ref q4, u0, .int zhungry, .int zcounts, .ref q5, u1, u2, u3, u4, .ref q6, .ref q7, .ref q8, .int zatLeft_3, .int zatRight_4, u5, u6, u7, u8, u9])), (q1, .inl (ci, 7, .inl zhalves)), (q2, .inl (ci, 7, .inl zlikes_10)), (q3, .inl (cz, 7, .inl zisTold)), (q4, .inl (ci, 7, .inl zfears)), (q5, .inl (ci, 18, .inl zcount)), (q6, .inl (ci, 7, .inl zorder_6)), (q7, .inl (ci, 7, .inl zwent_7)), (q8, .inl (ci, 7, .inl zfill_8))] H := gjoin3 hP hD [0, 3] hP9 hk9 rfl rfl [some 0, none, none, some 1, none, none, none, none, none] rfl rfl
          clear hP9 hk9
          refine lv_iconst (v := (1 : Int32)) hx hb dX12_fits_85 (by decide) ?_
          refine lv_isub hx hb dX12_fits_86 ?_
          refine lv_istore (lv' := [(5, .int (r_13 - (1 : Int32))), (4, .int x3_2), (0, .ref q0), (1, .int a1), (2, .int x2_1), (3, .int x3_2)]) hx hb dX12_fits_87 hl (by decide) rfl (fun ls hl => ?_)
          refine jn_walk hw (fun J108 => ∀ (x4_14 : Int32) (H : Heap) (locs : List Loc) (ls : Array Slot), J108 x4_14 → va_P D vwCl [(q0, .inr (11, [.int zdogs, .ref q1, .ref q2, .ref q3, .ref q4, u0, .int zhungry, .int zcounts, .ref q5, u1, u2, u3, u4, .ref q6, .ref q7, .ref q8, .int zatLeft_3, .int zatRight_4, u5, u6, u7, u8, u9])), (q1, .inl (ci, 7, .inl zhalves)), (q2, .inl (ci, 7, .inl zlikes_10)), (q3, .inl (cz, 7, .inl zisTold)), (q4, .inl (ci, 7, .inl zfears)), (q5, .inl (ci, 18, .inl zcount)), (q6, .inl (ci, 7, .inl zorder_6)), (q7, .inl (ci, 7, .inl zwent_7)), (q8, .inl (ci, 7, .inl zfill_8))] H → va_S A s.heap H locs → lv_has ls 6 [(4, .int x4_14)] → W p l e R s m args below meth c H locs 0 0 Q (F0 m 108 ls [])) ?_ ?_
          · intro x4_14 H locs ls hw hP hS hl
            have hD : va_D A [(q0, .inr (11, [.int zdogs, .ref q1, .ref q2, .ref q3, .ref q4, u0, .int zhungry, .int zcounts, .ref q5, u1, u2, u3, u4, .ref q6, .ref q7, .ref q8, .int zatLeft_3, .int zatRight_4, u5, u6, u7, u8, u9])), (q1, .inl (ci, 7, .inl zhalves)), (q2, .inl (ci, 7, .inl zlikes_10)), (q3, .inl (cz, 7, .inl zisTold)), (q4, .inl (ci, 7, .inl zfears)), (q5, .inl (ci, 18, .inl zcount)), (q6, .inl (ci, 7, .inl zorder_6)), (q7, .inl (ci, 7, .inl zwent_7)), (q8, .inl (ci, 7, .inl zfill_8))] := gD_re hD rfl
            refine lv_iload hx hb dX12_fits_108 (lv_at hl 0 rfl) ?_
            refine lv_bipush (v := (19 : Int32)) hx hb dX12_fits_110 (by decide) ?_
            refine lv_irem hx hb dX12_fits_112 (by decide) ?_
            exact hret _ _ H locs _ _ ⟨_, _, _, _, _, _, rfl, hw⟩ hP hS dX12_fits_113
          · intro J108 hJ108 hw
            refine lo_walk hw (fun G89 => ∀ (x4_15 : Int32) (x5_16 : Int32) (H : Heap) (locs : List Loc) (ls : Array Slot), G89 x4_15 x5_16 → va_P D vwCl [(q0, .inr (11, [.int zdogs, .ref q1, .ref q2, .ref q3, .ref q4, u0, .int zhungry, .int zcounts, .ref q5, u1, u2, u3, u4, .ref q6, .ref q7, .ref q8, .int zatLeft_3, .int zatRight_4, u5, u6, u7, u8, u9])), (q1, .inl (ci, 7, .inl zhalves)), (q2, .inl (ci, 7, .inl zlikes_10)), (q3, .inl (cz, 7, .inl zisTold)), (q4, .inl (ci, 7, .inl zfears)), (q5, .inl (ci, 18, .inl zcount)), (q6, .inl (ci, 7, .inl zorder_6)), (q7, .inl (ci, 7, .inl zwent_7)), (q8, .inl (ci, 7, .inl zfill_8))] H → va_S A s.heap H locs → lv_has ls 6 [(1, .int a1), (4, .int x4_15), (5, .int x5_16)] → W p l e R s m args below meth c H locs 0 0 Q (F0 m 89 ls [])) (fun _ _ _ _ _ hw _ _ _ => False.elim hw) (fun G89 hG89 x4_15 x5_16 H locs ls hw hP hS hl => ?_) (fun G89 hG89 hw => hG89 _ _ H locs ls hw hP hS (lv_sub hl [3, 1, 0] rfl))
            have hD : va_D A [(q0, .inr (11, [.int zdogs, .ref q1, .ref q2, .ref q3, .ref q4, u0, .int zhungry, .int zcounts, .ref q5, u1, u2, u3, u4, .ref q6, .ref q7, .ref q8, .int zatLeft_3, .int zatRight_4, u5, u6, u7, u8, u9])), (q1, .inl (ci, 7, .inl zhalves)), (q2, .inl (ci, 7, .inl zlikes_10)), (q3, .inl (cz, 7, .inl zisTold)), (q4, .inl (ci, 7, .inl zfears)), (q5, .inl (ci, 18, .inl zcount)), (q6, .inl (ci, 7, .inl zorder_6)), (q7, .inl (ci, 7, .inl zwent_7)), (q8, .inl (ci, 7, .inl zfill_8))] := gD_re hD rfl
            refine lv_iload hx hb dX12_fits_89 (lv_at hl 2 rfl) ?_
            refine lv_iload_n hx hb dX12_fits_91 rfl (lv_at hl 0 rfl) ?_
            refine lv_icmp_le (tgt := 108) hx hb dX12_fits_92 (by decide) (fun hc => ?_) (fun hc => ?_)
            · have hw := hw.1 hc
              exact hJ108 _ H locs ls hw hP hS (lv_sub hl [1] rfl)
            · have hw := hw.2 hc
              refine lv_iload hx hb dX12_fits_95 (lv_at hl 1 rfl) ?_
              refine lv_bipush (v := (19 : Int32)) hx hb dX12_fits_97 (by decide) ?_
              refine lv_idiv hx hb dX12_fits_99 (by decide) ?_
              refine lv_istore (lv' := [(4, .int (x4_15 / (19 : Int32))), (1, .int a1), (5, .int x5_16)]) hx hb dX12_fits_100 hl (by decide) rfl (fun ls hl => ?_)
              refine lv_iinc (v := (x5_16 + (-1 : Int32))) (lv' := [(5, .int (x5_16 + (-1 : Int32))), (4, .int (x4_15 / (19 : Int32))), (1, .int a1)]) hx hb dX12_fits_102 hl (k := 2) rfl rfl (by decide) rfl (fun ls hl => ?_)
              refine lv_goto (tgt := 89) hx hb dX12_fits_105 (by decide) ?_
              exact hG89 _ _ H locs ls hw hP hS (lv_sub hl [2, 1, 0] rfl)
        · have hw := hw.2 hc
          refine lv_bipush (v := (-6 : Int32)) hx hb dX12_fits_75 (by decide) ?_
          exact hret _ _ H locs _ _ ⟨_, _, _, _, _, _, rfl, hw⟩ hP hS dX12_fits_77
    · have hw := hw.2 hc
      refine lv_iload_n hx hb dX12_fits_55 rfl (lv_at hl 2 rfl) ?_
      exact hret _ _ H locs _ _ ⟨_, _, _, _, _, _, rfl, hw⟩ hP hS dX12_fits_56
  · intro J46 hJ46 hw
    refine lo_walk hw (fun G8 => ∀ (x2_17 : Int32) (x3_18 : Int32) (x4_19 : Int32) (zatLeft_20 : Int32) (zatRight_21 : Int32) (zlikes_22 : Nat → Int32) (zorder_23 : Nat → Int32) (zwent_24 : Nat → Int32) (zfill_25 : Nat → Int32) (H : Heap) (locs : List Loc) (ls : Array Slot), G8 x2_17 x3_18 x4_19 zatLeft_20 zatRight_21 zlikes_22 zorder_23 zwent_24 zfill_25 → va_P D vwCl [(q0, .inr (11, [.int zdogs, .ref q1, .ref q2, .ref q3, .ref q4, u0, .int zhungry, .int zcounts, .ref q5, u1, u2, u3, u4, .ref q6, .ref q7, .ref q8, .int zatLeft_20, .int zatRight_21, u5, u6, u7, u8, u9])), (q1, .inl (ci, 7, .inl zhalves)), (q2, .inl (ci, 7, .inl zlikes_22)), (q3, .inl (cz, 7, .inl zisTold)), (q4, .inl (ci, 7, .inl zfears)), (q5, .inl (ci, 18, .inl zcount)), (q6, .inl (ci, 7, .inl zorder_23)), (q7, .inl (ci, 7, .inl zwent_24)), (q8, .inl (ci, 7, .inl zfill_25))] H → va_S A s.heap H locs → lv_has ls 6 [(0, .ref q0), (1, .int a1), (2, .int x2_17), (3, .int x3_18), (4, .int x4_19)] → W p l e R s m args below meth c H locs 0 0 Q (F0 m 8 ls [])) (fun _ _ _ _ _ _ _ _ _ _ _ _ hw _ _ _ => False.elim hw) (fun G8 hG8 x2_17 x3_18 x4_19 zatLeft_20 zatRight_21 zlikes_22 zorder_23 zwent_24 zfill_25 H locs ls hw hP hS hl => ?_) (fun G8 hG8 hw => hG8 _ _ _ _ _ _ _ _ _ H locs ls hw hP hS (lv_sub hl [3, 4, 2, 1, 0] rfl))
    have hD : va_D A [(q0, .inr (11, [.int zdogs, .ref q1, .ref q2, .ref q3, .ref q4, u0, .int zhungry, .int zcounts, .ref q5, u1, u2, u3, u4, .ref q6, .ref q7, .ref q8, .int zatLeft_20, .int zatRight_21, u5, u6, u7, u8, u9])), (q1, .inl (ci, 7, .inl zhalves)), (q2, .inl (ci, 7, .inl zlikes_22)), (q3, .inl (cz, 7, .inl zisTold)), (q4, .inl (ci, 7, .inl zfears)), (q5, .inl (ci, 18, .inl zcount)), (q6, .inl (ci, 7, .inl zorder_23)), (q7, .inl (ci, 7, .inl zwent_24)), (q8, .inl (ci, 7, .inl zfill_25))] := gD_re hD rfl
    refine lv_iload hx hb dX12_fits_8 (lv_at hl 4 rfl) ?_
    refine lv_aload_n hx hb dX12_fits_10 rfl (lv_at hl 0 rfl) ?_
    refine gcalli (va_runV (As := []) (rest := [.int x4_19]) ⟨hx, hb, hml, hown, ht⟩ (c_X12_codes l D ci cz tr q0 q3 H.size (.ref q1) (.ref q2) (.ref q4) u0 (.int zhungry) (.int zcounts) (.ref q5) u1 u2 u3 u4 (.ref q6) (.ref q7) (.ref q8) (.int zatLeft_20) (.int zatRight_21) u5 u6 u7 u8 u9 zdogs zisTold _ hw) (cwV 0 ht (gi_V mM_X12_156 mI_X12_codes mS_X12_codes mN_X12 mC_X12_codes) rfl rfl rfl (by decide +kernel) ⟨Nat.le_trans (Nat.le_of_ble_eq_true rfl) hfr, Nat.le_trans (Nat.le_of_ble_eq_true rfl) hlc⟩) (gpreV (wc := [(q0, .inr (11, [.int zdogs, .ref q1, .ref q2, .ref q3, .ref q4, u0, .int zhungry, .int zcounts, .ref q5, u1, u2, u3, u4, .ref q6, .ref q7, .ref q8, .int zatLeft_20, .int zatRight_21, u5, u6, u7, u8, u9])), (q3, .inl (cz, 7, .inl zisTold))]) (k := 11) (q0 := 0) hK hZ hP hD hS hA [0, 3] rfl rfl rfl rfl rfl) rfl rfl hl.1 rfl (lv_room (Nat.le_of_ble_eq_true rfl)) dX12_fits_11 ⟨Nat.zero_le _, Nat.zero_le _⟩) hD hS hA [0, 3] rfl (fun r_26 w9 H locs hw hP9 hk9 hS => ?_)
    obtain ⟨rfl, hw⟩ := hw
    have hP : va_P D vwCl [(q0, .inr (11, [.int zdogs, .ref q1, .ref q2, .ref q3, .ref q4, u0, .int zhungry, .int zcounts, .ref q5, u1, u2, u3, u4, .ref q6, .ref q7, .ref q8, .int zatLeft_20, .int zatRight_21, u5, u6, u7, u8, u9])), (q1, .inl (ci, 7, .inl zhalves)), (q2, .inl (ci, 7, .inl zlikes_22)), (q3, .inl (cz, 7, .inl zisTold)), (q4, .inl (ci, 7, .inl zfears)), (q5, .inl (ci, 18, .inl zcount)), (q6, .inl (ci, 7, .inl zorder_23)), (q7, .inl (ci, 7, .inl zwent_24)), (q8, .inl (ci, 7, .inl zfill_25))] H := gjoin3 hP hD [0, 3] hP9 hk9 rfl rfl [some 0, none, none, some 1, none, none, none, none, none] rfl rfl
    clear hP9 hk9
    refine lv_icmp_ge (tgt := 46) hx hb dX12_fits_14 (by decide) (fun hc => ?_) (fun hc => ?_)
    · have hw := hw.1 hc
      exact hJ46 _ _ _ _ _ _ _ _ H locs ls hw hP hS (lv_sub hl [0, 1, 2, 3] rfl)
    · have hw := hw.2 hc
      refine lv_aload_n hx hb dX12_fits_17 rfl (lv_at hl 0 rfl) ?_
      refine lv_iload hx hb dX12_fits_18 (lv_at hl 4 rfl) ?_
      refine gcalli (va_runV (As := [.int x4_19]) (rest := []) ⟨hx, hb, hml, hown, ht⟩ (c_X12_write l D ci cz tr q0 q1 q2 q3 q4 q5 q6 q7 q8 H.size u0 u1 u2 u3 u4 u5 u6 u7 u8 u9 zdogs zhungry zcounts zatLeft_20 zatRight_21 zhalves zlikes_22 zisTold zfears zcount zorder_23 zwent_24 zfill_25 x4_19 _ hw) (cwV 1 ht (gi_V mM_X12_159 mI_X12_write mS_X12_write mN_X12 mC_X12_write) rfl rfl rfl (by decide +kernel) ⟨Nat.le_trans (Nat.le_of_ble_eq_true rfl) hfr, Nat.le_trans (Nat.le_of_ble_eq_true rfl) hlc⟩) (gpreV (wc := [(q0, .inr (11, [.int zdogs, .ref q1, .ref q2, .ref q3, .ref q4, u0, .int zhungry, .int zcounts, .ref q5, u1, u2, u3, u4, .ref q6, .ref q7, .ref q8, .int zatLeft_20, .int zatRight_21, u5, u6, u7, u8, u9])), (q1, .inl (ci, 7, .inl zhalves)), (q2, .inl (ci, 7, .inl zlikes_22)), (q3, .inl (cz, 7, .inl zisTold)), (q4, .inl (ci, 7, .inl zfears)), (q5, .inl (ci, 18, .inl zcount)), (q6, .inl (ci, 7, .inl zorder_23)), (q7, .inl (ci, 7, .inl zwent_24)), (q8, .inl (ci, 7, .inl zfill_25))]) (k := 11) (q0 := 0) hK hZ hP hD hS hA [0, 1, 2, 3, 4, 5, 6, 7, 8] rfl rfl rfl rfl rfl) rfl rfl hl.1 rfl (lv_room (Nat.le_of_ble_eq_true rfl)) dX12_fits_20 ⟨Nat.zero_le _, Nat.zero_le _⟩) hD hS hA [0, 1, 2, 3, 4, 5, 6, 7, 8] rfl (fun r_27 w9 H locs hw hP9 hk9 hS => ?_)
      obtain ⟨zatLeft_28, zatRight_29, zlikes_30, zorder_31, zwent_32, zfill_33, rfl, hw⟩ := hw
      have hP : va_P D vwCl [(q0, .inr (11, [.int zdogs, .ref q1, .ref q2, .ref q3, .ref q4, u0, .int zhungry, .int zcounts, .ref q5, u1, u2, u3, u4, .ref q6, .ref q7, .ref q8, .int zatLeft_28, .int zatRight_29, u5, u6, u7, u8, u9])), (q1, .inl (ci, 7, .inl zhalves)), (q2, .inl (ci, 7, .inl zlikes_30)), (q3, .inl (cz, 7, .inl zisTold)), (q4, .inl (ci, 7, .inl zfears)), (q5, .inl (ci, 18, .inl zcount)), (q6, .inl (ci, 7, .inl zorder_31)), (q7, .inl (ci, 7, .inl zwent_32)), (q8, .inl (ci, 7, .inl zfill_33))] H := gjoin3 hP hD [0, 1, 2, 3, 4, 5, 6, 7, 8] hP9 hk9 rfl rfl [some 0, some 1, some 2, some 3, some 4, some 5, some 6, some 7, some 8] rfl rfl
      have hD : va_D A [(q0, .inr (11, [.int zdogs, .ref q1, .ref q2, .ref q3, .ref q4, u0, .int zhungry, .int zcounts, .ref q5, u1, u2, u3, u4, .ref q6, .ref q7, .ref q8, .int zatLeft_28, .int zatRight_29, u5, u6, u7, u8, u9])), (q1, .inl (ci, 7, .inl zhalves)), (q2, .inl (ci, 7, .inl zlikes_30)), (q3, .inl (cz, 7, .inl zisTold)), (q4, .inl (ci, 7, .inl zfears)), (q5, .inl (ci, 18, .inl zcount)), (q6, .inl (ci, 7, .inl zorder_31)), (q7, .inl (ci, 7, .inl zwent_32)), (q8, .inl (ci, 7, .inl zfill_33))] := gD_re hD rfl
      clear hP9 hk9
      refine lv_if_eq (tgt := 40) hx hb dX12_fits_23 (by decide) (fun hc => ?_) (fun hc => ?_)
      · have hw := hw.1 hc
        refine lv_iinc (v := (x4_19 + (1 : Int32))) (lv' := [(4, .int (x4_19 + (1 : Int32))), (0, .ref q0), (1, .int a1), (2, .int x2_17), (3, .int x3_18)]) hx hb dX12_fits_40 hl (k := 4) rfl rfl (by decide) rfl (fun ls hl => ?_)
        refine lv_goto (tgt := 8) hx hb dX12_fits_43 (by decide) ?_
        exact hG8 _ _ _ _ _ _ _ _ _ H locs ls hw hP hS (lv_sub hl [1, 2, 3, 4, 0] rfl)
      · have hw := hw.2 hc
        refine lv_iload_n hx hb dX12_fits_26 rfl (lv_at hl 3 rfl) ?_
        refine jn_walk hw (fun J36 => ∀ (t_34 : Int32) (H : Heap) (locs : List Loc) (ls : Array Slot), J36 t_34 → va_P D vwCl [(q0, .inr (11, [.int zdogs, .ref q1, .ref q2, .ref q3, .ref q4, u0, .int zhungry, .int zcounts, .ref q5, u1, u2, u3, u4, .ref q6, .ref q7, .ref q8, .int zatLeft_28, .int zatRight_29, u5, u6, u7, u8, u9])), (q1, .inl (ci, 7, .inl zhalves)), (q2, .inl (ci, 7, .inl zlikes_30)), (q3, .inl (cz, 7, .inl zisTold)), (q4, .inl (ci, 7, .inl zfears)), (q5, .inl (ci, 18, .inl zcount)), (q6, .inl (ci, 7, .inl zorder_31)), (q7, .inl (ci, 7, .inl zwent_32)), (q8, .inl (ci, 7, .inl zfill_33))] H → va_S A s.heap H locs → lv_has ls 6 [(0, .ref q0), (1, .int a1), (2, .int x2_17), (4, .int x4_19)] → W p l e R s m args below meth c H locs 0 0 Q (F0 m 36 ls [.int t_34])) ?_ ?_
        · intro t_34 H locs ls hw hP hS hl
          have hD : va_D A [(q0, .inr (11, [.int zdogs, .ref q1, .ref q2, .ref q3, .ref q4, u0, .int zhungry, .int zcounts, .ref q5, u1, u2, u3, u4, .ref q6, .ref q7, .ref q8, .int zatLeft_28, .int zatRight_29, u5, u6, u7, u8, u9])), (q1, .inl (ci, 7, .inl zhalves)), (q2, .inl (ci, 7, .inl zlikes_30)), (q3, .inl (cz, 7, .inl zisTold)), (q4, .inl (ci, 7, .inl zfears)), (q5, .inl (ci, 18, .inl zcount)), (q6, .inl (ci, 7, .inl zorder_31)), (q7, .inl (ci, 7, .inl zwent_32)), (q8, .inl (ci, 7, .inl zfill_33))] := gD_re hD rfl
          refine lv_istore_n (lv' := [(3, .int t_34), (0, .ref q0), (1, .int a1), (2, .int x2_17), (4, .int x4_19)]) hx hb dX12_fits_36 rfl hl (by decide) rfl (fun ls hl => ?_)
          refine lv_iinc (v := (x2_17 + (1 : Int32))) (lv' := [(2, .int (x2_17 + (1 : Int32))), (3, .int t_34), (0, .ref q0), (1, .int a1), (4, .int x4_19)]) hx hb dX12_fits_37 hl (k := 3) rfl rfl (by decide) rfl (fun ls hl => ?_)
          refine lv_iinc (v := (x4_19 + (1 : Int32))) (lv' := [(4, .int (x4_19 + (1 : Int32))), (2, .int (x2_17 + (1 : Int32))), (3, .int t_34), (0, .ref q0), (1, .int a1)]) hx hb dX12_fits_40 hl (k := 4) rfl rfl (by decide) rfl (fun ls hl => ?_)
          refine lv_goto (tgt := 8) hx hb dX12_fits_43 (by decide) ?_
          exact hG8 _ _ _ _ _ _ _ _ _ H locs ls hw hP hS (lv_sub hl [3, 4, 1, 2, 0] rfl)
        · intro J36 hJ36 hw
          refine lv_if_ge (tgt := 35) hx hb dX12_fits_27 (by decide) (fun hc => ?_) (fun hc => ?_)
          · have hw := hw.1 hc
            refine lv_iload_n hx hb dX12_fits_35 rfl (lv_at hl 3 rfl) ?_
            exact hJ36 _ H locs ls hw hP hS (lv_sub hl [0, 1, 2, 4] rfl)
          · have hw := hw.2 hc
            refine lv_iload hx hb dX12_fits_30 (lv_at hl 4 rfl) ?_
            refine lv_goto (tgt := 36) hx hb dX12_fits_32 (by decide) ?_
            exact hJ36 _ H locs ls hw hP hS (lv_sub hl [0, 1, 2, 4] rfl)

def wp_X12_forget (zcounts : Int32)  (post : Int32 → Int32 → Prop) : Prop :=
  post zcounts (0 : Int32)
set_option maxHeartbeats 4000000 in
set_option maxRecDepth 100000 in
theorem c_X12_forget (l : Launch) (D : va_G) (ci cz : ClassId) (tr : List (ClassId × FieldType)) (q0 : Nat) (sz : Nat) (u0 u1 u2 u3 u4 u5 u6 u7 u8 u9 u10 u11 u12 u13 u14 u15 u16 u17 u18 u19 u20 u21 : Value) (zcounts : Int32)  (post : Int32 → Int32 → Prop) (hw : wp_X12_forget zcounts post) : gM l yX12_forget cX12_forget 2 (some .int) 0 0 D ci cz tr [(q0, .inr (11, [u0, u1, u2, u3, u4, u5, u6, .int zcounts, u7, u8, u9, u10, u11, u12, u13, u14, u15, u16, u17, u18, u19, u20, u21]))] sz [.ref q0] (gQi D [(q0, .inr (11, [u0, u1, u2, u3, u4, u5, u6, .int zcounts, u7, u8, u9, u10, u11, u12, u13, u14, u15, u16, u17, u18, u19, u20, u21]))] sz (fun (r : Int32) w => ∃ (o_zcounts : Int32), w = [(q0, .inr (11, [u0, u1, u2, u3, u4, u5, u6, .int o_zcounts, u7, u8, u9, u10, u11, u12, u13, u14, u15, u16, u17, u18, u19, u20, u21]))] ∧ post r o_zcounts)) := by
  refine gmet_i RX12 (by decide +kernel) rfl (Nat.le_of_ble_eq_true rfl) ?_
  intro p e s m args below meth c A R Q C hfr hlc hP hD hret ls hl
  obtain ⟨hx, hb, hml, hown, ht, hK, hZ, hA⟩ := C
  have hl : lv_has ls 2 [(0, .ref q0)] := hl
  unfold wp_X12_forget at hw
  refine g_in (fun H locs => W p l e R s m args below meth c H locs 0 0 Q (F0 m 0 ls [])) (fun H locs hS0 hP => ?_) hP (va_S.rf (A := A) (H0 := s.heap))
  have hS : va_S A s.heap H locs := hS0
  clear hS0
  refine lv_aload_n hx hb dX12_forget_0 rfl (lv_at hl 0 rfl) ?_
  refine va_get (D := D) (ci := 11) (v := .int zcounts) (C := RX12) (T := TX12) (N := 23) hx hb ht in_X12 hown hK.1 hP 0 rfl rfl 7 (by decide) (ht _ mF_X12_77) (fun _ h9 => h9) rfl dX12_forget_1 ?_
  refine lv_istore_n (lv' := [(1, .int zcounts), (0, .ref q0)]) hx hb dX12_forget_4 rfl hl (by decide) rfl (fun ls hl => ?_)
  refine lv_aload_n hx hb dX12_forget_5 rfl (lv_at hl 1 rfl) ?_
  refine lv_iconst (v := (0 : Int32)) hx hb dX12_forget_6 (by decide) ?_
  refine va_put (D := D) (ci := 11) (v := .int (0 : Int32)) (ty := .int) (C := RX12) (T := TX12) (N := 23) hx hb ht in_X12 tyX12 tyX12_ok nmX12 hown hK.1 hP hD hS 0 rfl rfl 7 (by decide) (ht _ mF_X12_77) (fun _ h9 => h9) rfl (by decide +kernel) rfl rfl (Nat.le_of_ble_eq_true rfl) dX12_forget_7 (fun H locs hP hD hS => ?_)
  have hP : va_P D vwCl [(q0, .inr (11, [u0, u1, u2, u3, u4, u5, u6, .int (0 : Int32), u7, u8, u9, u10, u11, u12, u13, u14, u15, u16, u17, u18, u19, u20, u21]))] H := hP
  have hD : va_D A [(q0, .inr (11, [u0, u1, u2, u3, u4, u5, u6, .int (0 : Int32), u7, u8, u9, u10, u11, u12, u13, u14, u15, u16, u17, u18, u19, u20, u21]))] := hD
  refine lv_iload_n hx hb dX12_forget_10 rfl (lv_at hl 0 rfl) ?_
  exact hret _ _ H locs _ _ ⟨_, rfl, hw⟩ hP hS dX12_forget_11

def wp_X12_goes (zdogs : Int32) (zhungry : Int32) (zatLeft : Int32) (zatRight : Int32) (zhalves : Nat → Int32) (zlikes : Nat → Int32) (zfears : Nat → Int32) (zorder : Nat → Int32) (zwent : Nat → Int32) (zfill : Nat → Int32) (a1 : Int32) (a2 : Int32) (a3 : Int32) (post : Int32 → Int32 → Int32 → (Nat → Int32) → (Nat → Int32) → (Nat → Int32) → Prop) : Prop :=
  wp_X12_isDog zdogs a3 (fun (r_1 : Int32) => ((¬ r_1 = 0 → wp_X12_areLivers a1 a2 (fun (r_2 : Int32) => ((¬ r_2 = 0 → wp_X12_fresh zdogs zhungry zatLeft zatRight zhalves zlikes zfears zorder zwent zfill a1 a2 (-6 : Int32) (fun (zatLeft_4 : Int32) (zatRight_5 : Int32) (zorder_6 : Nat → Int32) (zwent_7 : Nat → Int32) (zfill_8 : Nat → Int32) => (vp_in a3 7 ∧ post (zwent_7 (a3).toNatClampNeg) zatLeft_4 zatRight_5 zorder_6 zwent_7 zfill_8))) ∧ (r_2 = 0 → post (-2 : Int32) zatLeft zatRight zorder zwent zfill)))) ∧ (r_1 = 0 → post (-1 : Int32) zatLeft zatRight zorder zwent zfill)))
set_option maxHeartbeats 4000000 in
set_option maxRecDepth 100000 in
theorem c_X12_goes (l : Launch) (D : va_G) (ci cz : ClassId) (tr : List (ClassId × FieldType)) (q0 q1 q2 q3 q4 q5 q6 : Nat) (sz : Nat) (u0 u1 u2 u3 u4 u5 u6 u7 u8 u9 u10 u11 u12 : Value) (zdogs : Int32) (zhungry : Int32) (zatLeft : Int32) (zatRight : Int32) (zhalves : Nat → Int32) (zlikes : Nat → Int32) (zfears : Nat → Int32) (zorder : Nat → Int32) (zwent : Nat → Int32) (zfill : Nat → Int32) (a1 : Int32) (a2 : Int32) (a3 : Int32) (post : Int32 → Int32 → Int32 → (Nat → Int32) → (Nat → Int32) → (Nat → Int32) → Prop) (hw : wp_X12_goes zdogs zhungry zatLeft zatRight zhalves zlikes zfears zorder zwent zfill a1 a2 a3 post) : gM l yX12_goes cX12_goes 4 (some .int) 4 95 D ci cz tr [(q0, .inr (11, [.int zdogs, .ref q1, .ref q2, u0, .ref q3, u1, .int zhungry, u2, u3, u4, u5, u6, u7, .ref q4, .ref q5, .ref q6, .int zatLeft, .int zatRight, u8, u9, u10, u11, u12])), (q1, .inl (ci, 7, .inl zhalves)), (q2, .inl (ci, 7, .inl zlikes)), (q3, .inl (ci, 7, .inl zfears)), (q4, .inl (ci, 7, .inl zorder)), (q5, .inl (ci, 7, .inl zwent)), (q6, .inl (ci, 7, .inl zfill))] sz [.ref q0, .int a1, .int a2, .int a3] (gQi D [(q0, .inr (11, [.int zdogs, .ref q1, .ref q2, u0, .ref q3, u1, .int zhungry, u2, u3, u4, u5, u6, u7, .ref q4, .ref q5, .ref q6, .int zatLeft, .int zatRight, u8, u9, u10, u11, u12])), (q1, .inl (ci, 7, .inl zhalves)), (q2, .inl (ci, 7, .inl zlikes)), (q3, .inl (ci, 7, .inl zfears)), (q4, .inl (ci, 7, .inl zorder)), (q5, .inl (ci, 7, .inl zwent)), (q6, .inl (ci, 7, .inl zfill))] sz (fun (r : Int32) w => ∃ (o_zatLeft : Int32) (o_zatRight : Int32) (o_zorder : Nat → Int32) (o_zwent : Nat → Int32) (o_zfill : Nat → Int32), w = [(q0, .inr (11, [.int zdogs, .ref q1, .ref q2, u0, .ref q3, u1, .int zhungry, u2, u3, u4, u5, u6, u7, .ref q4, .ref q5, .ref q6, .int o_zatLeft, .int o_zatRight, u8, u9, u10, u11, u12])), (q1, .inl (ci, 7, .inl zhalves)), (q2, .inl (ci, 7, .inl zlikes)), (q3, .inl (ci, 7, .inl zfears)), (q4, .inl (ci, 7, .inl o_zorder)), (q5, .inl (ci, 7, .inl o_zwent)), (q6, .inl (ci, 7, .inl o_zfill))] ∧ post r o_zatLeft o_zatRight o_zorder o_zwent o_zfill)) := by
  refine gmet_i RX12 (by decide +kernel) rfl (Nat.le_of_ble_eq_true rfl) ?_
  intro p e s m args below meth c A R Q C hfr hlc hP hD hret ls hl
  obtain ⟨hx, hb, hml, hown, ht, hK, hZ, hA⟩ := C
  have hl : lv_has ls 4 [(0, .ref q0), (1, .int a1), (2, .int a2), (3, .int a3)] := hl
  unfold wp_X12_goes at hw
  refine g_in (fun H locs => W p l e R s m args below meth c H locs 0 0 Q (F0 m 0 ls [])) (fun H locs hS0 hP => ?_) hP (va_S.rf (A := A) (H0 := s.heap))
  have hS : va_S A s.heap H locs := hS0
  clear hS0
  refine lv_aload_n hx hb dX12_goes_0 rfl (lv_at hl 0 rfl) ?_
  refine lv_iload_n hx hb dX12_goes_1 rfl (lv_at hl 3 rfl) ?_
  refine gcalli (va_runV (As := [.int a3]) (rest := []) ⟨hx, hb, hml, hown, ht⟩ (c_X12_isDog l D ci cz tr q0 H.size (.ref q1) (.ref q2) u0 (.ref q3) u1 (.int zhungry) u2 u3 u4 u5 u6 u7 (.ref q4) (.ref q5) (.ref q6) (.int zatLeft) (.int zatRight) u8 u9 u10 u11 u12 zdogs a3 _ hw) (cwV 1 ht (gi_V mM_X12_80 mI_X12_isDog mS_X12_isDog mN_X12 mC_X12_isDog) rfl rfl rfl (by decide +kernel) ⟨Nat.le_trans (Nat.le_of_ble_eq_true rfl) hfr, Nat.le_trans (Nat.le_of_ble_eq_true rfl) hlc⟩) (gpreV (wc := [(q0, .inr (11, [.int zdogs, .ref q1, .ref q2, u0, .ref q3, u1, .int zhungry, u2, u3, u4, u5, u6, u7, .ref q4, .ref q5, .ref q6, .int zatLeft, .int zatRight, u8, u9, u10, u11, u12]))]) (k := 11) (q0 := 0) hK hZ hP hD hS hA [0] rfl rfl rfl rfl rfl) rfl rfl hl.1 rfl (lv_room (Nat.le_of_ble_eq_true rfl)) dX12_goes_2 ⟨Nat.zero_le _, Nat.zero_le _⟩) hD hS hA [0] rfl (fun r_1 w9 H locs hw hP9 hk9 hS => ?_)
  obtain ⟨rfl, hw⟩ := hw
  have hP : va_P D vwCl [(q0, .inr (11, [.int zdogs, .ref q1, .ref q2, u0, .ref q3, u1, .int zhungry, u2, u3, u4, u5, u6, u7, .ref q4, .ref q5, .ref q6, .int zatLeft, .int zatRight, u8, u9, u10, u11, u12])), (q1, .inl (ci, 7, .inl zhalves)), (q2, .inl (ci, 7, .inl zlikes)), (q3, .inl (ci, 7, .inl zfears)), (q4, .inl (ci, 7, .inl zorder)), (q5, .inl (ci, 7, .inl zwent)), (q6, .inl (ci, 7, .inl zfill))] H := gjoin3 hP hD [0] hP9 hk9 rfl rfl [some 0, none, none, none, none, none, none] rfl rfl
  clear hP9 hk9
  refine lv_if_ne (tgt := 10) hx hb dX12_goes_5 (by decide) (fun hc => ?_) (fun hc => ?_)
  · have hw := hw.1 hc
    refine lv_iload_n hx hb dX12_goes_10 rfl (lv_at hl 1 rfl) ?_
    refine lv_iload_n hx hb dX12_goes_11 rfl (lv_at hl 2 rfl) ?_
    refine gcalli (va_runS (As := [.int a1, .int a2]) (rest := []) ⟨hx, hb, hml, hown, ht⟩ (c_X12_areLivers l D ci cz tr  H.size a1 a2 _ hw) (va_cwS 2 ht (gi_S mM_X12_107 mT_X12_areLivers mN_X12 mC_X12_areLivers) rfl rfl rfl (by decide +kernel) ⟨Nat.le_trans (Nat.le_of_ble_eq_true rfl) hfr, Nat.le_trans (Nat.le_of_ble_eq_true rfl) hlc⟩) (gpre (wc := []) hK hZ hP hD hS hA [] rfl rfl) rfl rfl hl.1 rfl (lv_room (Nat.le_of_ble_eq_true rfl)) dX12_goes_12 ⟨Nat.zero_le _, Nat.zero_le _⟩) hD hS hA [] rfl (fun r_2 w9 H locs hw hP9 hk9 hS => ?_)
    obtain ⟨rfl, hw⟩ := hw
    have hP : va_P D vwCl [(q0, .inr (11, [.int zdogs, .ref q1, .ref q2, u0, .ref q3, u1, .int zhungry, u2, u3, u4, u5, u6, u7, .ref q4, .ref q5, .ref q6, .int zatLeft, .int zatRight, u8, u9, u10, u11, u12])), (q1, .inl (ci, 7, .inl zhalves)), (q2, .inl (ci, 7, .inl zlikes)), (q3, .inl (ci, 7, .inl zfears)), (q4, .inl (ci, 7, .inl zorder)), (q5, .inl (ci, 7, .inl zwent)), (q6, .inl (ci, 7, .inl zfill))] H := gjoin3 hP hD [] hP9 hk9 rfl rfl [none, none, none, none, none, none, none] rfl rfl
    clear hP9 hk9
    refine lv_if_ne (tgt := 21) hx hb dX12_goes_15 (by decide) (fun hc => ?_) (fun hc => ?_)
    · have hw := hw.1 hc
      refine lv_aload_n hx hb dX12_goes_21 rfl (lv_at hl 0 rfl) ?_
      refine lv_iload_n hx hb dX12_goes_22 rfl (lv_at hl 1 rfl) ?_
      refine lv_iload_n hx hb dX12_goes_23 rfl (lv_at hl 2 rfl) ?_
      refine lv_bipush (v := (-6 : Int32)) hx hb dX12_goes_24 (by decide) ?_
      refine gcallv (va_runV (As := [.int a1, .int a2, .int (-6 : Int32)]) (rest := []) ⟨hx, hb, hml, hown, ht⟩ (c_X12_fresh l D ci cz tr q0 q1 q2 q3 q4 q5 q6 H.size u0 u1 u2 u3 u4 u5 u6 u7 u8 u9 u10 u11 u12 zdogs zhungry zatLeft zatRight zhalves zlikes zfears zorder zwent zfill a1 a2 (-6 : Int32) _ hw) (cwV 3 ht (gi_V mM_X12_110 mI_X12_fresh mS_X12_fresh mN_X12 mC_X12_fresh) rfl rfl rfl (by decide +kernel) ⟨Nat.le_trans (Nat.le_of_ble_eq_true rfl) hfr, Nat.le_trans (Nat.le_of_ble_eq_true rfl) hlc⟩) (gpreV (wc := [(q0, .inr (11, [.int zdogs, .ref q1, .ref q2, u0, .ref q3, u1, .int zhungry, u2, u3, u4, u5, u6, u7, .ref q4, .ref q5, .ref q6, .int zatLeft, .int zatRight, u8, u9, u10, u11, u12])), (q1, .inl (ci, 7, .inl zhalves)), (q2, .inl (ci, 7, .inl zlikes)), (q3, .inl (ci, 7, .inl zfears)), (q4, .inl (ci, 7, .inl zorder)), (q5, .inl (ci, 7, .inl zwent)), (q6, .inl (ci, 7, .inl zfill))]) (k := 11) (q0 := 0) hK hZ hP hD hS hA [0, 1, 2, 3, 4, 5, 6] rfl rfl rfl rfl rfl) rfl rfl hl.1 rfl (lv_room (Nat.le_of_ble_eq_true rfl)) dX12_goes_26 ⟨Nat.zero_le _, Nat.zero_le _⟩) hD hS hA [0, 1, 2, 3, 4, 5, 6] rfl (fun w9 H locs hw hP9 hk9 hS => ?_)
      obtain ⟨zatLeft_4, zatRight_5, zorder_6, zwent_7, zfill_8, rfl, hw⟩ := hw
      have hP : va_P D vwCl [(q0, .inr (11, [.int zdogs, .ref q1, .ref q2, u0, .ref q3, u1, .int zhungry, u2, u3, u4, u5, u6, u7, .ref q4, .ref q5, .ref q6, .int zatLeft_4, .int zatRight_5, u8, u9, u10, u11, u12])), (q1, .inl (ci, 7, .inl zhalves)), (q2, .inl (ci, 7, .inl zlikes)), (q3, .inl (ci, 7, .inl zfears)), (q4, .inl (ci, 7, .inl zorder_6)), (q5, .inl (ci, 7, .inl zwent_7)), (q6, .inl (ci, 7, .inl zfill_8))] H := gjoin3 hP hD [0, 1, 2, 3, 4, 5, 6] hP9 hk9 rfl rfl [some 0, some 1, some 2, some 3, some 4, some 5, some 6] rfl rfl
      have hD : va_D A [(q0, .inr (11, [.int zdogs, .ref q1, .ref q2, u0, .ref q3, u1, .int zhungry, u2, u3, u4, u5, u6, u7, .ref q4, .ref q5, .ref q6, .int zatLeft_4, .int zatRight_5, u8, u9, u10, u11, u12])), (q1, .inl (ci, 7, .inl zhalves)), (q2, .inl (ci, 7, .inl zlikes)), (q3, .inl (ci, 7, .inl zfears)), (q4, .inl (ci, 7, .inl zorder_6)), (q5, .inl (ci, 7, .inl zwent_7)), (q6, .inl (ci, 7, .inl zfill_8))] := gD_re hD rfl
      clear hP9 hk9
      refine lv_aload_n hx hb dX12_goes_29 rfl (lv_at hl 0 rfl) ?_
      refine va_get (D := D) (ci := 11) (v := .ref q5) (C := RX12) (T := TX12) (N := 23) hx hb ht in_X12 hown hK.1 hP 0 rfl rfl 14 (by decide) (ht _ mF_X12_42) (fun _ h9 => h9) rfl dX12_goes_30 ?_
      refine lv_iload_n hx hb dX12_goes_33 rfl (lv_at hl 3 rfl) ?_
      obtain ⟨hin, hw⟩ := hw
      refine va_iald (D := D) hx hb hK.1 hP 5 0 rfl rfl hin dX12_goes_34 ?_
      exact hret _ _ H locs _ _ ⟨_, _, _, _, _, rfl, hw⟩ hP hS dX12_goes_35
    · have hw := hw.2 hc
      refine lv_bipush (v := (-2 : Int32)) hx hb dX12_goes_18 (by decide) ?_
      exact hret _ _ H locs _ _ ⟨_, _, _, _, _, rfl, hw⟩ hP hS dX12_goes_20
  · have hw := hw.2 hc
    refine lv_iconst (v := (-1 : Int32)) hx hb dX12_goes_8 (by decide) ?_
    exact hret _ _ H locs _ _ ⟨_, _, _, _, _, rfl, hw⟩ hP hS dX12_goes_9

def wp_X12_heir (zdogs : Int32) (zheirs : Nat → Int32) (a1 : Int32) (a2 : Int32) (post : Int32 → (Nat → Int32) → Prop) : Prop :=
  wp_X12_isDog zdogs a1 (fun (r_1 : Int32) => ((r_1 = 0 → post (-1 : Int32) zheirs) ∧ (¬ r_1 = 0 → jn ( ((¬ a1 = a2 → (vp_in a1 7 ∧ jn (fun (t_2 : Int32) => (vp_in a1 7 ∧ post (zheirs (a1).toNatClampNeg) (upd zheirs (a1).toNatClampNeg t_2))) (fun (J50 : Int32 → Prop) => ((0 ≤ a2 → J50 a2) ∧ (¬ 0 ≤ a2 → J50 (-6 : Int32)))))) ∧ (a1 = a2 → post (-1 : Int32) zheirs))) (fun (J21 : Prop) => ((a2 = (-1 : Int32) → J21) ∧ (¬ a2 = (-1 : Int32) → wp_X12_isDog zdogs a2 (fun (r_3 : Int32) => ((r_3 = 0 → post (-1 : Int32) zheirs) ∧ (¬ r_3 = 0 → J21)))))))))
set_option maxHeartbeats 4000000 in
set_option maxRecDepth 100000 in
theorem c_X12_heir (l : Launch) (D : va_G) (ci cz : ClassId) (tr : List (ClassId × FieldType)) (q0 q1 : Nat) (sz : Nat) (u0 u1 u2 u3 u4 u5 u6 u7 u8 u9 u10 u11 u12 u13 u14 u15 u16 u17 u18 u19 u20 : Value) (zdogs : Int32) (zheirs : Nat → Int32) (a1 : Int32) (a2 : Int32) (post : Int32 → (Nat → Int32) → Prop) (hw : wp_X12_heir zdogs zheirs a1 a2 post) : gM l yX12_heir cX12_heir 4 (some .int) 2 43 D ci cz tr [(q0, .inr (11, [.int zdogs, u0, u1, u2, u3, .ref q1, u4, u5, u6, u7, u8, u9, u10, u11, u12, u13, u14, u15, u16, u17, u18, u19, u20])), (q1, .inl (ci, 7, .inl zheirs))] sz [.ref q0, .int a1, .int a2] (gQi D [(q0, .inr (11, [.int zdogs, u0, u1, u2, u3, .ref q1, u4, u5, u6, u7, u8, u9, u10, u11, u12, u13, u14, u15, u16, u17, u18, u19, u20])), (q1, .inl (ci, 7, .inl zheirs))] sz (fun (r : Int32) w => ∃ (o_zheirs : Nat → Int32), w = [(q0, .inr (11, [.int zdogs, u0, u1, u2, u3, .ref q1, u4, u5, u6, u7, u8, u9, u10, u11, u12, u13, u14, u15, u16, u17, u18, u19, u20])), (q1, .inl (ci, 7, .inl o_zheirs))] ∧ post r o_zheirs)) := by
  refine gmet_i RX12 (by decide +kernel) rfl (Nat.le_of_ble_eq_true rfl) ?_
  intro p e s m args below meth c A R Q C hfr hlc hP hD hret ls hl
  obtain ⟨hx, hb, hml, hown, ht, hK, hZ, hA⟩ := C
  have hl : lv_has ls 4 [(0, .ref q0), (1, .int a1), (2, .int a2)] := hl
  unfold wp_X12_heir at hw
  refine g_in (fun H locs => W p l e R s m args below meth c H locs 0 0 Q (F0 m 0 ls [])) (fun H locs hS0 hP => ?_) hP (va_S.rf (A := A) (H0 := s.heap))
  have hS : va_S A s.heap H locs := hS0
  clear hS0
  refine lv_aload_n hx hb dX12_heir_0 rfl (lv_at hl 0 rfl) ?_
  refine lv_iload_n hx hb dX12_heir_1 rfl (lv_at hl 1 rfl) ?_
  refine gcalli (va_runV (As := [.int a1]) (rest := []) ⟨hx, hb, hml, hown, ht⟩ (c_X12_isDog l D ci cz tr q0 H.size u0 u1 u2 u3 (.ref q1) u4 u5 u6 u7 u8 u9 u10 u11 u12 u13 u14 u15 u16 u17 u18 u19 u20 zdogs a1 _ hw) (cwV 1 ht (gi_V mM_X12_80 mI_X12_isDog mS_X12_isDog mN_X12 mC_X12_isDog) rfl rfl rfl (by decide +kernel) ⟨Nat.le_trans (Nat.le_of_ble_eq_true rfl) hfr, Nat.le_trans (Nat.le_of_ble_eq_true rfl) hlc⟩) (gpreV (wc := [(q0, .inr (11, [.int zdogs, u0, u1, u2, u3, .ref q1, u4, u5, u6, u7, u8, u9, u10, u11, u12, u13, u14, u15, u16, u17, u18, u19, u20]))]) (k := 11) (q0 := 0) hK hZ hP hD hS hA [0] rfl rfl rfl rfl rfl) rfl rfl hl.1 rfl (lv_room (Nat.le_of_ble_eq_true rfl)) dX12_heir_2 ⟨Nat.zero_le _, Nat.zero_le _⟩) hD hS hA [0] rfl (fun r_1 w9 H locs hw hP9 hk9 hS => ?_)
  obtain ⟨rfl, hw⟩ := hw
  have hP : va_P D vwCl [(q0, .inr (11, [.int zdogs, u0, u1, u2, u3, .ref q1, u4, u5, u6, u7, u8, u9, u10, u11, u12, u13, u14, u15, u16, u17, u18, u19, u20])), (q1, .inl (ci, 7, .inl zheirs))] H := gjoin3 hP hD [0] hP9 hk9 rfl rfl [some 0, none] rfl rfl
  clear hP9 hk9
  refine lv_if_eq (tgt := 26) hx hb dX12_heir_5 (by decide) (fun hc => ?_) (fun hc => ?_)
  · have hw := hw.1 hc
    refine lv_iconst (v := (-1 : Int32)) hx hb dX12_heir_26 (by decide) ?_
    exact hret _ _ H locs _ _ ⟨_, rfl, hw⟩ hP hS dX12_heir_27
  · have hw := hw.2 hc
    refine lv_iload_n hx hb dX12_heir_8 rfl (lv_at hl 2 rfl) ?_
    refine lv_iconst (v := (-1 : Int32)) hx hb dX12_heir_9 (by decide) ?_
    refine jn_walk hw (fun J21 => ∀  (H : Heap) (locs : List Loc) (ls : Array Slot), J21 → va_P D vwCl [(q0, .inr (11, [.int zdogs, u0, u1, u2, u3, .ref q1, u4, u5, u6, u7, u8, u9, u10, u11, u12, u13, u14, u15, u16, u17, u18, u19, u20])), (q1, .inl (ci, 7, .inl zheirs))] H → va_S A s.heap H locs → lv_has ls 4 [(0, .ref q0), (1, .int a1), (2, .int a2)] → W p l e R s m args below meth c H locs 0 0 Q (F0 m 21 ls [])) ?_ ?_
    · intro  H locs ls hw hP hS hl
      have hD : va_D A [(q0, .inr (11, [.int zdogs, u0, u1, u2, u3, .ref q1, u4, u5, u6, u7, u8, u9, u10, u11, u12, u13, u14, u15, u16, u17, u18, u19, u20])), (q1, .inl (ci, 7, .inl zheirs))] := gD_re hD rfl
      refine lv_iload_n hx hb dX12_heir_21 rfl (lv_at hl 1 rfl) ?_
      refine lv_iload_n hx hb dX12_heir_22 rfl (lv_at hl 2 rfl) ?_
      refine lv_icmp_ne (tgt := 28) hx hb dX12_heir_23 (by decide) (fun hc => ?_) (fun hc => ?_)
      · have hw := hw.1 hc
        refine lv_aload_n hx hb dX12_heir_28 rfl (lv_at hl 0 rfl) ?_
        refine va_get (D := D) (ci := 11) (v := .ref q1) (C := RX12) (T := TX12) (N := 23) hx hb ht in_X12 hown hK.1 hP 0 rfl rfl 5 (by decide) (ht _ mF_X12_23) (fun _ h9 => h9) rfl dX12_heir_29 ?_
        refine lv_iload_n hx hb dX12_heir_32 rfl (lv_at hl 1 rfl) ?_
        obtain ⟨hin, hw⟩ := hw
        refine va_iald (D := D) hx hb hK.1 hP 1 0 rfl rfl hin dX12_heir_33 ?_
        refine lv_istore_n (lv' := [(3, .int (zheirs (a1).toNatClampNeg)), (0, .ref q0), (1, .int a1), (2, .int a2)]) hx hb dX12_heir_34 rfl hl (by decide) rfl (fun ls hl => ?_)
        refine lv_aload_n hx hb dX12_heir_35 rfl (lv_at hl 1 rfl) ?_
        refine va_get (D := D) (ci := 11) (v := .ref q1) (C := RX12) (T := TX12) (N := 23) hx hb ht in_X12 hown hK.1 hP 0 rfl rfl 5 (by decide) (ht _ mF_X12_23) (fun _ h9 => h9) rfl dX12_heir_36 ?_
        refine lv_iload_n hx hb dX12_heir_39 rfl (lv_at hl 2 rfl) ?_
        refine lv_iload_n hx hb dX12_heir_40 rfl (lv_at hl 3 rfl) ?_
        refine jn_walk hw (fun J50 => ∀ (t_2 : Int32) (H : Heap) (locs : List Loc) (ls : Array Slot), J50 t_2 → va_P D vwCl [(q0, .inr (11, [.int zdogs, u0, u1, u2, u3, .ref q1, u4, u5, u6, u7, u8, u9, u10, u11, u12, u13, u14, u15, u16, u17, u18, u19, u20])), (q1, .inl (ci, 7, .inl zheirs))] H → va_S A s.heap H locs → lv_has ls 4 [(3, .int (zheirs (a1).toNatClampNeg))] → W p l e R s m args below meth c H locs 0 0 Q (F0 m 50 ls [.int t_2, .int a1, .ref q1])) ?_ ?_
        · intro t_2 H locs ls hw hP hS hl
          have hD : va_D A [(q0, .inr (11, [.int zdogs, u0, u1, u2, u3, .ref q1, u4, u5, u6, u7, u8, u9, u10, u11, u12, u13, u14, u15, u16, u17, u18, u19, u20])), (q1, .inl (ci, 7, .inl zheirs))] := gD_re hD rfl
          obtain ⟨hin, hw⟩ := hw
          refine va_iast (D := D) hx hb hK.1 hP hD hS 1 0 rfl rfl hin dX12_heir_50 (fun H locs hP hD hS => ?_)
          have hP : va_P D vwCl [(q0, .inr (11, [.int zdogs, u0, u1, u2, u3, .ref q1, u4, u5, u6, u7, u8, u9, u10, u11, u12, u13, u14, u15, u16, u17, u18, u19, u20])), (q1, .inl (ci, 7, .inl (upd zheirs (a1).toNatClampNeg t_2)))] H := hP
          have hD : va_D A [(q0, .inr (11, [.int zdogs, u0, u1, u2, u3, .ref q1, u4, u5, u6, u7, u8, u9, u10, u11, u12, u13, u14, u15, u16, u17, u18, u19, u20])), (q1, .inl (ci, 7, .inl (upd zheirs (a1).toNatClampNeg t_2)))] := hD
          refine lv_iload_n hx hb dX12_heir_51 rfl (lv_at hl 0 rfl) ?_
          exact hret _ _ H locs _ _ ⟨_, rfl, hw⟩ hP hS dX12_heir_52
        · intro J50 hJ50 hw
          refine lv_if_ge (tgt := 49) hx hb dX12_heir_41 (by decide) (fun hc => ?_) (fun hc => ?_)
          · have hw := hw.1 hc
            refine lv_iload_n hx hb dX12_heir_49 rfl (lv_at hl 3 rfl) ?_
            exact hJ50 _ H locs ls hw hP hS (lv_sub hl [0] rfl)
          · have hw := hw.2 hc
            refine lv_bipush (v := (-6 : Int32)) hx hb dX12_heir_44 (by decide) ?_
            refine lv_goto (tgt := 50) hx hb dX12_heir_46 (by decide) ?_
            exact hJ50 _ H locs ls hw hP hS (lv_sub hl [0] rfl)
      · have hw := hw.2 hc
        refine lv_iconst (v := (-1 : Int32)) hx hb dX12_heir_26 (by decide) ?_
        exact hret _ _ H locs _ _ ⟨_, rfl, hw⟩ hP hS dX12_heir_27
    · intro J21 hJ21 hw
      refine lv_icmp_eq (tgt := 21) hx hb dX12_heir_10 (by decide) (fun hc => ?_) (fun hc => ?_)
      · have hw := hw.1 hc
        exact hJ21  H locs ls hw hP hS (lv_sub hl [0, 1, 2] rfl)
      · have hw := hw.2 hc
        refine lv_aload_n hx hb dX12_heir_13 rfl (lv_at hl 0 rfl) ?_
        refine lv_iload_n hx hb dX12_heir_14 rfl (lv_at hl 2 rfl) ?_
        refine gcalli (va_runV (As := [.int a2]) (rest := []) ⟨hx, hb, hml, hown, ht⟩ (c_X12_isDog l D ci cz tr q0 H.size u0 u1 u2 u3 (.ref q1) u4 u5 u6 u7 u8 u9 u10 u11 u12 u13 u14 u15 u16 u17 u18 u19 u20 zdogs a2 _ hw) (cwV 1 ht (gi_V mM_X12_80 mI_X12_isDog mS_X12_isDog mN_X12 mC_X12_isDog) rfl rfl rfl (by decide +kernel) ⟨Nat.le_trans (Nat.le_of_ble_eq_true rfl) hfr, Nat.le_trans (Nat.le_of_ble_eq_true rfl) hlc⟩) (gpreV (wc := [(q0, .inr (11, [.int zdogs, u0, u1, u2, u3, .ref q1, u4, u5, u6, u7, u8, u9, u10, u11, u12, u13, u14, u15, u16, u17, u18, u19, u20]))]) (k := 11) (q0 := 0) hK hZ hP hD hS hA [0] rfl rfl rfl rfl rfl) rfl rfl hl.1 rfl (lv_room (Nat.le_of_ble_eq_true rfl)) dX12_heir_15 ⟨Nat.zero_le _, Nat.zero_le _⟩) hD hS hA [0] rfl (fun r_3 w9 H locs hw hP9 hk9 hS => ?_)
        obtain ⟨rfl, hw⟩ := hw
        have hP : va_P D vwCl [(q0, .inr (11, [.int zdogs, u0, u1, u2, u3, .ref q1, u4, u5, u6, u7, u8, u9, u10, u11, u12, u13, u14, u15, u16, u17, u18, u19, u20])), (q1, .inl (ci, 7, .inl zheirs))] H := gjoin3 hP hD [0] hP9 hk9 rfl rfl [some 0, none] rfl rfl
        clear hP9 hk9
        refine lv_if_eq (tgt := 26) hx hb dX12_heir_18 (by decide) (fun hc => ?_) (fun hc => ?_)
        · have hw := hw.1 hc
          refine lv_iconst (v := (-1 : Int32)) hx hb dX12_heir_26 (by decide) ?_
          exact hret _ _ H locs _ _ ⟨_, rfl, hw⟩ hP hS dX12_heir_27
        · have hw := hw.2 hc
          exact hJ21  H locs ls hw hP hS (lv_sub hl [0, 1, 2] rfl)

def wp_X12_hunger (zhungry : Int32) (a1 : Int32) (post : Int32 → Int32 → Prop) : Prop :=
  wp_X12_in a1 (1 : Int32) (9 : Int32) (fun (r_1 : Int32) => ((¬ r_1 = 0 → post zhungry a1) ∧ (r_1 = 0 → post (-2 : Int32) zhungry)))
set_option maxHeartbeats 4000000 in
set_option maxRecDepth 100000 in
theorem c_X12_hunger (l : Launch) (D : va_G) (ci cz : ClassId) (tr : List (ClassId × FieldType)) (q0 : Nat) (sz : Nat) (u0 u1 u2 u3 u4 u5 u6 u7 u8 u9 u10 u11 u12 u13 u14 u15 u16 u17 u18 u19 u20 u21 : Value) (zhungry : Int32) (a1 : Int32) (post : Int32 → Int32 → Prop) (hw : wp_X12_hunger zhungry a1 post) : gM l yX12_hunger cX12_hunger 3 (some .int) 1 22 D ci cz tr [(q0, .inr (11, [u0, u1, u2, u3, u4, u5, .int zhungry, u6, u7, u8, u9, u10, u11, u12, u13, u14, u15, u16, u17, u18, u19, u20, u21]))] sz [.ref q0, .int a1] (gQi D [(q0, .inr (11, [u0, u1, u2, u3, u4, u5, .int zhungry, u6, u7, u8, u9, u10, u11, u12, u13, u14, u15, u16, u17, u18, u19, u20, u21]))] sz (fun (r : Int32) w => ∃ (o_zhungry : Int32), w = [(q0, .inr (11, [u0, u1, u2, u3, u4, u5, .int o_zhungry, u6, u7, u8, u9, u10, u11, u12, u13, u14, u15, u16, u17, u18, u19, u20, u21]))] ∧ post r o_zhungry)) := by
  refine gmet_i RX12 (by decide +kernel) rfl (Nat.le_of_ble_eq_true rfl) ?_
  intro p e s m args below meth c A R Q C hfr hlc hP hD hret ls hl
  obtain ⟨hx, hb, hml, hown, ht, hK, hZ, hA⟩ := C
  have hl : lv_has ls 3 [(0, .ref q0), (1, .int a1)] := hl
  unfold wp_X12_hunger at hw
  refine g_in (fun H locs => W p l e R s m args below meth c H locs 0 0 Q (F0 m 0 ls [])) (fun H locs hS0 hP => ?_) hP (va_S.rf (A := A) (H0 := s.heap))
  have hS : va_S A s.heap H locs := hS0
  clear hS0
  refine lv_iload_n hx hb dX12_hunger_0 rfl (lv_at hl 1 rfl) ?_
  refine lv_iconst (v := (1 : Int32)) hx hb dX12_hunger_1 (by decide) ?_
  refine lv_bipush (v := (9 : Int32)) hx hb dX12_hunger_2 (by decide) ?_
  refine gcalli (va_runS (As := [.int a1, .int (1 : Int32), .int (9 : Int32)]) (rest := []) ⟨hx, hb, hml, hown, ht⟩ (c_X12_in l D ci cz tr  H.size a1 (1 : Int32) (9 : Int32) _ hw) (va_cwS 3 ht (gi_S mM_X12_66 mT_X12_in mN_X12 mC_X12_in) rfl rfl rfl (by decide +kernel) ⟨Nat.le_trans (Nat.le_of_ble_eq_true rfl) hfr, Nat.le_trans (Nat.le_of_ble_eq_true rfl) hlc⟩) (gpre (wc := []) hK hZ hP hD hS hA [] rfl rfl) rfl rfl hl.1 rfl (lv_room (Nat.le_of_ble_eq_true rfl)) dX12_hunger_4 ⟨Nat.zero_le _, Nat.zero_le _⟩) hD hS hA [] rfl (fun r_1 w9 H locs hw hP9 hk9 hS => ?_)
  obtain ⟨rfl, hw⟩ := hw
  have hP : va_P D vwCl [(q0, .inr (11, [u0, u1, u2, u3, u4, u5, .int zhungry, u6, u7, u8, u9, u10, u11, u12, u13, u14, u15, u16, u17, u18, u19, u20, u21]))] H := gjoin3 hP hD [] hP9 hk9 rfl rfl [none] rfl rfl
  clear hP9 hk9
  refine lv_if_ne (tgt := 13) hx hb dX12_hunger_7 (by decide) (fun hc => ?_) (fun hc => ?_)
  · have hw := hw.1 hc
    refine lv_aload_n hx hb dX12_hunger_13 rfl (lv_at hl 0 rfl) ?_
    refine va_get (D := D) (ci := 11) (v := .int zhungry) (C := RX12) (T := TX12) (N := 23) hx hb ht in_X12 hown hK.1 hP 0 rfl rfl 6 (by decide) (ht _ mF_X12_26) (fun _ h9 => h9) rfl dX12_hunger_14 ?_
    refine lv_istore_n (lv' := [(2, .int zhungry), (0, .ref q0), (1, .int a1)]) hx hb dX12_hunger_17 rfl hl (by decide) rfl (fun ls hl => ?_)
    refine lv_aload_n hx hb dX12_hunger_18 rfl (lv_at hl 1 rfl) ?_
    refine lv_iload_n hx hb dX12_hunger_19 rfl (lv_at hl 2 rfl) ?_
    refine va_put (D := D) (ci := 11) (v := .int a1) (ty := .int) (C := RX12) (T := TX12) (N := 23) hx hb ht in_X12 tyX12 tyX12_ok nmX12 hown hK.1 hP hD hS 0 rfl rfl 6 (by decide) (ht _ mF_X12_26) (fun _ h9 => h9) rfl (by decide +kernel) rfl rfl (Nat.le_of_ble_eq_true rfl) dX12_hunger_20 (fun H locs hP hD hS => ?_)
    have hP : va_P D vwCl [(q0, .inr (11, [u0, u1, u2, u3, u4, u5, .int a1, u6, u7, u8, u9, u10, u11, u12, u13, u14, u15, u16, u17, u18, u19, u20, u21]))] H := hP
    have hD : va_D A [(q0, .inr (11, [u0, u1, u2, u3, u4, u5, .int a1, u6, u7, u8, u9, u10, u11, u12, u13, u14, u15, u16, u17, u18, u19, u20, u21]))] := hD
    refine lv_iload_n hx hb dX12_hunger_23 rfl (lv_at hl 0 rfl) ?_
    exact hret _ _ H locs _ _ ⟨_, rfl, hw⟩ hP hS dX12_hunger_24
  · have hw := hw.2 hc
    refine lv_bipush (v := (-2 : Int32)) hx hb dX12_hunger_10 (by decide) ?_
    exact hret _ _ H locs _ _ ⟨_, rfl, hw⟩ hP hS dX12_hunger_12
