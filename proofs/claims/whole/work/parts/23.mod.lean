def wp_X12_rests (zdogs : Int32) (zhungry : Int32) (zatLeft : Int32) (zatRight : Int32) (zhalves : Nat → Int32) (zlikes : Nat → Int32) (zfears : Nat → Int32) (zorder : Nat → Int32) (zwent : Nat → Int32) (zfill : Nat → Int32) (zwinners : Nat → Int32) (a1 : Int32) (post : Int32 → Int32 → Int32 → (Nat → Int32) → (Nat → Int32) → (Nat → Int32) → (Nat → Int32) → Prop) : Prop :=
  jn (fun (zatLeft_1 : Int32) (zatRight_2 : Int32) (zorder_3 : Nat → Int32) (zwent_4 : Nat → Int32) (zfill_5 : Nat → Int32) (zwinners_6 : Nat → Int32) => jn (fun (x2_7 : Int32) => ((¬ a1 = (-1 : Int32) → post (-6 : Int32) zatLeft_1 zatRight_2 zorder_3 zwent_4 zfill_5 zwinners_6) ∧ (a1 = (-1 : Int32) → post x2_7 zatLeft_1 zatRight_2 zorder_3 zwent_4 zfill_5 zwinners_6))) (fun (J79 : Int32 → Prop) => lo (fun _ _ => False) (fun (G42 : Int32 → Int32 → Prop) (x2_8 : Int32) (x3_9 : Int32) => (((100 : Int32) ≤ x3_9 → J79 x2_8) ∧ (¬ (100 : Int32) ≤ x3_9 → wp_X12_rest zwinners_6 (x3_9 / (10 : Int32)) (x3_9 - x3_9 / (10 : Int32) * (10 : Int32)) (fun (r_10 : Int32) => ((r_10 = 0 → G42 x2_8 (x3_9 + (1 : Int32))) ∧ (¬ r_10 = 0 → ((¬ x2_8 = a1 → G42 (x2_8 + (1 : Int32)) (x3_9 + (1 : Int32))) ∧ (x2_8 = a1 → post x3_9 zatLeft_1 zatRight_2 zorder_3 zwent_4 zfill_5 zwinners_6)))))))) (fun G42 => G42 (0 : Int32) (0 : Int32)))) (fun (J38 : Int32 → Int32 → (Nat → Int32) → (Nat → Int32) → (Nat → Int32) → (Nat → Int32) → Prop) => lo (fun _ _ _ _ _ _ _ => False) (fun (G2 : Int32 → Int32 → Int32 → (Nat → Int32) → (Nat → Int32) → (Nat → Int32) → (Nat → Int32) → Prop) (x2_11 : Int32) (zatLeft_12 : Int32) (zatRight_13 : Int32) (zorder_14 : Nat → Int32) (zwent_15 : Nat → Int32) (zfill_16 : Nat → Int32) (zwinners_17 : Nat → Int32) => (((100 : Int32) ≤ x2_11 → J38 zatLeft_12 zatRight_13 zorder_14 zwent_15 zfill_16 zwinners_17) ∧ (¬ (100 : Int32) ≤ x2_11 → wp_X12_fresh zdogs zhungry zatLeft_12 zatRight_13 zhalves zlikes zfears zorder_14 zwent_15 zfill_16 (x2_11 / (10 : Int32)) (x2_11 - x2_11 / (10 : Int32) * (10 : Int32)) (-6 : Int32) (fun (zatLeft_19 : Int32) (zatRight_20 : Int32) (zorder_21 : Nat → Int32) (zwent_22 : Nat → Int32) (zfill_23 : Nat → Int32) => wp_X12_winner zatLeft_19 zatRight_20 (fun (r_24 : Int32) => (vp_in x2_11 100 ∧ G2 (x2_11 + (1 : Int32)) zatLeft_19 zatRight_20 zorder_21 zwent_22 zfill_23 (upd zwinners_17 (x2_11).toNatClampNeg r_24))))))) (fun G2 => G2 (0 : Int32) zatLeft zatRight zorder zwent zfill zwinners))
set_option maxHeartbeats 4000000 in
set_option maxRecDepth 100000 in
theorem c_X12_rests (l : Launch) (D : va_G) (ci cz : ClassId) (tr : List (ClassId × FieldType)) (q0 q1 q2 q3 q4 q5 q6 q7 : Nat) (sz : Nat) (u0 u1 u2 u3 u4 u5 u6 u7 u8 u9 u10 u11 : Value) (zdogs : Int32) (zhungry : Int32) (zatLeft : Int32) (zatRight : Int32) (zhalves : Nat → Int32) (zlikes : Nat → Int32) (zfears : Nat → Int32) (zorder : Nat → Int32) (zwent : Nat → Int32) (zfill : Nat → Int32) (zwinners : Nat → Int32) (a1 : Int32) (post : Int32 → Int32 → Int32 → (Nat → Int32) → (Nat → Int32) → (Nat → Int32) → (Nat → Int32) → Prop) (hw : wp_X12_rests zdogs zhungry zatLeft zatRight zhalves zlikes zfears zorder zwent zfill zwinners a1 post) : gM l yX12_rests cX12_rests 4 (some .int) 4 95 D ci cz tr [(q0, .inr (11, [.int zdogs, .ref q1, .ref q2, u0, .ref q3, u1, .int zhungry, u2, u3, u4, u5, u6, u7, .ref q4, .ref q5, .ref q6, .int zatLeft, .int zatRight, .ref q7, u8, u9, u10, u11])), (q1, .inl (ci, 7, .inl zhalves)), (q2, .inl (ci, 7, .inl zlikes)), (q3, .inl (ci, 7, .inl zfears)), (q4, .inl (ci, 7, .inl zorder)), (q5, .inl (ci, 7, .inl zwent)), (q6, .inl (ci, 7, .inl zfill)), (q7, .inl (ci, 100, .inl zwinners))] sz [.ref q0, .int a1] (gQi D [(q0, .inr (11, [.int zdogs, .ref q1, .ref q2, u0, .ref q3, u1, .int zhungry, u2, u3, u4, u5, u6, u7, .ref q4, .ref q5, .ref q6, .int zatLeft, .int zatRight, .ref q7, u8, u9, u10, u11])), (q1, .inl (ci, 7, .inl zhalves)), (q2, .inl (ci, 7, .inl zlikes)), (q3, .inl (ci, 7, .inl zfears)), (q4, .inl (ci, 7, .inl zorder)), (q5, .inl (ci, 7, .inl zwent)), (q6, .inl (ci, 7, .inl zfill)), (q7, .inl (ci, 100, .inl zwinners))] sz (fun (r : Int32) w => ∃ (o_zatLeft : Int32) (o_zatRight : Int32) (o_zorder : Nat → Int32) (o_zwent : Nat → Int32) (o_zfill : Nat → Int32) (o_zwinners : Nat → Int32), w = [(q0, .inr (11, [.int zdogs, .ref q1, .ref q2, u0, .ref q3, u1, .int zhungry, u2, u3, u4, u5, u6, u7, .ref q4, .ref q5, .ref q6, .int o_zatLeft, .int o_zatRight, .ref q7, u8, u9, u10, u11])), (q1, .inl (ci, 7, .inl zhalves)), (q2, .inl (ci, 7, .inl zlikes)), (q3, .inl (ci, 7, .inl zfears)), (q4, .inl (ci, 7, .inl o_zorder)), (q5, .inl (ci, 7, .inl o_zwent)), (q6, .inl (ci, 7, .inl o_zfill)), (q7, .inl (ci, 100, .inl o_zwinners))] ∧ post r o_zatLeft o_zatRight o_zorder o_zwent o_zfill o_zwinners)) := by
  refine gmet_i RX12 (by decide +kernel) rfl (Nat.le_of_ble_eq_true rfl) ?_
  intro p e s m args below meth c A R Q C hfr hlc hP hD hret ls hl
  obtain ⟨hx, hb, hml, hown, ht, hK, hZ, hA⟩ := C
  have hl : lv_has ls 4 [(0, .ref q0), (1, .int a1)] := hl
  unfold wp_X12_rests at hw
  refine g_in (fun H locs => W p l e R s m args below meth c H locs 0 0 Q (F0 m 0 ls [])) (fun H locs hS0 hP => ?_) hP (va_S.rf (A := A) (H0 := s.heap))
  have hS : va_S A s.heap H locs := hS0
  clear hS0
  refine lv_iconst (v := (0 : Int32)) hx hb dX12_rests_0 (by decide) ?_
  refine lv_istore_n (lv' := [(2, .int (0 : Int32)), (0, .ref q0), (1, .int a1)]) hx hb dX12_rests_1 rfl hl (by decide) rfl (fun ls hl => ?_)
  refine jn_walk hw (fun J38 => ∀ (zatLeft_1 : Int32) (zatRight_2 : Int32) (zorder_3 : Nat → Int32) (zwent_4 : Nat → Int32) (zfill_5 : Nat → Int32) (zwinners_6 : Nat → Int32) (H : Heap) (locs : List Loc) (ls : Array Slot), J38 zatLeft_1 zatRight_2 zorder_3 zwent_4 zfill_5 zwinners_6 → va_P D vwCl [(q0, .inr (11, [.int zdogs, .ref q1, .ref q2, u0, .ref q3, u1, .int zhungry, u2, u3, u4, u5, u6, u7, .ref q4, .ref q5, .ref q6, .int zatLeft_1, .int zatRight_2, .ref q7, u8, u9, u10, u11])), (q1, .inl (ci, 7, .inl zhalves)), (q2, .inl (ci, 7, .inl zlikes)), (q3, .inl (ci, 7, .inl zfears)), (q4, .inl (ci, 7, .inl zorder_3)), (q5, .inl (ci, 7, .inl zwent_4)), (q6, .inl (ci, 7, .inl zfill_5)), (q7, .inl (ci, 100, .inl zwinners_6))] H → va_S A s.heap H locs → lv_has ls 4 [(0, .ref q0), (1, .int a1)] → W p l e R s m args below meth c H locs 0 0 Q (F0 m 38 ls [])) ?_ ?_
  · intro zatLeft_1 zatRight_2 zorder_3 zwent_4 zfill_5 zwinners_6 H locs ls hw hP hS hl
    have hD : va_D A [(q0, .inr (11, [.int zdogs, .ref q1, .ref q2, u0, .ref q3, u1, .int zhungry, u2, u3, u4, u5, u6, u7, .ref q4, .ref q5, .ref q6, .int zatLeft_1, .int zatRight_2, .ref q7, u8, u9, u10, u11])), (q1, .inl (ci, 7, .inl zhalves)), (q2, .inl (ci, 7, .inl zlikes)), (q3, .inl (ci, 7, .inl zfears)), (q4, .inl (ci, 7, .inl zorder_3)), (q5, .inl (ci, 7, .inl zwent_4)), (q6, .inl (ci, 7, .inl zfill_5)), (q7, .inl (ci, 100, .inl zwinners_6))] := gD_re hD rfl
    refine lv_iconst (v := (0 : Int32)) hx hb dX12_rests_38 (by decide) ?_
    refine lv_istore_n (lv' := [(2, .int (0 : Int32)), (0, .ref q0), (1, .int a1)]) hx hb dX12_rests_39 rfl hl (by decide) rfl (fun ls hl => ?_)
    refine lv_iconst (v := (0 : Int32)) hx hb dX12_rests_40 (by decide) ?_
    refine lv_istore_n (lv' := [(3, .int (0 : Int32)), (2, .int (0 : Int32)), (0, .ref q0), (1, .int a1)]) hx hb dX12_rests_41 rfl hl (by decide) rfl (fun ls hl => ?_)
    refine jn_walk hw (fun J79 => ∀ (x2_7 : Int32) (H : Heap) (locs : List Loc) (ls : Array Slot), J79 x2_7 → va_P D vwCl [(q0, .inr (11, [.int zdogs, .ref q1, .ref q2, u0, .ref q3, u1, .int zhungry, u2, u3, u4, u5, u6, u7, .ref q4, .ref q5, .ref q6, .int zatLeft_1, .int zatRight_2, .ref q7, u8, u9, u10, u11])), (q1, .inl (ci, 7, .inl zhalves)), (q2, .inl (ci, 7, .inl zlikes)), (q3, .inl (ci, 7, .inl zfears)), (q4, .inl (ci, 7, .inl zorder_3)), (q5, .inl (ci, 7, .inl zwent_4)), (q6, .inl (ci, 7, .inl zfill_5)), (q7, .inl (ci, 100, .inl zwinners_6))] H → va_S A s.heap H locs → lv_has ls 4 [(1, .int a1), (2, .int x2_7)] → W p l e R s m args below meth c H locs 0 0 Q (F0 m 79 ls [])) ?_ ?_
    · intro x2_7 H locs ls hw hP hS hl
      have hD : va_D A [(q0, .inr (11, [.int zdogs, .ref q1, .ref q2, u0, .ref q3, u1, .int zhungry, u2, u3, u4, u5, u6, u7, .ref q4, .ref q5, .ref q6, .int zatLeft_1, .int zatRight_2, .ref q7, u8, u9, u10, u11])), (q1, .inl (ci, 7, .inl zhalves)), (q2, .inl (ci, 7, .inl zlikes)), (q3, .inl (ci, 7, .inl zfears)), (q4, .inl (ci, 7, .inl zorder_3)), (q5, .inl (ci, 7, .inl zwent_4)), (q6, .inl (ci, 7, .inl zfill_5)), (q7, .inl (ci, 100, .inl zwinners_6))] := gD_re hD rfl
      refine lv_iload_n hx hb dX12_rests_79 rfl (lv_at hl 0 rfl) ?_
      refine lv_iconst (v := (-1 : Int32)) hx hb dX12_rests_80 (by decide) ?_
      refine lv_icmp_ne (tgt := 88) hx hb dX12_rests_81 (by decide) (fun hc => ?_) (fun hc => ?_)
      · have hw := hw.1 hc
        refine lv_bipush (v := (-6 : Int32)) hx hb dX12_rests_88 (by decide) ?_
        exact hret _ _ H locs _ _ ⟨_, _, _, _, _, _, rfl, hw⟩ hP hS dX12_rests_90
      · have hw := hw.2 hc
        refine lv_iload_n hx hb dX12_rests_84 rfl (lv_at hl 1 rfl) ?_
        refine lv_goto (tgt := 90) hx hb dX12_rests_85 (by decide) ?_
        exact hret _ _ H locs _ _ ⟨_, _, _, _, _, _, rfl, hw⟩ hP hS dX12_rests_90
    · intro J79 hJ79 hw
      refine lo_walk hw (fun G42 => ∀ (x2_8 : Int32) (x3_9 : Int32) (H : Heap) (locs : List Loc) (ls : Array Slot), G42 x2_8 x3_9 → va_P D vwCl [(q0, .inr (11, [.int zdogs, .ref q1, .ref q2, u0, .ref q3, u1, .int zhungry, u2, u3, u4, u5, u6, u7, .ref q4, .ref q5, .ref q6, .int zatLeft_1, .int zatRight_2, .ref q7, u8, u9, u10, u11])), (q1, .inl (ci, 7, .inl zhalves)), (q2, .inl (ci, 7, .inl zlikes)), (q3, .inl (ci, 7, .inl zfears)), (q4, .inl (ci, 7, .inl zorder_3)), (q5, .inl (ci, 7, .inl zwent_4)), (q6, .inl (ci, 7, .inl zfill_5)), (q7, .inl (ci, 100, .inl zwinners_6))] H → va_S A s.heap H locs → lv_has ls 4 [(0, .ref q0), (1, .int a1), (2, .int x2_8), (3, .int x3_9)] → W p l e R s m args below meth c H locs 0 0 Q (F0 m 42 ls [])) (fun _ _ _ _ _ hw _ _ _ => False.elim hw) (fun G42 hG42 x2_8 x3_9 H locs ls hw hP hS hl => ?_) (fun G42 hG42 hw => hG42 _ _ H locs ls hw hP hS (lv_sub hl [2, 3, 1, 0] rfl))
      have hD : va_D A [(q0, .inr (11, [.int zdogs, .ref q1, .ref q2, u0, .ref q3, u1, .int zhungry, u2, u3, u4, u5, u6, u7, .ref q4, .ref q5, .ref q6, .int zatLeft_1, .int zatRight_2, .ref q7, u8, u9, u10, u11])), (q1, .inl (ci, 7, .inl zhalves)), (q2, .inl (ci, 7, .inl zlikes)), (q3, .inl (ci, 7, .inl zfears)), (q4, .inl (ci, 7, .inl zorder_3)), (q5, .inl (ci, 7, .inl zwent_4)), (q6, .inl (ci, 7, .inl zfill_5)), (q7, .inl (ci, 100, .inl zwinners_6))] := gD_re hD rfl
      refine lv_iload_n hx hb dX12_rests_42 rfl (lv_at hl 3 rfl) ?_
      refine lv_bipush (v := (100 : Int32)) hx hb dX12_rests_43 (by decide) ?_
      refine lv_icmp_ge (tgt := 79) hx hb dX12_rests_45 (by decide) (fun hc => ?_) (fun hc => ?_)
      · have hw := hw.1 hc
        exact hJ79 _ H locs ls hw hP hS (lv_sub hl [1, 2] rfl)
      · have hw := hw.2 hc
        refine lv_aload_n hx hb dX12_rests_48 rfl (lv_at hl 0 rfl) ?_
        refine lv_iload_n hx hb dX12_rests_49 rfl (lv_at hl 3 rfl) ?_
        refine lv_bipush (v := (10 : Int32)) hx hb dX12_rests_50 (by decide) ?_
        refine lv_idiv hx hb dX12_rests_52 (by decide) ?_
        refine lv_iload_n hx hb dX12_rests_53 rfl (lv_at hl 3 rfl) ?_
        refine lv_bipush (v := (10 : Int32)) hx hb dX12_rests_54 (by decide) ?_
        refine lv_irem hx hb dX12_rests_56 (by decide) ?_
        refine gcalli (va_runV (As := [.int (x3_9 / (10 : Int32)), .int (x3_9 - x3_9 / (10 : Int32) * (10 : Int32))]) (rest := []) ⟨hx, hb, hml, hown, ht⟩ (c_X12_rest l D ci cz tr q0 q7 H.size (.int zdogs) (.ref q1) (.ref q2) u0 (.ref q3) u1 (.int zhungry) u2 u3 u4 u5 u6 u7 (.ref q4) (.ref q5) (.ref q6) (.int zatLeft_1) (.int zatRight_2) u8 u9 u10 u11 zwinners_6 (x3_9 / (10 : Int32)) (x3_9 - x3_9 / (10 : Int32) * (10 : Int32)) _ hw) (cwV 2 ht (gi_V mM_X12_120 mI_X12_rest mS_X12_rest mN_X12 mC_X12_rest) rfl rfl rfl (by decide +kernel) ⟨Nat.le_trans (Nat.le_of_ble_eq_true rfl) hfr, Nat.le_trans (Nat.le_of_ble_eq_true rfl) hlc⟩) (gpreV (wc := [(q0, .inr (11, [.int zdogs, .ref q1, .ref q2, u0, .ref q3, u1, .int zhungry, u2, u3, u4, u5, u6, u7, .ref q4, .ref q5, .ref q6, .int zatLeft_1, .int zatRight_2, .ref q7, u8, u9, u10, u11])), (q7, .inl (ci, 100, .inl zwinners_6))]) (k := 11) (q0 := 0) hK hZ hP hD hS hA [0, 7] rfl rfl rfl rfl rfl) rfl rfl hl.1 rfl (lv_room (Nat.le_of_ble_eq_true rfl)) dX12_rests_57 ⟨Nat.zero_le _, Nat.zero_le _⟩) hD hS hA [0, 7] rfl (fun r_10 w9 H locs hw hP9 hk9 hS => ?_)
        obtain ⟨rfl, hw⟩ := hw
        have hP : va_P D vwCl [(q0, .inr (11, [.int zdogs, .ref q1, .ref q2, u0, .ref q3, u1, .int zhungry, u2, u3, u4, u5, u6, u7, .ref q4, .ref q5, .ref q6, .int zatLeft_1, .int zatRight_2, .ref q7, u8, u9, u10, u11])), (q1, .inl (ci, 7, .inl zhalves)), (q2, .inl (ci, 7, .inl zlikes)), (q3, .inl (ci, 7, .inl zfears)), (q4, .inl (ci, 7, .inl zorder_3)), (q5, .inl (ci, 7, .inl zwent_4)), (q6, .inl (ci, 7, .inl zfill_5)), (q7, .inl (ci, 100, .inl zwinners_6))] H := gjoin3 hP hD [0, 7] hP9 hk9 rfl rfl [some 0, none, none, none, none, none, none, some 1] rfl rfl
        clear hP9 hk9
        refine lv_if_eq (tgt := 73) hx hb dX12_rests_60 (by decide) (fun hc => ?_) (fun hc => ?_)
        · have hw := hw.1 hc
          refine lv_iinc (v := (x3_9 + (1 : Int32))) (lv' := [(3, .int (x3_9 + (1 : Int32))), (0, .ref q0), (1, .int a1), (2, .int x2_8)]) hx hb dX12_rests_73 hl (k := 3) rfl rfl (by decide) rfl (fun ls hl => ?_)
          refine lv_goto (tgt := 42) hx hb dX12_rests_76 (by decide) ?_
          exact hG42 _ _ H locs ls hw hP hS (lv_sub hl [1, 2, 3, 0] rfl)
        · have hw := hw.2 hc
          refine lv_iload_n hx hb dX12_rests_63 rfl (lv_at hl 2 rfl) ?_
          refine lv_iload_n hx hb dX12_rests_64 rfl (lv_at hl 1 rfl) ?_
          refine lv_icmp_ne (tgt := 70) hx hb dX12_rests_65 (by decide) (fun hc => ?_) (fun hc => ?_)
          · have hw := hw.1 hc
            refine lv_iinc (v := (x2_8 + (1 : Int32))) (lv' := [(2, .int (x2_8 + (1 : Int32))), (0, .ref q0), (1, .int a1), (3, .int x3_9)]) hx hb dX12_rests_70 hl (k := 2) rfl rfl (by decide) rfl (fun ls hl => ?_)
            refine lv_iinc (v := (x3_9 + (1 : Int32))) (lv' := [(3, .int (x3_9 + (1 : Int32))), (2, .int (x2_8 + (1 : Int32))), (0, .ref q0), (1, .int a1)]) hx hb dX12_rests_73 hl (k := 3) rfl rfl (by decide) rfl (fun ls hl => ?_)
            refine lv_goto (tgt := 42) hx hb dX12_rests_76 (by decide) ?_
            exact hG42 _ _ H locs ls hw hP hS (lv_sub hl [2, 3, 1, 0] rfl)
          · have hw := hw.2 hc
            refine lv_iload_n hx hb dX12_rests_68 rfl (lv_at hl 3 rfl) ?_
            exact hret _ _ H locs _ _ ⟨_, _, _, _, _, _, rfl, hw⟩ hP hS dX12_rests_69
  · intro J38 hJ38 hw
    refine lo_walk hw (fun G2 => ∀ (x2_11 : Int32) (zatLeft_12 : Int32) (zatRight_13 : Int32) (zorder_14 : Nat → Int32) (zwent_15 : Nat → Int32) (zfill_16 : Nat → Int32) (zwinners_17 : Nat → Int32) (H : Heap) (locs : List Loc) (ls : Array Slot), G2 x2_11 zatLeft_12 zatRight_13 zorder_14 zwent_15 zfill_16 zwinners_17 → va_P D vwCl [(q0, .inr (11, [.int zdogs, .ref q1, .ref q2, u0, .ref q3, u1, .int zhungry, u2, u3, u4, u5, u6, u7, .ref q4, .ref q5, .ref q6, .int zatLeft_12, .int zatRight_13, .ref q7, u8, u9, u10, u11])), (q1, .inl (ci, 7, .inl zhalves)), (q2, .inl (ci, 7, .inl zlikes)), (q3, .inl (ci, 7, .inl zfears)), (q4, .inl (ci, 7, .inl zorder_14)), (q5, .inl (ci, 7, .inl zwent_15)), (q6, .inl (ci, 7, .inl zfill_16)), (q7, .inl (ci, 100, .inl zwinners_17))] H → va_S A s.heap H locs → lv_has ls 4 [(0, .ref q0), (1, .int a1), (2, .int x2_11)] → W p l e R s m args below meth c H locs 0 0 Q (F0 m 2 ls [])) (fun _ _ _ _ _ _ _ _ _ _ hw _ _ _ => False.elim hw) (fun G2 hG2 x2_11 zatLeft_12 zatRight_13 zorder_14 zwent_15 zfill_16 zwinners_17 H locs ls hw hP hS hl => ?_) (fun G2 hG2 hw => hG2 _ _ _ _ _ _ _ H locs ls hw hP hS (lv_sub hl [1, 2, 0] rfl))
    have hD : va_D A [(q0, .inr (11, [.int zdogs, .ref q1, .ref q2, u0, .ref q3, u1, .int zhungry, u2, u3, u4, u5, u6, u7, .ref q4, .ref q5, .ref q6, .int zatLeft_12, .int zatRight_13, .ref q7, u8, u9, u10, u11])), (q1, .inl (ci, 7, .inl zhalves)), (q2, .inl (ci, 7, .inl zlikes)), (q3, .inl (ci, 7, .inl zfears)), (q4, .inl (ci, 7, .inl zorder_14)), (q5, .inl (ci, 7, .inl zwent_15)), (q6, .inl (ci, 7, .inl zfill_16)), (q7, .inl (ci, 100, .inl zwinners_17))] := gD_re hD rfl
    refine lv_iload_n hx hb dX12_rests_2 rfl (lv_at hl 2 rfl) ?_
    refine lv_bipush (v := (100 : Int32)) hx hb dX12_rests_3 (by decide) ?_
    refine lv_icmp_ge (tgt := 38) hx hb dX12_rests_5 (by decide) (fun hc => ?_) (fun hc => ?_)
    · have hw := hw.1 hc
      exact hJ38 _ _ _ _ _ _ H locs ls hw hP hS (lv_sub hl [0, 1] rfl)
    · have hw := hw.2 hc
      refine lv_aload_n hx hb dX12_rests_8 rfl (lv_at hl 0 rfl) ?_
      refine lv_iload_n hx hb dX12_rests_9 rfl (lv_at hl 2 rfl) ?_
      refine lv_bipush (v := (10 : Int32)) hx hb dX12_rests_10 (by decide) ?_
      refine lv_idiv hx hb dX12_rests_12 (by decide) ?_
      refine lv_iload_n hx hb dX12_rests_13 rfl (lv_at hl 2 rfl) ?_
      refine lv_bipush (v := (10 : Int32)) hx hb dX12_rests_14 (by decide) ?_
      refine lv_irem hx hb dX12_rests_16 (by decide) ?_
      refine lv_bipush (v := (-6 : Int32)) hx hb dX12_rests_17 (by decide) ?_
      refine gcallv (va_runV (As := [.int (x2_11 / (10 : Int32)), .int (x2_11 - x2_11 / (10 : Int32) * (10 : Int32)), .int (-6 : Int32)]) (rest := []) ⟨hx, hb, hml, hown, ht⟩ (c_X12_fresh l D ci cz tr q0 q1 q2 q3 q4 q5 q6 H.size u0 u1 u2 u3 u4 u5 u6 u7 (.ref q7) u8 u9 u10 u11 zdogs zhungry zatLeft_12 zatRight_13 zhalves zlikes zfears zorder_14 zwent_15 zfill_16 (x2_11 / (10 : Int32)) (x2_11 - x2_11 / (10 : Int32) * (10 : Int32)) (-6 : Int32) _ hw) (cwV 3 ht (gi_V mM_X12_110 mI_X12_fresh mS_X12_fresh mN_X12 mC_X12_fresh) rfl rfl rfl (by decide +kernel) ⟨Nat.le_trans (Nat.le_of_ble_eq_true rfl) hfr, Nat.le_trans (Nat.le_of_ble_eq_true rfl) hlc⟩) (gpreV (wc := [(q0, .inr (11, [.int zdogs, .ref q1, .ref q2, u0, .ref q3, u1, .int zhungry, u2, u3, u4, u5, u6, u7, .ref q4, .ref q5, .ref q6, .int zatLeft_12, .int zatRight_13, .ref q7, u8, u9, u10, u11])), (q1, .inl (ci, 7, .inl zhalves)), (q2, .inl (ci, 7, .inl zlikes)), (q3, .inl (ci, 7, .inl zfears)), (q4, .inl (ci, 7, .inl zorder_14)), (q5, .inl (ci, 7, .inl zwent_15)), (q6, .inl (ci, 7, .inl zfill_16))]) (k := 11) (q0 := 0) hK hZ hP hD hS hA [0, 1, 2, 3, 4, 5, 6] rfl rfl rfl rfl rfl) rfl rfl hl.1 rfl (lv_room (Nat.le_of_ble_eq_true rfl)) dX12_rests_19 ⟨Nat.zero_le _, Nat.zero_le _⟩) hD hS hA [0, 1, 2, 3, 4, 5, 6] rfl (fun w9 H locs hw hP9 hk9 hS => ?_)
      obtain ⟨zatLeft_19, zatRight_20, zorder_21, zwent_22, zfill_23, rfl, hw⟩ := hw
      have hP : va_P D vwCl [(q0, .inr (11, [.int zdogs, .ref q1, .ref q2, u0, .ref q3, u1, .int zhungry, u2, u3, u4, u5, u6, u7, .ref q4, .ref q5, .ref q6, .int zatLeft_19, .int zatRight_20, .ref q7, u8, u9, u10, u11])), (q1, .inl (ci, 7, .inl zhalves)), (q2, .inl (ci, 7, .inl zlikes)), (q3, .inl (ci, 7, .inl zfears)), (q4, .inl (ci, 7, .inl zorder_21)), (q5, .inl (ci, 7, .inl zwent_22)), (q6, .inl (ci, 7, .inl zfill_23)), (q7, .inl (ci, 100, .inl zwinners_17))] H := gjoin3 hP hD [0, 1, 2, 3, 4, 5, 6] hP9 hk9 rfl rfl [some 0, some 1, some 2, some 3, some 4, some 5, some 6, none] rfl rfl
      have hD : va_D A [(q0, .inr (11, [.int zdogs, .ref q1, .ref q2, u0, .ref q3, u1, .int zhungry, u2, u3, u4, u5, u6, u7, .ref q4, .ref q5, .ref q6, .int zatLeft_19, .int zatRight_20, .ref q7, u8, u9, u10, u11])), (q1, .inl (ci, 7, .inl zhalves)), (q2, .inl (ci, 7, .inl zlikes)), (q3, .inl (ci, 7, .inl zfears)), (q4, .inl (ci, 7, .inl zorder_21)), (q5, .inl (ci, 7, .inl zwent_22)), (q6, .inl (ci, 7, .inl zfill_23)), (q7, .inl (ci, 100, .inl zwinners_17))] := gD_re hD rfl
      clear hP9 hk9
      refine lv_aload_n hx hb dX12_rests_22 rfl (lv_at hl 0 rfl) ?_
      refine va_get (D := D) (ci := 11) (v := .ref q7) (C := RX12) (T := TX12) (N := 23) hx hb ht in_X12 hown hK.1 hP 0 rfl rfl 18 (by decide) (ht _ mF_X12_48) (fun _ h9 => h9) rfl dX12_rests_23 ?_
      refine lv_iload_n hx hb dX12_rests_26 rfl (lv_at hl 2 rfl) ?_
      refine lv_aload_n hx hb dX12_rests_27 rfl (lv_at hl 0 rfl) ?_
      refine gcalli (va_runV (As := []) (rest := [.int x2_11, .ref q7]) ⟨hx, hb, hml, hown, ht⟩ (c_X12_winner l D ci cz tr q0 H.size (.int zdogs) (.ref q1) (.ref q2) u0 (.ref q3) u1 (.int zhungry) u2 u3 u4 u5 u6 u7 (.ref q4) (.ref q5) (.ref q6) (.ref q7) u8 u9 u10 u11 zatLeft_19 zatRight_20 _ hw) (cwV 0 ht (gi_V mM_X12_113 mI_X12_winner mS_X12_winner mN_X12 mC_X12_winner) rfl rfl rfl (by decide +kernel) ⟨Nat.le_trans (Nat.le_of_ble_eq_true rfl) hfr, Nat.le_trans (Nat.le_of_ble_eq_true rfl) hlc⟩) (gpreV (wc := [(q0, .inr (11, [.int zdogs, .ref q1, .ref q2, u0, .ref q3, u1, .int zhungry, u2, u3, u4, u5, u6, u7, .ref q4, .ref q5, .ref q6, .int zatLeft_19, .int zatRight_20, .ref q7, u8, u9, u10, u11]))]) (k := 11) (q0 := 0) hK hZ hP hD hS hA [0] rfl rfl rfl rfl rfl) rfl rfl hl.1 rfl (lv_room (Nat.le_of_ble_eq_true rfl)) dX12_rests_28 ⟨Nat.zero_le _, Nat.zero_le _⟩) hD hS hA [0] rfl (fun r_24 w9 H locs hw hP9 hk9 hS => ?_)
      obtain ⟨rfl, hw⟩ := hw
      have hP : va_P D vwCl [(q0, .inr (11, [.int zdogs, .ref q1, .ref q2, u0, .ref q3, u1, .int zhungry, u2, u3, u4, u5, u6, u7, .ref q4, .ref q5, .ref q6, .int zatLeft_19, .int zatRight_20, .ref q7, u8, u9, u10, u11])), (q1, .inl (ci, 7, .inl zhalves)), (q2, .inl (ci, 7, .inl zlikes)), (q3, .inl (ci, 7, .inl zfears)), (q4, .inl (ci, 7, .inl zorder_21)), (q5, .inl (ci, 7, .inl zwent_22)), (q6, .inl (ci, 7, .inl zfill_23)), (q7, .inl (ci, 100, .inl zwinners_17))] H := gjoin3 hP hD [0] hP9 hk9 rfl rfl [some 0, none, none, none, none, none, none, none] rfl rfl
      clear hP9 hk9
      obtain ⟨hin, hw⟩ := hw
      refine va_iast (D := D) hx hb hK.1 hP hD hS 7 0 rfl rfl hin dX12_rests_31 (fun H locs hP hD hS => ?_)
      have hP : va_P D vwCl [(q0, .inr (11, [.int zdogs, .ref q1, .ref q2, u0, .ref q3, u1, .int zhungry, u2, u3, u4, u5, u6, u7, .ref q4, .ref q5, .ref q6, .int zatLeft_19, .int zatRight_20, .ref q7, u8, u9, u10, u11])), (q1, .inl (ci, 7, .inl zhalves)), (q2, .inl (ci, 7, .inl zlikes)), (q3, .inl (ci, 7, .inl zfears)), (q4, .inl (ci, 7, .inl zorder_21)), (q5, .inl (ci, 7, .inl zwent_22)), (q6, .inl (ci, 7, .inl zfill_23)), (q7, .inl (ci, 100, .inl (upd zwinners_17 (x2_11).toNatClampNeg r_24)))] H := hP
      have hD : va_D A [(q0, .inr (11, [.int zdogs, .ref q1, .ref q2, u0, .ref q3, u1, .int zhungry, u2, u3, u4, u5, u6, u7, .ref q4, .ref q5, .ref q6, .int zatLeft_19, .int zatRight_20, .ref q7, u8, u9, u10, u11])), (q1, .inl (ci, 7, .inl zhalves)), (q2, .inl (ci, 7, .inl zlikes)), (q3, .inl (ci, 7, .inl zfears)), (q4, .inl (ci, 7, .inl zorder_21)), (q5, .inl (ci, 7, .inl zwent_22)), (q6, .inl (ci, 7, .inl zfill_23)), (q7, .inl (ci, 100, .inl (upd zwinners_17 (x2_11).toNatClampNeg r_24)))] := hD
      refine lv_iinc (v := (x2_11 + (1 : Int32))) (lv' := [(2, .int (x2_11 + (1 : Int32))), (0, .ref q0), (1, .int a1)]) hx hb dX12_rests_32 hl (k := 2) rfl rfl (by decide) rfl (fun ls hl => ?_)
      refine lv_goto (tgt := 2) hx hb dX12_rests_35 (by decide) ?_
      exact hG2 _ _ _ _ _ _ _ H locs ls hw hP hS (lv_sub hl [1, 2, 0] rfl)

def wp_X12_roll (zdogs : Int32) (zcounts : Int32) (zsigns : Int32) (zhalves : Nat → Int32) (zlikes : Nat → Int32) (zisTold : Nat → Int32) (zfears : Nat → Int32) (zheirs : Nat → Int32) (zpad : Nat → Int32)  (post : Int32 → Int32 → Int32 → Int32 → (Nat → Int32) → (Nat → Int32) → (Nat → Int32) → (Nat → Int32) → (Nat → Int32) → Prop) : Prop :=
  wp_X12_faultOf zsigns zpad (fun (r_1 : Int32) => ((r_1 < 0 → jn (fun (zfears_2 : Nat → Int32) (zheirs_3 : Nat → Int32) => jn (fun (zdogs_4 : Int32) (zhalves_5 : Nat → Int32) (zlikes_6 : Nat → Int32) (zisTold_7 : Nat → Int32) (zfears_8 : Nat → Int32) => post zdogs_4 zdogs_4 (0 : Int32) (0 : Int32) zhalves_5 zlikes_6 zisTold_7 zfears_8 zheirs_3) (fun (J243 : Int32 → (Nat → Int32) → (Nat → Int32) → (Nat → Int32) → (Nat → Int32) → Prop) => lo (fun _ _ _ _ _ _ => False) (fun (G51 : Int32 → Int32 → (Nat → Int32) → (Nat → Int32) → (Nat → Int32) → (Nat → Int32) → Prop) (x1_9 : Int32) (zdogs_10 : Int32) (zhalves_11 : Nat → Int32) (zlikes_12 : Nat → Int32) (zisTold_13 : Nat → Int32) (zfears_14 : Nat → Int32) => ((zsigns ≤ x1_9 → J243 zdogs_10 zhalves_11 zlikes_12 zisTold_13 zfears_14) ∧ (¬ zsigns ≤ x1_9 → (vp_in x1_9 60 ∧ (vp_in zdogs_10 7 ∧ (vp_in (x1_9 + (1 : Int32)) 60 ∧ jn (fun (t_15 : Int32) => (vp_in zdogs_10 7 ∧ (vp_in zdogs_10 7 ∧ (vp_in zdogs_10 7 ∧ ((((upd zisTold_13 (zdogs_10).toNatClampNeg (vp_nar .boolean t_15)) (zdogs_10).toNatClampNeg) = 0 → jn (fun (x1_16 : Int32) (zfears_17 : Nat → Int32) => G51 (x1_16 + (1 : Int32)) (zdogs_10 + (1 : Int32)) (upd zhalves_11 (zdogs_10).toNatClampNeg ((zpad (x1_9).toNatClampNeg) - (48 : Int32))) (upd zlikes_12 (zdogs_10).toNatClampNeg (0 : Int32)) (upd zisTold_13 (zdogs_10).toNatClampNeg (vp_nar .boolean t_15)) zfears_17) (fun (J227 : Int32 → (Nat → Int32) → Prop) => lo (fun _ _ => False) (fun (G172 : Int32 → (Nat → Int32) → Prop) (x1_18 : Int32) (zfears_19 : Nat → Int32) => (vp_in x1_18 60 ∧ (((zpad (x1_18).toNatClampNeg) = (59 : Int32) → J227 x1_18 zfears_19) ∧ (¬ (zpad (x1_18).toNatClampNeg) = (59 : Int32) → (vp_in zdogs_10 7 ∧ (vp_in x1_18 60 ∧ jn (fun (t_20 : Int32) => (vp_in zdogs_10 7 ∧ G172 (x1_18 + (1 : Int32)) (upd zfears_19 (zdogs_10).toNatClampNeg ((zfears_19 (zdogs_10).toNatClampNeg) ||| t_20)))) (fun (J219 : Int32 → Prop) => ((¬ (zpad (x1_18).toNatClampNeg) = (33 : Int32) → (vp_in x1_18 60 ∧ J219 ((1 : Int32) <<< (((zpad (x1_18).toNatClampNeg) - (97 : Int32)) &&& 31)))) ∧ ((zpad (x1_18).toNatClampNeg) = (33 : Int32) → J219 (0 : Int32)))))))))) (fun G172 => G172 (x1_9 + (2 : Int32)) zfears_14))) ∧ (¬ ((upd zisTold_13 (zdogs_10).toNatClampNeg (vp_nar .boolean t_15)) (zdogs_10).toNatClampNeg) = 0 → (vp_in (x1_9 + (2 : Int32)) 60 ∧ (vp_in (x1_9 + (1 : Int32)) 60 ∧ jn (fun (t_21 : Int32) => (vp_in zdogs_10 7 ∧ jn (fun (x1_22 : Int32) (zfears_23 : Nat → Int32) => G51 (x1_22 + (1 : Int32)) (zdogs_10 + (1 : Int32)) (upd zhalves_11 (zdogs_10).toNatClampNeg ((zpad (x1_9).toNatClampNeg) - (48 : Int32))) (upd (upd zlikes_12 (zdogs_10).toNatClampNeg (0 : Int32)) (zdogs_10).toNatClampNeg t_21) (upd zisTold_13 (zdogs_10).toNatClampNeg (vp_nar .boolean t_15)) zfears_23) (fun (J227 : Int32 → (Nat → Int32) → Prop) => lo (fun _ _ => False) (fun (G172 : Int32 → (Nat → Int32) → Prop) (x1_24 : Int32) (zfears_25 : Nat → Int32) => (vp_in x1_24 60 ∧ (((zpad (x1_24).toNatClampNeg) = (59 : Int32) → J227 x1_24 zfears_25) ∧ (¬ (zpad (x1_24).toNatClampNeg) = (59 : Int32) → (vp_in zdogs_10 7 ∧ (vp_in x1_24 60 ∧ jn (fun (t_26 : Int32) => (vp_in zdogs_10 7 ∧ G172 (x1_24 + (1 : Int32)) (upd zfears_25 (zdogs_10).toNatClampNeg ((zfears_25 (zdogs_10).toNatClampNeg) ||| t_26)))) (fun (J219 : Int32 → Prop) => ((¬ (zpad (x1_24).toNatClampNeg) = (33 : Int32) → (vp_in x1_24 60 ∧ J219 ((1 : Int32) <<< (((zpad (x1_24).toNatClampNeg) - (97 : Int32)) &&& 31)))) ∧ ((zpad (x1_24).toNatClampNeg) = (33 : Int32) → J219 (0 : Int32)))))))))) (fun G172 => G172 ((x1_9 + (1 : Int32)) + (2 : Int32)) zfears_14)))) (fun (J165 : Int32 → Prop) => ((¬ (zpad ((x1_9 + (1 : Int32))).toNatClampNeg) = (43 : Int32) → J165 (-((zpad ((x1_9 + (2 : Int32))).toNatClampNeg) - (48 : Int32)))) ∧ ((zpad ((x1_9 + (1 : Int32))).toNatClampNeg) = (43 : Int32) → J165 ((zpad ((x1_9 + (2 : Int32))).toNatClampNeg) - (48 : Int32))))))))))))) (fun (J103 : Int32 → Prop) => (((zpad ((x1_9 + (1 : Int32))).toNatClampNeg) = (63 : Int32) → J103 (0 : Int32)) ∧ (¬ (zpad ((x1_9 + (1 : Int32))).toNatClampNeg) = (63 : Int32) → J103 (1 : Int32)))))))))) (fun G51 => G51 (0 : Int32) (0 : Int32) zhalves zlikes zisTold zfears_2))) (fun (J49 : (Nat → Int32) → (Nat → Int32) → Prop) => lo (fun _ _ _ => False) (fun (G22 : Int32 → (Nat → Int32) → (Nat → Int32) → Prop) (x1_27 : Int32) (zfears_28 : Nat → Int32) (zheirs_29 : Nat → Int32) => (((7 : Int32) ≤ x1_27 → J49 zfears_28 zheirs_29) ∧ (¬ (7 : Int32) ≤ x1_27 → (vp_in x1_27 7 ∧ (vp_in x1_27 7 ∧ G22 (x1_27 + (1 : Int32)) (upd zfears_28 (x1_27).toNatClampNeg (0 : Int32)) (upd zheirs_29 (x1_27).toNatClampNeg (-6 : Int32))))))) (fun G22 => G22 (0 : Int32) zfears zheirs))) ∧ (¬ r_1 < 0 → post (-5 : Int32) zdogs zcounts zsigns zhalves zlikes zisTold zfears zheirs)))
set_option maxHeartbeats 4000000 in
set_option maxRecDepth 100000 in
theorem c_X12_roll (l : Launch) (D : va_G) (ci cz : ClassId) (tr : List (ClassId × FieldType)) (q0 q1 q2 q3 q4 q5 q6 : Nat) (sz : Nat) (u0 u1 u2 u3 u4 u5 u6 u7 u8 u9 u10 u11 u12 u13 : Value) (zdogs : Int32) (zcounts : Int32) (zsigns : Int32) (zhalves : Nat → Int32) (zlikes : Nat → Int32) (zisTold : Nat → Int32) (zfears : Nat → Int32) (zheirs : Nat → Int32) (zpad : Nat → Int32)  (post : Int32 → Int32 → Int32 → Int32 → (Nat → Int32) → (Nat → Int32) → (Nat → Int32) → (Nat → Int32) → (Nat → Int32) → Prop) (hw : wp_X12_roll zdogs zcounts zsigns zhalves zlikes zisTold zfears zheirs zpad post) : gM l yX12_roll cX12_roll 3 (some .int) 2 50 D ci cz tr [(q0, .inr (11, [.int zdogs, .ref q1, .ref q2, .ref q3, .ref q4, .ref q5, u0, .int zcounts, u1, u2, u3, .int zsigns, .ref q6, u4, u5, u6, u7, u8, u9, u10, u11, u12, u13])), (q1, .inl (ci, 7, .inl zhalves)), (q2, .inl (ci, 7, .inl zlikes)), (q3, .inl (cz, 7, .inl zisTold)), (q4, .inl (ci, 7, .inl zfears)), (q5, .inl (ci, 7, .inl zheirs)), (q6, .inl (ci, 60, .inl zpad))] sz [.ref q0] (gQi D [(q0, .inr (11, [.int zdogs, .ref q1, .ref q2, .ref q3, .ref q4, .ref q5, u0, .int zcounts, u1, u2, u3, .int zsigns, .ref q6, u4, u5, u6, u7, u8, u9, u10, u11, u12, u13])), (q1, .inl (ci, 7, .inl zhalves)), (q2, .inl (ci, 7, .inl zlikes)), (q3, .inl (cz, 7, .inl zisTold)), (q4, .inl (ci, 7, .inl zfears)), (q5, .inl (ci, 7, .inl zheirs)), (q6, .inl (ci, 60, .inl zpad))] sz (fun (r : Int32) w => ∃ (o_zdogs : Int32) (o_zcounts : Int32) (o_zsigns : Int32) (o_zhalves : Nat → Int32) (o_zlikes : Nat → Int32) (o_zisTold : Nat → Int32) (o_zfears : Nat → Int32) (o_zheirs : Nat → Int32), w = [(q0, .inr (11, [.int o_zdogs, .ref q1, .ref q2, .ref q3, .ref q4, .ref q5, u0, .int o_zcounts, u1, u2, u3, .int o_zsigns, .ref q6, u4, u5, u6, u7, u8, u9, u10, u11, u12, u13])), (q1, .inl (ci, 7, .inl o_zhalves)), (q2, .inl (ci, 7, .inl o_zlikes)), (q3, .inl (cz, 7, .inl o_zisTold)), (q4, .inl (ci, 7, .inl o_zfears)), (q5, .inl (ci, 7, .inl o_zheirs)), (q6, .inl (ci, 60, .inl zpad))] ∧ post r o_zdogs o_zcounts o_zsigns o_zhalves o_zlikes o_zisTold o_zfears o_zheirs)) := by
  refine gmet_i RX12 (by decide +kernel) rfl (Nat.le_of_ble_eq_true rfl) ?_
  intro p e s m args below meth c A R Q C hfr hlc hP hD hret ls hl
  obtain ⟨hx, hb, hml, hown, ht, hK, hZ, hA⟩ := C
  have hl : lv_has ls 3 [(0, .ref q0)] := hl
  unfold wp_X12_roll at hw
  refine g_in (fun H locs => W p l e R s m args below meth c H locs 0 0 Q (F0 m 0 ls [])) (fun H locs hS0 hP => ?_) hP (va_S.rf (A := A) (H0 := s.heap))
  have hS : va_S A s.heap H locs := hS0
  clear hS0
  refine lv_aload_n hx hb dX12_roll_0 rfl (lv_at hl 0 rfl) ?_
  refine gcalli (va_runV (As := []) (rest := []) ⟨hx, hb, hml, hown, ht⟩ (c_X12_faultOf l D ci cz tr q0 q6 H.size (.int zdogs) (.ref q1) (.ref q2) (.ref q3) (.ref q4) (.ref q5) u0 (.int zcounts) u1 u2 u3 u4 u5 u6 u7 u8 u9 u10 u11 u12 u13 zsigns zpad _ hw) (cwV 0 ht (gi_V mM_X12_73 mI_X12_faultOf mS_X12_faultOf mN_X12 mC_X12_faultOf) rfl rfl rfl (by decide +kernel) ⟨Nat.le_trans (Nat.le_of_ble_eq_true rfl) hfr, Nat.le_trans (Nat.le_of_ble_eq_true rfl) hlc⟩) (gpreV (wc := [(q0, .inr (11, [.int zdogs, .ref q1, .ref q2, .ref q3, .ref q4, .ref q5, u0, .int zcounts, u1, u2, u3, .int zsigns, .ref q6, u4, u5, u6, u7, u8, u9, u10, u11, u12, u13])), (q6, .inl (ci, 60, .inl zpad))]) (k := 11) (q0 := 0) hK hZ hP hD hS hA [0, 6] rfl rfl rfl rfl rfl) rfl rfl hl.1 rfl (lv_room (Nat.le_of_ble_eq_true rfl)) dX12_roll_1 ⟨Nat.zero_le _, Nat.zero_le _⟩) hD hS hA [0, 6] rfl (fun r_1 w9 H locs hw hP9 hk9 hS => ?_)
  obtain ⟨rfl, hw⟩ := hw
  have hP : va_P D vwCl [(q0, .inr (11, [.int zdogs, .ref q1, .ref q2, .ref q3, .ref q4, .ref q5, u0, .int zcounts, u1, u2, u3, .int zsigns, .ref q6, u4, u5, u6, u7, u8, u9, u10, u11, u12, u13])), (q1, .inl (ci, 7, .inl zhalves)), (q2, .inl (ci, 7, .inl zlikes)), (q3, .inl (cz, 7, .inl zisTold)), (q4, .inl (ci, 7, .inl zfears)), (q5, .inl (ci, 7, .inl zheirs)), (q6, .inl (ci, 60, .inl zpad))] H := gjoin3 hP hD [0, 6] hP9 hk9 rfl rfl [some 0, none, none, none, none, none, some 1] rfl rfl
  clear hP9 hk9
  refine lv_if_lt (tgt := 10) hx hb dX12_roll_4 (by decide) (fun hc => ?_) (fun hc => ?_)
  · have hw := hw.1 hc
    refine lv_aload_n hx hb dX12_roll_10 rfl (lv_at hl 0 rfl) ?_
    refine lv_iconst (v := (0 : Int32)) hx hb dX12_roll_11 (by decide) ?_
    refine va_put (D := D) (ci := 11) (v := .int (0 : Int32)) (ty := .int) (C := RX12) (T := TX12) (N := 23) hx hb ht in_X12 tyX12 tyX12_ok nmX12 hown hK.1 hP hD hS 0 rfl rfl 0 (by decide) (ht _ mF_X12_63) (fun _ h9 => h9) rfl (by decide +kernel) rfl rfl (Nat.le_of_ble_eq_true rfl) dX12_roll_12 (fun H locs hP hD hS => ?_)
    have hP : va_P D vwCl [(q0, .inr (11, [.int (0 : Int32), .ref q1, .ref q2, .ref q3, .ref q4, .ref q5, u0, .int zcounts, u1, u2, u3, .int zsigns, .ref q6, u4, u5, u6, u7, u8, u9, u10, u11, u12, u13])), (q1, .inl (ci, 7, .inl zhalves)), (q2, .inl (ci, 7, .inl zlikes)), (q3, .inl (cz, 7, .inl zisTold)), (q4, .inl (ci, 7, .inl zfears)), (q5, .inl (ci, 7, .inl zheirs)), (q6, .inl (ci, 60, .inl zpad))] H := hP
    have hD : va_D A [(q0, .inr (11, [.int (0 : Int32), .ref q1, .ref q2, .ref q3, .ref q4, .ref q5, u0, .int zcounts, u1, u2, u3, .int zsigns, .ref q6, u4, u5, u6, u7, u8, u9, u10, u11, u12, u13])), (q1, .inl (ci, 7, .inl zhalves)), (q2, .inl (ci, 7, .inl zlikes)), (q3, .inl (cz, 7, .inl zisTold)), (q4, .inl (ci, 7, .inl zfears)), (q5, .inl (ci, 7, .inl zheirs)), (q6, .inl (ci, 60, .inl zpad))] := hD
    refine lv_aload_n hx hb dX12_roll_15 rfl (lv_at hl 0 rfl) ?_
    refine lv_iconst (v := (0 : Int32)) hx hb dX12_roll_16 (by decide) ?_
    refine va_put (D := D) (ci := 11) (v := .int (0 : Int32)) (ty := .int) (C := RX12) (T := TX12) (N := 23) hx hb ht in_X12 tyX12 tyX12_ok nmX12 hown hK.1 hP hD hS 0 rfl rfl 7 (by decide) (ht _ mF_X12_77) (fun _ h9 => h9) rfl (by decide +kernel) rfl rfl (Nat.le_of_ble_eq_true rfl) dX12_roll_17 (fun H locs hP hD hS => ?_)
    have hP : va_P D vwCl [(q0, .inr (11, [.int (0 : Int32), .ref q1, .ref q2, .ref q3, .ref q4, .ref q5, u0, .int (0 : Int32), u1, u2, u3, .int zsigns, .ref q6, u4, u5, u6, u7, u8, u9, u10, u11, u12, u13])), (q1, .inl (ci, 7, .inl zhalves)), (q2, .inl (ci, 7, .inl zlikes)), (q3, .inl (cz, 7, .inl zisTold)), (q4, .inl (ci, 7, .inl zfears)), (q5, .inl (ci, 7, .inl zheirs)), (q6, .inl (ci, 60, .inl zpad))] H := hP
    have hD : va_D A [(q0, .inr (11, [.int (0 : Int32), .ref q1, .ref q2, .ref q3, .ref q4, .ref q5, u0, .int (0 : Int32), u1, u2, u3, .int zsigns, .ref q6, u4, u5, u6, u7, u8, u9, u10, u11, u12, u13])), (q1, .inl (ci, 7, .inl zhalves)), (q2, .inl (ci, 7, .inl zlikes)), (q3, .inl (cz, 7, .inl zisTold)), (q4, .inl (ci, 7, .inl zfears)), (q5, .inl (ci, 7, .inl zheirs)), (q6, .inl (ci, 60, .inl zpad))] := hD
    refine lv_iconst (v := (0 : Int32)) hx hb dX12_roll_20 (by decide) ?_
    refine lv_istore_n (lv' := [(1, .int (0 : Int32)), (0, .ref q0)]) hx hb dX12_roll_21 rfl hl (by decide) rfl (fun ls hl => ?_)
    refine jn_walk hw (fun J49 => ∀ (zfears_2 : Nat → Int32) (zheirs_3 : Nat → Int32) (H : Heap) (locs : List Loc) (ls : Array Slot), J49 zfears_2 zheirs_3 → va_P D vwCl [(q0, .inr (11, [.int (0 : Int32), .ref q1, .ref q2, .ref q3, .ref q4, .ref q5, u0, .int (0 : Int32), u1, u2, u3, .int zsigns, .ref q6, u4, u5, u6, u7, u8, u9, u10, u11, u12, u13])), (q1, .inl (ci, 7, .inl zhalves)), (q2, .inl (ci, 7, .inl zlikes)), (q3, .inl (cz, 7, .inl zisTold)), (q4, .inl (ci, 7, .inl zfears_2)), (q5, .inl (ci, 7, .inl zheirs_3)), (q6, .inl (ci, 60, .inl zpad))] H → va_S A s.heap H locs → lv_has ls 3 [(0, .ref q0)] → W p l e R s m args below meth c H locs 0 0 Q (F0 m 49 ls [])) ?_ ?_
    · intro zfears_2 zheirs_3 H locs ls hw hP hS hl
      have hD : va_D A [(q0, .inr (11, [.int (0 : Int32), .ref q1, .ref q2, .ref q3, .ref q4, .ref q5, u0, .int (0 : Int32), u1, u2, u3, .int zsigns, .ref q6, u4, u5, u6, u7, u8, u9, u10, u11, u12, u13])), (q1, .inl (ci, 7, .inl zhalves)), (q2, .inl (ci, 7, .inl zlikes)), (q3, .inl (cz, 7, .inl zisTold)), (q4, .inl (ci, 7, .inl zfears_2)), (q5, .inl (ci, 7, .inl zheirs_3)), (q6, .inl (ci, 60, .inl zpad))] := gD_re hD rfl
      refine lv_iconst (v := (0 : Int32)) hx hb dX12_roll_49 (by decide) ?_
      refine lv_istore_n (lv' := [(1, .int (0 : Int32)), (0, .ref q0)]) hx hb dX12_roll_50 rfl hl (by decide) rfl (fun ls hl => ?_)
      refine jn_walk hw (fun J243 => ∀ (zdogs_4 : Int32) (zhalves_5 : Nat → Int32) (zlikes_6 : Nat → Int32) (zisTold_7 : Nat → Int32) (zfears_8 : Nat → Int32) (H : Heap) (locs : List Loc) (ls : Array Slot), J243 zdogs_4 zhalves_5 zlikes_6 zisTold_7 zfears_8 → va_P D vwCl [(q0, .inr (11, [.int zdogs_4, .ref q1, .ref q2, .ref q3, .ref q4, .ref q5, u0, .int (0 : Int32), u1, u2, u3, .int zsigns, .ref q6, u4, u5, u6, u7, u8, u9, u10, u11, u12, u13])), (q1, .inl (ci, 7, .inl zhalves_5)), (q2, .inl (ci, 7, .inl zlikes_6)), (q3, .inl (cz, 7, .inl zisTold_7)), (q4, .inl (ci, 7, .inl zfears_8)), (q5, .inl (ci, 7, .inl zheirs_3)), (q6, .inl (ci, 60, .inl zpad))] H → va_S A s.heap H locs → lv_has ls 3 [(0, .ref q0)] → W p l e R s m args below meth c H locs 0 0 Q (F0 m 243 ls [])) ?_ ?_
      · intro zdogs_4 zhalves_5 zlikes_6 zisTold_7 zfears_8 H locs ls hw hP hS hl
        have hD : va_D A [(q0, .inr (11, [.int zdogs_4, .ref q1, .ref q2, .ref q3, .ref q4, .ref q5, u0, .int (0 : Int32), u1, u2, u3, .int zsigns, .ref q6, u4, u5, u6, u7, u8, u9, u10, u11, u12, u13])), (q1, .inl (ci, 7, .inl zhalves_5)), (q2, .inl (ci, 7, .inl zlikes_6)), (q3, .inl (cz, 7, .inl zisTold_7)), (q4, .inl (ci, 7, .inl zfears_8)), (q5, .inl (ci, 7, .inl zheirs_3)), (q6, .inl (ci, 60, .inl zpad))] := gD_re hD rfl
        refine lv_aload_n hx hb dX12_roll_243 rfl (lv_at hl 0 rfl) ?_
        refine lv_iconst (v := (0 : Int32)) hx hb dX12_roll_244 (by decide) ?_
        refine va_put (D := D) (ci := 11) (v := .int (0 : Int32)) (ty := .int) (C := RX12) (T := TX12) (N := 23) hx hb ht in_X12 tyX12 tyX12_ok nmX12 hown hK.1 hP hD hS 0 rfl rfl 11 (by decide) (ht _ mF_X12_70) (fun _ h9 => h9) rfl (by decide +kernel) rfl rfl (Nat.le_of_ble_eq_true rfl) dX12_roll_245 (fun H locs hP hD hS => ?_)
        have hP : va_P D vwCl [(q0, .inr (11, [.int zdogs_4, .ref q1, .ref q2, .ref q3, .ref q4, .ref q5, u0, .int (0 : Int32), u1, u2, u3, .int (0 : Int32), .ref q6, u4, u5, u6, u7, u8, u9, u10, u11, u12, u13])), (q1, .inl (ci, 7, .inl zhalves_5)), (q2, .inl (ci, 7, .inl zlikes_6)), (q3, .inl (cz, 7, .inl zisTold_7)), (q4, .inl (ci, 7, .inl zfears_8)), (q5, .inl (ci, 7, .inl zheirs_3)), (q6, .inl (ci, 60, .inl zpad))] H := hP
        have hD : va_D A [(q0, .inr (11, [.int zdogs_4, .ref q1, .ref q2, .ref q3, .ref q4, .ref q5, u0, .int (0 : Int32), u1, u2, u3, .int (0 : Int32), .ref q6, u4, u5, u6, u7, u8, u9, u10, u11, u12, u13])), (q1, .inl (ci, 7, .inl zhalves_5)), (q2, .inl (ci, 7, .inl zlikes_6)), (q3, .inl (cz, 7, .inl zisTold_7)), (q4, .inl (ci, 7, .inl zfears_8)), (q5, .inl (ci, 7, .inl zheirs_3)), (q6, .inl (ci, 60, .inl zpad))] := hD
        refine lv_aload_n hx hb dX12_roll_248 rfl (lv_at hl 0 rfl) ?_
        refine va_get (D := D) (ci := 11) (v := .int zdogs_4) (C := RX12) (T := TX12) (N := 23) hx hb ht in_X12 hown hK.1 hP 0 rfl rfl 0 (by decide) (ht _ mF_X12_63) (fun _ h9 => h9) rfl dX12_roll_249 ?_
        exact hret _ _ H locs _ _ ⟨_, _, _, _, _, _, _, _, rfl, hw⟩ hP hS dX12_roll_252
      · intro J243 hJ243 hw
        refine lo_walk hw (fun G51 => ∀ (x1_9 : Int32) (zdogs_10 : Int32) (zhalves_11 : Nat → Int32) (zlikes_12 : Nat → Int32) (zisTold_13 : Nat → Int32) (zfears_14 : Nat → Int32) (H : Heap) (locs : List Loc) (ls : Array Slot), G51 x1_9 zdogs_10 zhalves_11 zlikes_12 zisTold_13 zfears_14 → va_P D vwCl [(q0, .inr (11, [.int zdogs_10, .ref q1, .ref q2, .ref q3, .ref q4, .ref q5, u0, .int (0 : Int32), u1, u2, u3, .int zsigns, .ref q6, u4, u5, u6, u7, u8, u9, u10, u11, u12, u13])), (q1, .inl (ci, 7, .inl zhalves_11)), (q2, .inl (ci, 7, .inl zlikes_12)), (q3, .inl (cz, 7, .inl zisTold_13)), (q4, .inl (ci, 7, .inl zfears_14)), (q5, .inl (ci, 7, .inl zheirs_3)), (q6, .inl (ci, 60, .inl zpad))] H → va_S A s.heap H locs → lv_has ls 3 [(0, .ref q0), (1, .int x1_9)] → W p l e R s m args below meth c H locs 0 0 Q (F0 m 51 ls [])) (fun _ _ _ _ _ _ _ _ _ hw _ _ _ => False.elim hw) (fun G51 hG51 x1_9 zdogs_10 zhalves_11 zlikes_12 zisTold_13 zfears_14 H locs ls hw hP hS hl => ?_) (fun G51 hG51 hw => hG51 _ _ _ _ _ _ H locs ls hw hP hS (lv_sub hl [1, 0] rfl))
        have hD : va_D A [(q0, .inr (11, [.int zdogs_10, .ref q1, .ref q2, .ref q3, .ref q4, .ref q5, u0, .int (0 : Int32), u1, u2, u3, .int zsigns, .ref q6, u4, u5, u6, u7, u8, u9, u10, u11, u12, u13])), (q1, .inl (ci, 7, .inl zhalves_11)), (q2, .inl (ci, 7, .inl zlikes_12)), (q3, .inl (cz, 7, .inl zisTold_13)), (q4, .inl (ci, 7, .inl zfears_14)), (q5, .inl (ci, 7, .inl zheirs_3)), (q6, .inl (ci, 60, .inl zpad))] := gD_re hD rfl
        refine lv_iload_n hx hb dX12_roll_51 rfl (lv_at hl 1 rfl) ?_
        refine lv_aload_n hx hb dX12_roll_52 rfl (lv_at hl 0 rfl) ?_
        refine va_get (D := D) (ci := 11) (v := .int zsigns) (C := RX12) (T := TX12) (N := 23) hx hb ht in_X12 hown hK.1 hP 0 rfl rfl 11 (by decide) (ht _ mF_X12_70) (fun _ h9 => h9) rfl dX12_roll_53 ?_
        refine lv_icmp_ge (tgt := 243) hx hb dX12_roll_56 (by decide) (fun hc => ?_) (fun hc => ?_)
        · have hw := hw.1 hc
          exact hJ243 _ _ _ _ _ H locs ls hw hP hS (lv_sub hl [0] rfl)
        · have hw := hw.2 hc
          refine lv_aload_n hx hb dX12_roll_59 rfl (lv_at hl 0 rfl) ?_
          refine va_get (D := D) (ci := 11) (v := .ref q1) (C := RX12) (T := TX12) (N := 23) hx hb ht in_X12 hown hK.1 hP 0 rfl rfl 1 (by decide) (ht _ mF_X12_7) (fun _ h9 => h9) rfl dX12_roll_60 ?_
          refine lv_aload_n hx hb dX12_roll_63 rfl (lv_at hl 0 rfl) ?_
          refine va_get (D := D) (ci := 11) (v := .int zdogs_10) (C := RX12) (T := TX12) (N := 23) hx hb ht in_X12 hown hK.1 hP 0 rfl rfl 0 (by decide) (ht _ mF_X12_63) (fun _ h9 => h9) rfl dX12_roll_64 ?_
          refine lv_aload_n hx hb dX12_roll_67 rfl (lv_at hl 0 rfl) ?_
          refine va_get (D := D) (ci := 11) (v := .ref q6) (C := RX12) (T := TX12) (N := 23) hx hb ht in_X12 hown hK.1 hP 0 rfl rfl 12 (by decide) (ht _ mF_X12_36) (fun _ h9 => h9) rfl dX12_roll_68 ?_
          refine lv_iload_n hx hb dX12_roll_71 rfl (lv_at hl 1 rfl) ?_
          obtain ⟨hin, hw⟩ := hw
          refine va_iald (D := D) hx hb hK.1 hP 6 0 rfl rfl hin dX12_roll_72 ?_
          refine lv_bipush (v := (48 : Int32)) hx hb dX12_roll_73 (by decide) ?_
          refine lv_isub hx hb dX12_roll_75 ?_
          obtain ⟨hin, hw⟩ := hw
          refine va_iast (D := D) hx hb hK.1 hP hD hS 1 0 rfl rfl hin dX12_roll_76 (fun H locs hP hD hS => ?_)
          have hP : va_P D vwCl [(q0, .inr (11, [.int zdogs_10, .ref q1, .ref q2, .ref q3, .ref q4, .ref q5, u0, .int (0 : Int32), u1, u2, u3, .int zsigns, .ref q6, u4, u5, u6, u7, u8, u9, u10, u11, u12, u13])), (q1, .inl (ci, 7, .inl (upd zhalves_11 (zdogs_10).toNatClampNeg ((zpad (x1_9).toNatClampNeg) - (48 : Int32))))), (q2, .inl (ci, 7, .inl zlikes_12)), (q3, .inl (cz, 7, .inl zisTold_13)), (q4, .inl (ci, 7, .inl zfears_14)), (q5, .inl (ci, 7, .inl zheirs_3)), (q6, .inl (ci, 60, .inl zpad))] H := hP
          have hD : va_D A [(q0, .inr (11, [.int zdogs_10, .ref q1, .ref q2, .ref q3, .ref q4, .ref q5, u0, .int (0 : Int32), u1, u2, u3, .int zsigns, .ref q6, u4, u5, u6, u7, u8, u9, u10, u11, u12, u13])), (q1, .inl (ci, 7, .inl (upd zhalves_11 (zdogs_10).toNatClampNeg ((zpad (x1_9).toNatClampNeg) - (48 : Int32))))), (q2, .inl (ci, 7, .inl zlikes_12)), (q3, .inl (cz, 7, .inl zisTold_13)), (q4, .inl (ci, 7, .inl zfears_14)), (q5, .inl (ci, 7, .inl zheirs_3)), (q6, .inl (ci, 60, .inl zpad))] := hD
          refine lv_aload_n hx hb dX12_roll_77 rfl (lv_at hl 0 rfl) ?_
          refine va_get (D := D) (ci := 11) (v := .ref q3) (C := RX12) (T := TX12) (N := 23) hx hb ht in_X12 hown hK.1 hP 0 rfl rfl 3 (by decide) (ht _ mF_X12_16) (fun _ h9 => h9) rfl dX12_roll_78 ?_
          refine lv_aload_n hx hb dX12_roll_81 rfl (lv_at hl 0 rfl) ?_
          refine va_get (D := D) (ci := 11) (v := .int zdogs_10) (C := RX12) (T := TX12) (N := 23) hx hb ht in_X12 hown hK.1 hP 0 rfl rfl 0 (by decide) (ht _ mF_X12_63) (fun _ h9 => h9) rfl dX12_roll_82 ?_
          refine lv_aload_n hx hb dX12_roll_85 rfl (lv_at hl 0 rfl) ?_
          refine va_get (D := D) (ci := 11) (v := .ref q6) (C := RX12) (T := TX12) (N := 23) hx hb ht in_X12 hown hK.1 hP 0 rfl rfl 12 (by decide) (ht _ mF_X12_36) (fun _ h9 => h9) rfl dX12_roll_86 ?_
          refine lv_iload_n hx hb dX12_roll_89 rfl (lv_at hl 1 rfl) ?_
          refine lv_iconst (v := (1 : Int32)) hx hb dX12_roll_90 (by decide) ?_
          refine lv_iadd hx hb dX12_roll_91 ?_
          obtain ⟨hin, hw⟩ := hw
          refine va_iald (D := D) hx hb hK.1 hP 6 0 rfl rfl hin dX12_roll_92 ?_
          refine lv_bipush (v := (63 : Int32)) hx hb dX12_roll_93 (by decide) ?_
          refine jn_walk hw (fun J103 => ∀ (t_15 : Int32) (H : Heap) (locs : List Loc) (ls : Array Slot), J103 t_15 → va_P D vwCl [(q0, .inr (11, [.int zdogs_10, .ref q1, .ref q2, .ref q3, .ref q4, .ref q5, u0, .int (0 : Int32), u1, u2, u3, .int zsigns, .ref q6, u4, u5, u6, u7, u8, u9, u10, u11, u12, u13])), (q1, .inl (ci, 7, .inl (upd zhalves_11 (zdogs_10).toNatClampNeg ((zpad (x1_9).toNatClampNeg) - (48 : Int32))))), (q2, .inl (ci, 7, .inl zlikes_12)), (q3, .inl (cz, 7, .inl zisTold_13)), (q4, .inl (ci, 7, .inl zfears_14)), (q5, .inl (ci, 7, .inl zheirs_3)), (q6, .inl (ci, 60, .inl zpad))] H → va_S A s.heap H locs → lv_has ls 3 [(0, .ref q0), (1, .int x1_9)] → W p l e R s m args below meth c H locs 0 0 Q (F0 m 103 ls [.int t_15, .int zdogs_10, .ref q3])) ?_ ?_
          · intro t_15 H locs ls hw hP hS hl
            have hD : va_D A [(q0, .inr (11, [.int zdogs_10, .ref q1, .ref q2, .ref q3, .ref q4, .ref q5, u0, .int (0 : Int32), u1, u2, u3, .int zsigns, .ref q6, u4, u5, u6, u7, u8, u9, u10, u11, u12, u13])), (q1, .inl (ci, 7, .inl (upd zhalves_11 (zdogs_10).toNatClampNeg ((zpad (x1_9).toNatClampNeg) - (48 : Int32))))), (q2, .inl (ci, 7, .inl zlikes_12)), (q3, .inl (cz, 7, .inl zisTold_13)), (q4, .inl (ci, 7, .inl zfears_14)), (q5, .inl (ci, 7, .inl zheirs_3)), (q6, .inl (ci, 60, .inl zpad))] := gD_re hD rfl
            obtain ⟨hin, hw⟩ := hw
            refine va_zast (D := D) hx hb hK.1 hP hD hS 3 1 rfl rfl hin dX12_roll_103 (fun H locs hP hD hS => ?_)
            have hP : va_P D vwCl [(q0, .inr (11, [.int zdogs_10, .ref q1, .ref q2, .ref q3, .ref q4, .ref q5, u0, .int (0 : Int32), u1, u2, u3, .int zsigns, .ref q6, u4, u5, u6, u7, u8, u9, u10, u11, u12, u13])), (q1, .inl (ci, 7, .inl (upd zhalves_11 (zdogs_10).toNatClampNeg ((zpad (x1_9).toNatClampNeg) - (48 : Int32))))), (q2, .inl (ci, 7, .inl zlikes_12)), (q3, .inl (cz, 7, .inl (upd zisTold_13 (zdogs_10).toNatClampNeg (vp_nar .boolean t_15)))), (q4, .inl (ci, 7, .inl zfears_14)), (q5, .inl (ci, 7, .inl zheirs_3)), (q6, .inl (ci, 60, .inl zpad))] H := hP
            have hD : va_D A [(q0, .inr (11, [.int zdogs_10, .ref q1, .ref q2, .ref q3, .ref q4, .ref q5, u0, .int (0 : Int32), u1, u2, u3, .int zsigns, .ref q6, u4, u5, u6, u7, u8, u9, u10, u11, u12, u13])), (q1, .inl (ci, 7, .inl (upd zhalves_11 (zdogs_10).toNatClampNeg ((zpad (x1_9).toNatClampNeg) - (48 : Int32))))), (q2, .inl (ci, 7, .inl zlikes_12)), (q3, .inl (cz, 7, .inl (upd zisTold_13 (zdogs_10).toNatClampNeg (vp_nar .boolean t_15)))), (q4, .inl (ci, 7, .inl zfears_14)), (q5, .inl (ci, 7, .inl zheirs_3)), (q6, .inl (ci, 60, .inl zpad))] := hD
            refine lv_aload_n hx hb dX12_roll_104 rfl (lv_at hl 0 rfl) ?_
            refine va_get (D := D) (ci := 11) (v := .ref q2) (C := RX12) (T := TX12) (N := 23) hx hb ht in_X12 hown hK.1 hP 0 rfl rfl 2 (by decide) (ht _ mF_X12_13) (fun _ h9 => h9) rfl dX12_roll_105 ?_
            refine lv_aload_n hx hb dX12_roll_108 rfl (lv_at hl 0 rfl) ?_
            refine va_get (D := D) (ci := 11) (v := .int zdogs_10) (C := RX12) (T := TX12) (N := 23) hx hb ht in_X12 hown hK.1 hP 0 rfl rfl 0 (by decide) (ht _ mF_X12_63) (fun _ h9 => h9) rfl dX12_roll_109 ?_
            refine lv_iconst (v := (0 : Int32)) hx hb dX12_roll_112 (by decide) ?_
            obtain ⟨hin, hw⟩ := hw
            refine va_iast (D := D) hx hb hK.1 hP hD hS 2 0 rfl rfl hin dX12_roll_113 (fun H locs hP hD hS => ?_)
            have hP : va_P D vwCl [(q0, .inr (11, [.int zdogs_10, .ref q1, .ref q2, .ref q3, .ref q4, .ref q5, u0, .int (0 : Int32), u1, u2, u3, .int zsigns, .ref q6, u4, u5, u6, u7, u8, u9, u10, u11, u12, u13])), (q1, .inl (ci, 7, .inl (upd zhalves_11 (zdogs_10).toNatClampNeg ((zpad (x1_9).toNatClampNeg) - (48 : Int32))))), (q2, .inl (ci, 7, .inl (upd zlikes_12 (zdogs_10).toNatClampNeg (0 : Int32)))), (q3, .inl (cz, 7, .inl (upd zisTold_13 (zdogs_10).toNatClampNeg (vp_nar .boolean t_15)))), (q4, .inl (ci, 7, .inl zfears_14)), (q5, .inl (ci, 7, .inl zheirs_3)), (q6, .inl (ci, 60, .inl zpad))] H := hP
            have hD : va_D A [(q0, .inr (11, [.int zdogs_10, .ref q1, .ref q2, .ref q3, .ref q4, .ref q5, u0, .int (0 : Int32), u1, u2, u3, .int zsigns, .ref q6, u4, u5, u6, u7, u8, u9, u10, u11, u12, u13])), (q1, .inl (ci, 7, .inl (upd zhalves_11 (zdogs_10).toNatClampNeg ((zpad (x1_9).toNatClampNeg) - (48 : Int32))))), (q2, .inl (ci, 7, .inl (upd zlikes_12 (zdogs_10).toNatClampNeg (0 : Int32)))), (q3, .inl (cz, 7, .inl (upd zisTold_13 (zdogs_10).toNatClampNeg (vp_nar .boolean t_15)))), (q4, .inl (ci, 7, .inl zfears_14)), (q5, .inl (ci, 7, .inl zheirs_3)), (q6, .inl (ci, 60, .inl zpad))] := hD
            refine lv_aload_n hx hb dX12_roll_114 rfl (lv_at hl 0 rfl) ?_
            refine va_get (D := D) (ci := 11) (v := .ref q3) (C := RX12) (T := TX12) (N := 23) hx hb ht in_X12 hown hK.1 hP 0 rfl rfl 3 (by decide) (ht _ mF_X12_16) (fun _ h9 => h9) rfl dX12_roll_115 ?_
            refine lv_aload_n hx hb dX12_roll_118 rfl (lv_at hl 0 rfl) ?_
            refine va_get (D := D) (ci := 11) (v := .int zdogs_10) (C := RX12) (T := TX12) (N := 23) hx hb ht in_X12 hown hK.1 hP 0 rfl rfl 0 (by decide) (ht _ mF_X12_63) (fun _ h9 => h9) rfl dX12_roll_119 ?_
            obtain ⟨hin, hw⟩ := hw
            refine va_zald (D := D) hx hb hK.1 hP 3 1 rfl rfl hin dX12_roll_122 ?_
            refine lv_if_eq (tgt := 169) hx hb dX12_roll_123 (by decide) (fun hc => ?_) (fun hc => ?_)
            · have hw := hw.1 hc
              refine lv_iinc (v := (x1_9 + (2 : Int32))) (lv' := [(1, .int (x1_9 + (2 : Int32))), (0, .ref q0)]) hx hb dX12_roll_169 hl (k := 1) rfl rfl (by decide) rfl (fun ls hl => ?_)
              refine jn_walk hw (fun J227 => ∀ (x1_16 : Int32) (zfears_17 : Nat → Int32) (H : Heap) (locs : List Loc) (ls : Array Slot), J227 x1_16 zfears_17 → va_P D vwCl [(q0, .inr (11, [.int zdogs_10, .ref q1, .ref q2, .ref q3, .ref q4, .ref q5, u0, .int (0 : Int32), u1, u2, u3, .int zsigns, .ref q6, u4, u5, u6, u7, u8, u9, u10, u11, u12, u13])), (q1, .inl (ci, 7, .inl (upd zhalves_11 (zdogs_10).toNatClampNeg ((zpad (x1_9).toNatClampNeg) - (48 : Int32))))), (q2, .inl (ci, 7, .inl (upd zlikes_12 (zdogs_10).toNatClampNeg (0 : Int32)))), (q3, .inl (cz, 7, .inl (upd zisTold_13 (zdogs_10).toNatClampNeg (vp_nar .boolean t_15)))), (q4, .inl (ci, 7, .inl zfears_17)), (q5, .inl (ci, 7, .inl zheirs_3)), (q6, .inl (ci, 60, .inl zpad))] H → va_S A s.heap H locs → lv_has ls 3 [(0, .ref q0), (1, .int x1_16)] → W p l e R s m args below meth c H locs 0 0 Q (F0 m 227 ls [])) ?_ ?_
              · intro x1_16 zfears_17 H locs ls hw hP hS hl
                have hD : va_D A [(q0, .inr (11, [.int zdogs_10, .ref q1, .ref q2, .ref q3, .ref q4, .ref q5, u0, .int (0 : Int32), u1, u2, u3, .int zsigns, .ref q6, u4, u5, u6, u7, u8, u9, u10, u11, u12, u13])), (q1, .inl (ci, 7, .inl (upd zhalves_11 (zdogs_10).toNatClampNeg ((zpad (x1_9).toNatClampNeg) - (48 : Int32))))), (q2, .inl (ci, 7, .inl (upd zlikes_12 (zdogs_10).toNatClampNeg (0 : Int32)))), (q3, .inl (cz, 7, .inl (upd zisTold_13 (zdogs_10).toNatClampNeg (vp_nar .boolean t_15)))), (q4, .inl (ci, 7, .inl zfears_17)), (q5, .inl (ci, 7, .inl zheirs_3)), (q6, .inl (ci, 60, .inl zpad))] := gD_re hD rfl
                refine lv_iinc (v := (x1_16 + (1 : Int32))) (lv' := [(1, .int (x1_16 + (1 : Int32))), (0, .ref q0)]) hx hb dX12_roll_227 hl (k := 1) rfl rfl (by decide) rfl (fun ls hl => ?_)
                refine lv_aload_n hx hb dX12_roll_230 rfl (lv_at hl 1 rfl) ?_
                refine lv_dup hx hb dX12_roll_231 rfl ?_
                refine va_get (D := D) (ci := 11) (v := .int zdogs_10) (C := RX12) (T := TX12) (N := 23) hx hb ht in_X12 hown hK.1 hP 0 rfl rfl 0 (by decide) (ht _ mF_X12_63) (fun _ h9 => h9) rfl dX12_roll_232 ?_
                refine lv_iconst (v := (1 : Int32)) hx hb dX12_roll_235 (by decide) ?_
                refine lv_iadd hx hb dX12_roll_236 ?_
                refine va_put (D := D) (ci := 11) (v := .int (zdogs_10 + (1 : Int32))) (ty := .int) (C := RX12) (T := TX12) (N := 23) hx hb ht in_X12 tyX12 tyX12_ok nmX12 hown hK.1 hP hD hS 0 rfl rfl 0 (by decide) (ht _ mF_X12_63) (fun _ h9 => h9) rfl (by decide +kernel) rfl rfl (Nat.le_of_ble_eq_true rfl) dX12_roll_237 (fun H locs hP hD hS => ?_)
                have hP : va_P D vwCl [(q0, .inr (11, [.int (zdogs_10 + (1 : Int32)), .ref q1, .ref q2, .ref q3, .ref q4, .ref q5, u0, .int (0 : Int32), u1, u2, u3, .int zsigns, .ref q6, u4, u5, u6, u7, u8, u9, u10, u11, u12, u13])), (q1, .inl (ci, 7, .inl (upd zhalves_11 (zdogs_10).toNatClampNeg ((zpad (x1_9).toNatClampNeg) - (48 : Int32))))), (q2, .inl (ci, 7, .inl (upd zlikes_12 (zdogs_10).toNatClampNeg (0 : Int32)))), (q3, .inl (cz, 7, .inl (upd zisTold_13 (zdogs_10).toNatClampNeg (vp_nar .boolean t_15)))), (q4, .inl (ci, 7, .inl zfears_17)), (q5, .inl (ci, 7, .inl zheirs_3)), (q6, .inl (ci, 60, .inl zpad))] H := hP
                have hD : va_D A [(q0, .inr (11, [.int (zdogs_10 + (1 : Int32)), .ref q1, .ref q2, .ref q3, .ref q4, .ref q5, u0, .int (0 : Int32), u1, u2, u3, .int zsigns, .ref q6, u4, u5, u6, u7, u8, u9, u10, u11, u12, u13])), (q1, .inl (ci, 7, .inl (upd zhalves_11 (zdogs_10).toNatClampNeg ((zpad (x1_9).toNatClampNeg) - (48 : Int32))))), (q2, .inl (ci, 7, .inl (upd zlikes_12 (zdogs_10).toNatClampNeg (0 : Int32)))), (q3, .inl (cz, 7, .inl (upd zisTold_13 (zdogs_10).toNatClampNeg (vp_nar .boolean t_15)))), (q4, .inl (ci, 7, .inl zfears_17)), (q5, .inl (ci, 7, .inl zheirs_3)), (q6, .inl (ci, 60, .inl zpad))] := hD
                refine lv_goto (tgt := 51) hx hb dX12_roll_240 (by decide) ?_
                exact hG51 _ _ _ _ _ _ H locs ls hw hP hS (lv_sub hl [1, 0] rfl)
              · intro J227 hJ227 hw
                refine lo_walk hw (fun G172 => ∀ (x1_18 : Int32) (zfears_19 : Nat → Int32) (H : Heap) (locs : List Loc) (ls : Array Slot), G172 x1_18 zfears_19 → va_P D vwCl [(q0, .inr (11, [.int zdogs_10, .ref q1, .ref q2, .ref q3, .ref q4, .ref q5, u0, .int (0 : Int32), u1, u2, u3, .int zsigns, .ref q6, u4, u5, u6, u7, u8, u9, u10, u11, u12, u13])), (q1, .inl (ci, 7, .inl (upd zhalves_11 (zdogs_10).toNatClampNeg ((zpad (x1_9).toNatClampNeg) - (48 : Int32))))), (q2, .inl (ci, 7, .inl (upd zlikes_12 (zdogs_10).toNatClampNeg (0 : Int32)))), (q3, .inl (cz, 7, .inl (upd zisTold_13 (zdogs_10).toNatClampNeg (vp_nar .boolean t_15)))), (q4, .inl (ci, 7, .inl zfears_19)), (q5, .inl (ci, 7, .inl zheirs_3)), (q6, .inl (ci, 60, .inl zpad))] H → va_S A s.heap H locs → lv_has ls 3 [(0, .ref q0), (1, .int x1_18)] → W p l e R s m args below meth c H locs 0 0 Q (F0 m 172 ls [])) (fun _ _ _ _ _ hw _ _ _ => False.elim hw) (fun G172 hG172 x1_18 zfears_19 H locs ls hw hP hS hl => ?_) (fun G172 hG172 hw => hG172 _ _ H locs ls hw hP hS (lv_sub hl [1, 0] rfl))
                have hD : va_D A [(q0, .inr (11, [.int zdogs_10, .ref q1, .ref q2, .ref q3, .ref q4, .ref q5, u0, .int (0 : Int32), u1, u2, u3, .int zsigns, .ref q6, u4, u5, u6, u7, u8, u9, u10, u11, u12, u13])), (q1, .inl (ci, 7, .inl (upd zhalves_11 (zdogs_10).toNatClampNeg ((zpad (x1_9).toNatClampNeg) - (48 : Int32))))), (q2, .inl (ci, 7, .inl (upd zlikes_12 (zdogs_10).toNatClampNeg (0 : Int32)))), (q3, .inl (cz, 7, .inl (upd zisTold_13 (zdogs_10).toNatClampNeg (vp_nar .boolean t_15)))), (q4, .inl (ci, 7, .inl zfears_19)), (q5, .inl (ci, 7, .inl zheirs_3)), (q6, .inl (ci, 60, .inl zpad))] := gD_re hD rfl
                refine lv_aload_n hx hb dX12_roll_172 rfl (lv_at hl 0 rfl) ?_
                refine va_get (D := D) (ci := 11) (v := .ref q6) (C := RX12) (T := TX12) (N := 23) hx hb ht in_X12 hown hK.1 hP 0 rfl rfl 12 (by decide) (ht _ mF_X12_36) (fun _ h9 => h9) rfl dX12_roll_173 ?_
                refine lv_iload_n hx hb dX12_roll_176 rfl (lv_at hl 1 rfl) ?_
                obtain ⟨hin, hw⟩ := hw
                refine va_iald (D := D) hx hb hK.1 hP 6 0 rfl rfl hin dX12_roll_177 ?_
                refine lv_bipush (v := (59 : Int32)) hx hb dX12_roll_178 (by decide) ?_
                refine lv_icmp_eq (tgt := 227) hx hb dX12_roll_180 (by decide) (fun hc => ?_) (fun hc => ?_)
                · have hw := hw.1 hc
                  exact hJ227 _ _ H locs ls hw hP hS (lv_sub hl [0, 1] rfl)
                · have hw := hw.2 hc
                  refine lv_aload_n hx hb dX12_roll_183 rfl (lv_at hl 0 rfl) ?_
                  refine va_get (D := D) (ci := 11) (v := .ref q4) (C := RX12) (T := TX12) (N := 23) hx hb ht in_X12 hown hK.1 hP 0 rfl rfl 4 (by decide) (ht _ mF_X12_20) (fun _ h9 => h9) rfl dX12_roll_184 ?_
                  refine lv_aload_n hx hb dX12_roll_187 rfl (lv_at hl 0 rfl) ?_
                  refine va_get (D := D) (ci := 11) (v := .int zdogs_10) (C := RX12) (T := TX12) (N := 23) hx hb ht in_X12 hown hK.1 hP 0 rfl rfl 0 (by decide) (ht _ mF_X12_63) (fun _ h9 => h9) rfl dX12_roll_188 ?_
                  refine lv_dup2_11 hx hb dX12_roll_191 rfl rfl ?_
                  obtain ⟨hin, hw⟩ := hw
                  refine va_iald (D := D) hx hb hK.1 hP 4 0 rfl rfl hin dX12_roll_192 ?_
                  refine lv_aload_n hx hb dX12_roll_193 rfl (lv_at hl 0 rfl) ?_
                  refine va_get (D := D) (ci := 11) (v := .ref q6) (C := RX12) (T := TX12) (N := 23) hx hb ht in_X12 hown hK.1 hP 0 rfl rfl 12 (by decide) (ht _ mF_X12_36) (fun _ h9 => h9) rfl dX12_roll_194 ?_
                  refine lv_iload_n hx hb dX12_roll_197 rfl (lv_at hl 1 rfl) ?_
                  obtain ⟨hin, hw⟩ := hw
                  refine va_iald (D := D) hx hb hK.1 hP 6 0 rfl rfl hin dX12_roll_198 ?_
                  refine lv_bipush (v := (33 : Int32)) hx hb dX12_roll_199 (by decide) ?_
                  refine jn_walk hw (fun J219 => ∀ (t_20 : Int32) (H : Heap) (locs : List Loc) (ls : Array Slot), J219 t_20 → va_P D vwCl [(q0, .inr (11, [.int zdogs_10, .ref q1, .ref q2, .ref q3, .ref q4, .ref q5, u0, .int (0 : Int32), u1, u2, u3, .int zsigns, .ref q6, u4, u5, u6, u7, u8, u9, u10, u11, u12, u13])), (q1, .inl (ci, 7, .inl (upd zhalves_11 (zdogs_10).toNatClampNeg ((zpad (x1_9).toNatClampNeg) - (48 : Int32))))), (q2, .inl (ci, 7, .inl (upd zlikes_12 (zdogs_10).toNatClampNeg (0 : Int32)))), (q3, .inl (cz, 7, .inl (upd zisTold_13 (zdogs_10).toNatClampNeg (vp_nar .boolean t_15)))), (q4, .inl (ci, 7, .inl zfears_19)), (q5, .inl (ci, 7, .inl zheirs_3)), (q6, .inl (ci, 60, .inl zpad))] H → va_S A s.heap H locs → lv_has ls 3 [(0, .ref q0), (1, .int x1_18)] → W p l e R s m args below meth c H locs 0 0 Q (F0 m 219 ls [.int t_20, .int (zfears_19 (zdogs_10).toNatClampNeg), .int zdogs_10, .ref q4])) ?_ ?_
                  · intro t_20 H locs ls hw hP hS hl
                    have hD : va_D A [(q0, .inr (11, [.int zdogs_10, .ref q1, .ref q2, .ref q3, .ref q4, .ref q5, u0, .int (0 : Int32), u1, u2, u3, .int zsigns, .ref q6, u4, u5, u6, u7, u8, u9, u10, u11, u12, u13])), (q1, .inl (ci, 7, .inl (upd zhalves_11 (zdogs_10).toNatClampNeg ((zpad (x1_9).toNatClampNeg) - (48 : Int32))))), (q2, .inl (ci, 7, .inl (upd zlikes_12 (zdogs_10).toNatClampNeg (0 : Int32)))), (q3, .inl (cz, 7, .inl (upd zisTold_13 (zdogs_10).toNatClampNeg (vp_nar .boolean t_15)))), (q4, .inl (ci, 7, .inl zfears_19)), (q5, .inl (ci, 7, .inl zheirs_3)), (q6, .inl (ci, 60, .inl zpad))] := gD_re hD rfl
                    refine lv_ior hx hb dX12_roll_219 ?_
                    obtain ⟨hin, hw⟩ := hw
                    refine va_iast (D := D) hx hb hK.1 hP hD hS 4 0 rfl rfl hin dX12_roll_220 (fun H locs hP hD hS => ?_)
                    have hP : va_P D vwCl [(q0, .inr (11, [.int zdogs_10, .ref q1, .ref q2, .ref q3, .ref q4, .ref q5, u0, .int (0 : Int32), u1, u2, u3, .int zsigns, .ref q6, u4, u5, u6, u7, u8, u9, u10, u11, u12, u13])), (q1, .inl (ci, 7, .inl (upd zhalves_11 (zdogs_10).toNatClampNeg ((zpad (x1_9).toNatClampNeg) - (48 : Int32))))), (q2, .inl (ci, 7, .inl (upd zlikes_12 (zdogs_10).toNatClampNeg (0 : Int32)))), (q3, .inl (cz, 7, .inl (upd zisTold_13 (zdogs_10).toNatClampNeg (vp_nar .boolean t_15)))), (q4, .inl (ci, 7, .inl (upd zfears_19 (zdogs_10).toNatClampNeg ((zfears_19 (zdogs_10).toNatClampNeg) ||| t_20)))), (q5, .inl (ci, 7, .inl zheirs_3)), (q6, .inl (ci, 60, .inl zpad))] H := hP
                    have hD : va_D A [(q0, .inr (11, [.int zdogs_10, .ref q1, .ref q2, .ref q3, .ref q4, .ref q5, u0, .int (0 : Int32), u1, u2, u3, .int zsigns, .ref q6, u4, u5, u6, u7, u8, u9, u10, u11, u12, u13])), (q1, .inl (ci, 7, .inl (upd zhalves_11 (zdogs_10).toNatClampNeg ((zpad (x1_9).toNatClampNeg) - (48 : Int32))))), (q2, .inl (ci, 7, .inl (upd zlikes_12 (zdogs_10).toNatClampNeg (0 : Int32)))), (q3, .inl (cz, 7, .inl (upd zisTold_13 (zdogs_10).toNatClampNeg (vp_nar .boolean t_15)))), (q4, .inl (ci, 7, .inl (upd zfears_19 (zdogs_10).toNatClampNeg ((zfears_19 (zdogs_10).toNatClampNeg) ||| t_20)))), (q5, .inl (ci, 7, .inl zheirs_3)), (q6, .inl (ci, 60, .inl zpad))] := hD
                    refine lv_iinc (v := (x1_18 + (1 : Int32))) (lv' := [(1, .int (x1_18 + (1 : Int32))), (0, .ref q0)]) hx hb dX12_roll_221 hl (k := 1) rfl rfl (by decide) rfl (fun ls hl => ?_)
                    refine lv_goto (tgt := 172) hx hb dX12_roll_224 (by decide) ?_
                    exact hG172 _ _ H locs ls hw hP hS (lv_sub hl [1, 0] rfl)
                  · intro J219 hJ219 hw
                    refine lv_icmp_ne (tgt := 208) hx hb dX12_roll_201 (by decide) (fun hc => ?_) (fun hc => ?_)
                    · have hw := hw.1 hc
                      refine lv_iconst (v := (1 : Int32)) hx hb dX12_roll_208 (by decide) ?_
                      refine lv_aload_n hx hb dX12_roll_209 rfl (lv_at hl 0 rfl) ?_
                      refine va_get (D := D) (ci := 11) (v := .ref q6) (C := RX12) (T := TX12) (N := 23) hx hb ht in_X12 hown hK.1 hP 0 rfl rfl 12 (by decide) (ht _ mF_X12_36) (fun _ h9 => h9) rfl dX12_roll_210 ?_
                      refine lv_iload_n hx hb dX12_roll_213 rfl (lv_at hl 1 rfl) ?_
                      obtain ⟨hin, hw⟩ := hw
                      refine va_iald (D := D) hx hb hK.1 hP 6 0 rfl rfl hin dX12_roll_214 ?_
                      refine lv_bipush (v := (97 : Int32)) hx hb dX12_roll_215 (by decide) ?_
                      refine lv_isub hx hb dX12_roll_217 ?_
                      refine lv_ishl hx hb dX12_roll_218 ?_
                      exact hJ219 _ H locs ls hw hP hS (lv_sub hl [0, 1] rfl)
                    · have hw := hw.2 hc
                      refine lv_iconst (v := (0 : Int32)) hx hb dX12_roll_204 (by decide) ?_
                      refine lv_goto (tgt := 219) hx hb dX12_roll_205 (by decide) ?_
                      exact hJ219 _ H locs ls hw hP hS (lv_sub hl [0, 1] rfl)
            · have hw := hw.2 hc
              refine lv_aload_n hx hb dX12_roll_126 rfl (lv_at hl 0 rfl) ?_
              refine va_get (D := D) (ci := 11) (v := .ref q6) (C := RX12) (T := TX12) (N := 23) hx hb ht in_X12 hown hK.1 hP 0 rfl rfl 12 (by decide) (ht _ mF_X12_36) (fun _ h9 => h9) rfl dX12_roll_127 ?_
              refine lv_iload_n hx hb dX12_roll_130 rfl (lv_at hl 1 rfl) ?_
              refine lv_iconst (v := (2 : Int32)) hx hb dX12_roll_131 (by decide) ?_
              refine lv_iadd hx hb dX12_roll_132 ?_
              obtain ⟨hin, hw⟩ := hw
              refine va_iald (D := D) hx hb hK.1 hP 6 0 rfl rfl hin dX12_roll_133 ?_
              refine lv_bipush (v := (48 : Int32)) hx hb dX12_roll_134 (by decide) ?_
              refine lv_isub hx hb dX12_roll_136 ?_
              refine lv_istore_n (lv' := [(2, .int ((zpad ((x1_9 + (2 : Int32))).toNatClampNeg) - (48 : Int32))), (0, .ref q0), (1, .int x1_9)]) hx hb dX12_roll_137 rfl hl (by decide) rfl (fun ls hl => ?_)
              refine lv_aload_n hx hb dX12_roll_138 rfl (lv_at hl 1 rfl) ?_
              refine va_get (D := D) (ci := 11) (v := .ref q2) (C := RX12) (T := TX12) (N := 23) hx hb ht in_X12 hown hK.1 hP 0 rfl rfl 2 (by decide) (ht _ mF_X12_13) (fun _ h9 => h9) rfl dX12_roll_139 ?_
              refine lv_aload_n hx hb dX12_roll_142 rfl (lv_at hl 1 rfl) ?_
              refine va_get (D := D) (ci := 11) (v := .int zdogs_10) (C := RX12) (T := TX12) (N := 23) hx hb ht in_X12 hown hK.1 hP 0 rfl rfl 0 (by decide) (ht _ mF_X12_63) (fun _ h9 => h9) rfl dX12_roll_143 ?_
              refine lv_aload_n hx hb dX12_roll_146 rfl (lv_at hl 1 rfl) ?_
              refine va_get (D := D) (ci := 11) (v := .ref q6) (C := RX12) (T := TX12) (N := 23) hx hb ht in_X12 hown hK.1 hP 0 rfl rfl 12 (by decide) (ht _ mF_X12_36) (fun _ h9 => h9) rfl dX12_roll_147 ?_
              refine lv_iload_n hx hb dX12_roll_150 rfl (lv_at hl 2 rfl) ?_
              refine lv_iconst (v := (1 : Int32)) hx hb dX12_roll_151 (by decide) ?_
              refine lv_iadd hx hb dX12_roll_152 ?_
              obtain ⟨hin, hw⟩ := hw
              refine va_iald (D := D) hx hb hK.1 hP 6 0 rfl rfl hin dX12_roll_153 ?_
              refine lv_bipush (v := (43 : Int32)) hx hb dX12_roll_154 (by decide) ?_
              refine jn_walk hw (fun J165 => ∀ (t_21 : Int32) (H : Heap) (locs : List Loc) (ls : Array Slot), J165 t_21 → va_P D vwCl [(q0, .inr (11, [.int zdogs_10, .ref q1, .ref q2, .ref q3, .ref q4, .ref q5, u0, .int (0 : Int32), u1, u2, u3, .int zsigns, .ref q6, u4, u5, u6, u7, u8, u9, u10, u11, u12, u13])), (q1, .inl (ci, 7, .inl (upd zhalves_11 (zdogs_10).toNatClampNeg ((zpad (x1_9).toNatClampNeg) - (48 : Int32))))), (q2, .inl (ci, 7, .inl (upd zlikes_12 (zdogs_10).toNatClampNeg (0 : Int32)))), (q3, .inl (cz, 7, .inl (upd zisTold_13 (zdogs_10).toNatClampNeg (vp_nar .boolean t_15)))), (q4, .inl (ci, 7, .inl zfears_14)), (q5, .inl (ci, 7, .inl zheirs_3)), (q6, .inl (ci, 60, .inl zpad))] H → va_S A s.heap H locs → lv_has ls 3 [(0, .ref q0), (1, .int x1_9)] → W p l e R s m args below meth c H locs 0 0 Q (F0 m 165 ls [.int t_21, .int zdogs_10, .ref q2])) ?_ ?_
              · intro t_21 H locs ls hw hP hS hl
                have hD : va_D A [(q0, .inr (11, [.int zdogs_10, .ref q1, .ref q2, .ref q3, .ref q4, .ref q5, u0, .int (0 : Int32), u1, u2, u3, .int zsigns, .ref q6, u4, u5, u6, u7, u8, u9, u10, u11, u12, u13])), (q1, .inl (ci, 7, .inl (upd zhalves_11 (zdogs_10).toNatClampNeg ((zpad (x1_9).toNatClampNeg) - (48 : Int32))))), (q2, .inl (ci, 7, .inl (upd zlikes_12 (zdogs_10).toNatClampNeg (0 : Int32)))), (q3, .inl (cz, 7, .inl (upd zisTold_13 (zdogs_10).toNatClampNeg (vp_nar .boolean t_15)))), (q4, .inl (ci, 7, .inl zfears_14)), (q5, .inl (ci, 7, .inl zheirs_3)), (q6, .inl (ci, 60, .inl zpad))] := gD_re hD rfl
                obtain ⟨hin, hw⟩ := hw
                refine va_iast (D := D) hx hb hK.1 hP hD hS 2 0 rfl rfl hin dX12_roll_165 (fun H locs hP hD hS => ?_)
                have hP : va_P D vwCl [(q0, .inr (11, [.int zdogs_10, .ref q1, .ref q2, .ref q3, .ref q4, .ref q5, u0, .int (0 : Int32), u1, u2, u3, .int zsigns, .ref q6, u4, u5, u6, u7, u8, u9, u10, u11, u12, u13])), (q1, .inl (ci, 7, .inl (upd zhalves_11 (zdogs_10).toNatClampNeg ((zpad (x1_9).toNatClampNeg) - (48 : Int32))))), (q2, .inl (ci, 7, .inl (upd (upd zlikes_12 (zdogs_10).toNatClampNeg (0 : Int32)) (zdogs_10).toNatClampNeg t_21))), (q3, .inl (cz, 7, .inl (upd zisTold_13 (zdogs_10).toNatClampNeg (vp_nar .boolean t_15)))), (q4, .inl (ci, 7, .inl zfears_14)), (q5, .inl (ci, 7, .inl zheirs_3)), (q6, .inl (ci, 60, .inl zpad))] H := hP
                have hD : va_D A [(q0, .inr (11, [.int zdogs_10, .ref q1, .ref q2, .ref q3, .ref q4, .ref q5, u0, .int (0 : Int32), u1, u2, u3, .int zsigns, .ref q6, u4, u5, u6, u7, u8, u9, u10, u11, u12, u13])), (q1, .inl (ci, 7, .inl (upd zhalves_11 (zdogs_10).toNatClampNeg ((zpad (x1_9).toNatClampNeg) - (48 : Int32))))), (q2, .inl (ci, 7, .inl (upd (upd zlikes_12 (zdogs_10).toNatClampNeg (0 : Int32)) (zdogs_10).toNatClampNeg t_21))), (q3, .inl (cz, 7, .inl (upd zisTold_13 (zdogs_10).toNatClampNeg (vp_nar .boolean t_15)))), (q4, .inl (ci, 7, .inl zfears_14)), (q5, .inl (ci, 7, .inl zheirs_3)), (q6, .inl (ci, 60, .inl zpad))] := hD
                refine lv_iinc (v := (x1_9 + (1 : Int32))) (lv' := [(1, .int (x1_9 + (1 : Int32))), (0, .ref q0)]) hx hb dX12_roll_166 hl (k := 1) rfl rfl (by decide) rfl (fun ls hl => ?_)
                refine lv_iinc (v := ((x1_9 + (1 : Int32)) + (2 : Int32))) (lv' := [(1, .int ((x1_9 + (1 : Int32)) + (2 : Int32))), (0, .ref q0)]) hx hb dX12_roll_169 hl (k := 0) rfl rfl (by decide) rfl (fun ls hl => ?_)
                refine jn_walk hw (fun J227 => ∀ (x1_22 : Int32) (zfears_23 : Nat → Int32) (H : Heap) (locs : List Loc) (ls : Array Slot), J227 x1_22 zfears_23 → va_P D vwCl [(q0, .inr (11, [.int zdogs_10, .ref q1, .ref q2, .ref q3, .ref q4, .ref q5, u0, .int (0 : Int32), u1, u2, u3, .int zsigns, .ref q6, u4, u5, u6, u7, u8, u9, u10, u11, u12, u13])), (q1, .inl (ci, 7, .inl (upd zhalves_11 (zdogs_10).toNatClampNeg ((zpad (x1_9).toNatClampNeg) - (48 : Int32))))), (q2, .inl (ci, 7, .inl (upd (upd zlikes_12 (zdogs_10).toNatClampNeg (0 : Int32)) (zdogs_10).toNatClampNeg t_21))), (q3, .inl (cz, 7, .inl (upd zisTold_13 (zdogs_10).toNatClampNeg (vp_nar .boolean t_15)))), (q4, .inl (ci, 7, .inl zfears_23)), (q5, .inl (ci, 7, .inl zheirs_3)), (q6, .inl (ci, 60, .inl zpad))] H → va_S A s.heap H locs → lv_has ls 3 [(0, .ref q0), (1, .int x1_22)] → W p l e R s m args below meth c H locs 0 0 Q (F0 m 227 ls [])) ?_ ?_
                · intro x1_22 zfears_23 H locs ls hw hP hS hl
                  have hD : va_D A [(q0, .inr (11, [.int zdogs_10, .ref q1, .ref q2, .ref q3, .ref q4, .ref q5, u0, .int (0 : Int32), u1, u2, u3, .int zsigns, .ref q6, u4, u5, u6, u7, u8, u9, u10, u11, u12, u13])), (q1, .inl (ci, 7, .inl (upd zhalves_11 (zdogs_10).toNatClampNeg ((zpad (x1_9).toNatClampNeg) - (48 : Int32))))), (q2, .inl (ci, 7, .inl (upd (upd zlikes_12 (zdogs_10).toNatClampNeg (0 : Int32)) (zdogs_10).toNatClampNeg t_21))), (q3, .inl (cz, 7, .inl (upd zisTold_13 (zdogs_10).toNatClampNeg (vp_nar .boolean t_15)))), (q4, .inl (ci, 7, .inl zfears_23)), (q5, .inl (ci, 7, .inl zheirs_3)), (q6, .inl (ci, 60, .inl zpad))] := gD_re hD rfl
                  refine lv_iinc (v := (x1_22 + (1 : Int32))) (lv' := [(1, .int (x1_22 + (1 : Int32))), (0, .ref q0)]) hx hb dX12_roll_227 hl (k := 1) rfl rfl (by decide) rfl (fun ls hl => ?_)
                  refine lv_aload_n hx hb dX12_roll_230 rfl (lv_at hl 1 rfl) ?_
                  refine lv_dup hx hb dX12_roll_231 rfl ?_
                  refine va_get (D := D) (ci := 11) (v := .int zdogs_10) (C := RX12) (T := TX12) (N := 23) hx hb ht in_X12 hown hK.1 hP 0 rfl rfl 0 (by decide) (ht _ mF_X12_63) (fun _ h9 => h9) rfl dX12_roll_232 ?_
                  refine lv_iconst (v := (1 : Int32)) hx hb dX12_roll_235 (by decide) ?_
                  refine lv_iadd hx hb dX12_roll_236 ?_
                  refine va_put (D := D) (ci := 11) (v := .int (zdogs_10 + (1 : Int32))) (ty := .int) (C := RX12) (T := TX12) (N := 23) hx hb ht in_X12 tyX12 tyX12_ok nmX12 hown hK.1 hP hD hS 0 rfl rfl 0 (by decide) (ht _ mF_X12_63) (fun _ h9 => h9) rfl (by decide +kernel) rfl rfl (Nat.le_of_ble_eq_true rfl) dX12_roll_237 (fun H locs hP hD hS => ?_)
                  have hP : va_P D vwCl [(q0, .inr (11, [.int (zdogs_10 + (1 : Int32)), .ref q1, .ref q2, .ref q3, .ref q4, .ref q5, u0, .int (0 : Int32), u1, u2, u3, .int zsigns, .ref q6, u4, u5, u6, u7, u8, u9, u10, u11, u12, u13])), (q1, .inl (ci, 7, .inl (upd zhalves_11 (zdogs_10).toNatClampNeg ((zpad (x1_9).toNatClampNeg) - (48 : Int32))))), (q2, .inl (ci, 7, .inl (upd (upd zlikes_12 (zdogs_10).toNatClampNeg (0 : Int32)) (zdogs_10).toNatClampNeg t_21))), (q3, .inl (cz, 7, .inl (upd zisTold_13 (zdogs_10).toNatClampNeg (vp_nar .boolean t_15)))), (q4, .inl (ci, 7, .inl zfears_23)), (q5, .inl (ci, 7, .inl zheirs_3)), (q6, .inl (ci, 60, .inl zpad))] H := hP
                  have hD : va_D A [(q0, .inr (11, [.int (zdogs_10 + (1 : Int32)), .ref q1, .ref q2, .ref q3, .ref q4, .ref q5, u0, .int (0 : Int32), u1, u2, u3, .int zsigns, .ref q6, u4, u5, u6, u7, u8, u9, u10, u11, u12, u13])), (q1, .inl (ci, 7, .inl (upd zhalves_11 (zdogs_10).toNatClampNeg ((zpad (x1_9).toNatClampNeg) - (48 : Int32))))), (q2, .inl (ci, 7, .inl (upd (upd zlikes_12 (zdogs_10).toNatClampNeg (0 : Int32)) (zdogs_10).toNatClampNeg t_21))), (q3, .inl (cz, 7, .inl (upd zisTold_13 (zdogs_10).toNatClampNeg (vp_nar .boolean t_15)))), (q4, .inl (ci, 7, .inl zfears_23)), (q5, .inl (ci, 7, .inl zheirs_3)), (q6, .inl (ci, 60, .inl zpad))] := hD
                  refine lv_goto (tgt := 51) hx hb dX12_roll_240 (by decide) ?_
                  exact hG51 _ _ _ _ _ _ H locs ls hw hP hS (lv_sub hl [1, 0] rfl)
                · intro J227 hJ227 hw
                  refine lo_walk hw (fun G172 => ∀ (x1_24 : Int32) (zfears_25 : Nat → Int32) (H : Heap) (locs : List Loc) (ls : Array Slot), G172 x1_24 zfears_25 → va_P D vwCl [(q0, .inr (11, [.int zdogs_10, .ref q1, .ref q2, .ref q3, .ref q4, .ref q5, u0, .int (0 : Int32), u1, u2, u3, .int zsigns, .ref q6, u4, u5, u6, u7, u8, u9, u10, u11, u12, u13])), (q1, .inl (ci, 7, .inl (upd zhalves_11 (zdogs_10).toNatClampNeg ((zpad (x1_9).toNatClampNeg) - (48 : Int32))))), (q2, .inl (ci, 7, .inl (upd (upd zlikes_12 (zdogs_10).toNatClampNeg (0 : Int32)) (zdogs_10).toNatClampNeg t_21))), (q3, .inl (cz, 7, .inl (upd zisTold_13 (zdogs_10).toNatClampNeg (vp_nar .boolean t_15)))), (q4, .inl (ci, 7, .inl zfears_25)), (q5, .inl (ci, 7, .inl zheirs_3)), (q6, .inl (ci, 60, .inl zpad))] H → va_S A s.heap H locs → lv_has ls 3 [(0, .ref q0), (1, .int x1_24)] → W p l e R s m args below meth c H locs 0 0 Q (F0 m 172 ls [])) (fun _ _ _ _ _ hw _ _ _ => False.elim hw) (fun G172 hG172 x1_24 zfears_25 H locs ls hw hP hS hl => ?_) (fun G172 hG172 hw => hG172 _ _ H locs ls hw hP hS (lv_sub hl [1, 0] rfl))
                  have hD : va_D A [(q0, .inr (11, [.int zdogs_10, .ref q1, .ref q2, .ref q3, .ref q4, .ref q5, u0, .int (0 : Int32), u1, u2, u3, .int zsigns, .ref q6, u4, u5, u6, u7, u8, u9, u10, u11, u12, u13])), (q1, .inl (ci, 7, .inl (upd zhalves_11 (zdogs_10).toNatClampNeg ((zpad (x1_9).toNatClampNeg) - (48 : Int32))))), (q2, .inl (ci, 7, .inl (upd (upd zlikes_12 (zdogs_10).toNatClampNeg (0 : Int32)) (zdogs_10).toNatClampNeg t_21))), (q3, .inl (cz, 7, .inl (upd zisTold_13 (zdogs_10).toNatClampNeg (vp_nar .boolean t_15)))), (q4, .inl (ci, 7, .inl zfears_25)), (q5, .inl (ci, 7, .inl zheirs_3)), (q6, .inl (ci, 60, .inl zpad))] := gD_re hD rfl
                  refine lv_aload_n hx hb dX12_roll_172 rfl (lv_at hl 0 rfl) ?_
                  refine va_get (D := D) (ci := 11) (v := .ref q6) (C := RX12) (T := TX12) (N := 23) hx hb ht in_X12 hown hK.1 hP 0 rfl rfl 12 (by decide) (ht _ mF_X12_36) (fun _ h9 => h9) rfl dX12_roll_173 ?_
                  refine lv_iload_n hx hb dX12_roll_176 rfl (lv_at hl 1 rfl) ?_
                  obtain ⟨hin, hw⟩ := hw
                  refine va_iald (D := D) hx hb hK.1 hP 6 0 rfl rfl hin dX12_roll_177 ?_
                  refine lv_bipush (v := (59 : Int32)) hx hb dX12_roll_178 (by decide) ?_
                  refine lv_icmp_eq (tgt := 227) hx hb dX12_roll_180 (by decide) (fun hc => ?_) (fun hc => ?_)
                  · have hw := hw.1 hc
                    exact hJ227 _ _ H locs ls hw hP hS (lv_sub hl [0, 1] rfl)
                  · have hw := hw.2 hc
                    refine lv_aload_n hx hb dX12_roll_183 rfl (lv_at hl 0 rfl) ?_
                    refine va_get (D := D) (ci := 11) (v := .ref q4) (C := RX12) (T := TX12) (N := 23) hx hb ht in_X12 hown hK.1 hP 0 rfl rfl 4 (by decide) (ht _ mF_X12_20) (fun _ h9 => h9) rfl dX12_roll_184 ?_
                    refine lv_aload_n hx hb dX12_roll_187 rfl (lv_at hl 0 rfl) ?_
                    refine va_get (D := D) (ci := 11) (v := .int zdogs_10) (C := RX12) (T := TX12) (N := 23) hx hb ht in_X12 hown hK.1 hP 0 rfl rfl 0 (by decide) (ht _ mF_X12_63) (fun _ h9 => h9) rfl dX12_roll_188 ?_
                    refine lv_dup2_11 hx hb dX12_roll_191 rfl rfl ?_
                    obtain ⟨hin, hw⟩ := hw
                    refine va_iald (D := D) hx hb hK.1 hP 4 0 rfl rfl hin dX12_roll_192 ?_
                    refine lv_aload_n hx hb dX12_roll_193 rfl (lv_at hl 0 rfl) ?_
                    refine va_get (D := D) (ci := 11) (v := .ref q6) (C := RX12) (T := TX12) (N := 23) hx hb ht in_X12 hown hK.1 hP 0 rfl rfl 12 (by decide) (ht _ mF_X12_36) (fun _ h9 => h9) rfl dX12_roll_194 ?_
                    refine lv_iload_n hx hb dX12_roll_197 rfl (lv_at hl 1 rfl) ?_
                    obtain ⟨hin, hw⟩ := hw
                    refine va_iald (D := D) hx hb hK.1 hP 6 0 rfl rfl hin dX12_roll_198 ?_
                    refine lv_bipush (v := (33 : Int32)) hx hb dX12_roll_199 (by decide) ?_
                    refine jn_walk hw (fun J219 => ∀ (t_26 : Int32) (H : Heap) (locs : List Loc) (ls : Array Slot), J219 t_26 → va_P D vwCl [(q0, .inr (11, [.int zdogs_10, .ref q1, .ref q2, .ref q3, .ref q4, .ref q5, u0, .int (0 : Int32), u1, u2, u3, .int zsigns, .ref q6, u4, u5, u6, u7, u8, u9, u10, u11, u12, u13])), (q1, .inl (ci, 7, .inl (upd zhalves_11 (zdogs_10).toNatClampNeg ((zpad (x1_9).toNatClampNeg) - (48 : Int32))))), (q2, .inl (ci, 7, .inl (upd (upd zlikes_12 (zdogs_10).toNatClampNeg (0 : Int32)) (zdogs_10).toNatClampNeg t_21))), (q3, .inl (cz, 7, .inl (upd zisTold_13 (zdogs_10).toNatClampNeg (vp_nar .boolean t_15)))), (q4, .inl (ci, 7, .inl zfears_25)), (q5, .inl (ci, 7, .inl zheirs_3)), (q6, .inl (ci, 60, .inl zpad))] H → va_S A s.heap H locs → lv_has ls 3 [(0, .ref q0), (1, .int x1_24)] → W p l e R s m args below meth c H locs 0 0 Q (F0 m 219 ls [.int t_26, .int (zfears_25 (zdogs_10).toNatClampNeg), .int zdogs_10, .ref q4])) ?_ ?_
                    · intro t_26 H locs ls hw hP hS hl
                      have hD : va_D A [(q0, .inr (11, [.int zdogs_10, .ref q1, .ref q2, .ref q3, .ref q4, .ref q5, u0, .int (0 : Int32), u1, u2, u3, .int zsigns, .ref q6, u4, u5, u6, u7, u8, u9, u10, u11, u12, u13])), (q1, .inl (ci, 7, .inl (upd zhalves_11 (zdogs_10).toNatClampNeg ((zpad (x1_9).toNatClampNeg) - (48 : Int32))))), (q2, .inl (ci, 7, .inl (upd (upd zlikes_12 (zdogs_10).toNatClampNeg (0 : Int32)) (zdogs_10).toNatClampNeg t_21))), (q3, .inl (cz, 7, .inl (upd zisTold_13 (zdogs_10).toNatClampNeg (vp_nar .boolean t_15)))), (q4, .inl (ci, 7, .inl zfears_25)), (q5, .inl (ci, 7, .inl zheirs_3)), (q6, .inl (ci, 60, .inl zpad))] := gD_re hD rfl
                      refine lv_ior hx hb dX12_roll_219 ?_
                      obtain ⟨hin, hw⟩ := hw
                      refine va_iast (D := D) hx hb hK.1 hP hD hS 4 0 rfl rfl hin dX12_roll_220 (fun H locs hP hD hS => ?_)
                      have hP : va_P D vwCl [(q0, .inr (11, [.int zdogs_10, .ref q1, .ref q2, .ref q3, .ref q4, .ref q5, u0, .int (0 : Int32), u1, u2, u3, .int zsigns, .ref q6, u4, u5, u6, u7, u8, u9, u10, u11, u12, u13])), (q1, .inl (ci, 7, .inl (upd zhalves_11 (zdogs_10).toNatClampNeg ((zpad (x1_9).toNatClampNeg) - (48 : Int32))))), (q2, .inl (ci, 7, .inl (upd (upd zlikes_12 (zdogs_10).toNatClampNeg (0 : Int32)) (zdogs_10).toNatClampNeg t_21))), (q3, .inl (cz, 7, .inl (upd zisTold_13 (zdogs_10).toNatClampNeg (vp_nar .boolean t_15)))), (q4, .inl (ci, 7, .inl (upd zfears_25 (zdogs_10).toNatClampNeg ((zfears_25 (zdogs_10).toNatClampNeg) ||| t_26)))), (q5, .inl (ci, 7, .inl zheirs_3)), (q6, .inl (ci, 60, .inl zpad))] H := hP
                      have hD : va_D A [(q0, .inr (11, [.int zdogs_10, .ref q1, .ref q2, .ref q3, .ref q4, .ref q5, u0, .int (0 : Int32), u1, u2, u3, .int zsigns, .ref q6, u4, u5, u6, u7, u8, u9, u10, u11, u12, u13])), (q1, .inl (ci, 7, .inl (upd zhalves_11 (zdogs_10).toNatClampNeg ((zpad (x1_9).toNatClampNeg) - (48 : Int32))))), (q2, .inl (ci, 7, .inl (upd (upd zlikes_12 (zdogs_10).toNatClampNeg (0 : Int32)) (zdogs_10).toNatClampNeg t_21))), (q3, .inl (cz, 7, .inl (upd zisTold_13 (zdogs_10).toNatClampNeg (vp_nar .boolean t_15)))), (q4, .inl (ci, 7, .inl (upd zfears_25 (zdogs_10).toNatClampNeg ((zfears_25 (zdogs_10).toNatClampNeg) ||| t_26)))), (q5, .inl (ci, 7, .inl zheirs_3)), (q6, .inl (ci, 60, .inl zpad))] := hD
                      refine lv_iinc (v := (x1_24 + (1 : Int32))) (lv' := [(1, .int (x1_24 + (1 : Int32))), (0, .ref q0)]) hx hb dX12_roll_221 hl (k := 1) rfl rfl (by decide) rfl (fun ls hl => ?_)
                      refine lv_goto (tgt := 172) hx hb dX12_roll_224 (by decide) ?_
                      exact hG172 _ _ H locs ls hw hP hS (lv_sub hl [1, 0] rfl)
                    · intro J219 hJ219 hw
                      refine lv_icmp_ne (tgt := 208) hx hb dX12_roll_201 (by decide) (fun hc => ?_) (fun hc => ?_)
                      · have hw := hw.1 hc
                        refine lv_iconst (v := (1 : Int32)) hx hb dX12_roll_208 (by decide) ?_
                        refine lv_aload_n hx hb dX12_roll_209 rfl (lv_at hl 0 rfl) ?_
                        refine va_get (D := D) (ci := 11) (v := .ref q6) (C := RX12) (T := TX12) (N := 23) hx hb ht in_X12 hown hK.1 hP 0 rfl rfl 12 (by decide) (ht _ mF_X12_36) (fun _ h9 => h9) rfl dX12_roll_210 ?_
                        refine lv_iload_n hx hb dX12_roll_213 rfl (lv_at hl 1 rfl) ?_
                        obtain ⟨hin, hw⟩ := hw
                        refine va_iald (D := D) hx hb hK.1 hP 6 0 rfl rfl hin dX12_roll_214 ?_
                        refine lv_bipush (v := (97 : Int32)) hx hb dX12_roll_215 (by decide) ?_
                        refine lv_isub hx hb dX12_roll_217 ?_
                        refine lv_ishl hx hb dX12_roll_218 ?_
                        exact hJ219 _ H locs ls hw hP hS (lv_sub hl [0, 1] rfl)
                      · have hw := hw.2 hc
                        refine lv_iconst (v := (0 : Int32)) hx hb dX12_roll_204 (by decide) ?_
                        refine lv_goto (tgt := 219) hx hb dX12_roll_205 (by decide) ?_
                        exact hJ219 _ H locs ls hw hP hS (lv_sub hl [0, 1] rfl)
              · intro J165 hJ165 hw
                refine lv_icmp_ne (tgt := 163) hx hb dX12_roll_156 (by decide) (fun hc => ?_) (fun hc => ?_)
                · have hw := hw.1 hc
                  refine lv_iload_n hx hb dX12_roll_163 rfl (lv_at hl 0 rfl) ?_
                  refine lv_ineg hx hb dX12_roll_164 ?_
                  exact hJ165 _ H locs ls hw hP hS (lv_sub hl [1, 2] rfl)
                · have hw := hw.2 hc
                  refine lv_iload_n hx hb dX12_roll_159 rfl (lv_at hl 0 rfl) ?_
                  refine lv_goto (tgt := 165) hx hb dX12_roll_160 (by decide) ?_
                  exact hJ165 _ H locs ls hw hP hS (lv_sub hl [1, 2] rfl)
          · intro J103 hJ103 hw
            refine lv_icmp_eq (tgt := 102) hx hb dX12_roll_95 (by decide) (fun hc => ?_) (fun hc => ?_)
            · have hw := hw.1 hc
              refine lv_iconst (v := (0 : Int32)) hx hb dX12_roll_102 (by decide) ?_
              exact hJ103 _ H locs ls hw hP hS (lv_sub hl [0, 1] rfl)
            · have hw := hw.2 hc
              refine lv_iconst (v := (1 : Int32)) hx hb dX12_roll_98 (by decide) ?_
              refine lv_goto (tgt := 103) hx hb dX12_roll_99 (by decide) ?_
              exact hJ103 _ H locs ls hw hP hS (lv_sub hl [0, 1] rfl)
    · intro J49 hJ49 hw
      refine lo_walk hw (fun G22 => ∀ (x1_27 : Int32) (zfears_28 : Nat → Int32) (zheirs_29 : Nat → Int32) (H : Heap) (locs : List Loc) (ls : Array Slot), G22 x1_27 zfears_28 zheirs_29 → va_P D vwCl [(q0, .inr (11, [.int (0 : Int32), .ref q1, .ref q2, .ref q3, .ref q4, .ref q5, u0, .int (0 : Int32), u1, u2, u3, .int zsigns, .ref q6, u4, u5, u6, u7, u8, u9, u10, u11, u12, u13])), (q1, .inl (ci, 7, .inl zhalves)), (q2, .inl (ci, 7, .inl zlikes)), (q3, .inl (cz, 7, .inl zisTold)), (q4, .inl (ci, 7, .inl zfears_28)), (q5, .inl (ci, 7, .inl zheirs_29)), (q6, .inl (ci, 60, .inl zpad))] H → va_S A s.heap H locs → lv_has ls 3 [(0, .ref q0), (1, .int x1_27)] → W p l e R s m args below meth c H locs 0 0 Q (F0 m 22 ls [])) (fun _ _ _ _ _ _ hw _ _ _ => False.elim hw) (fun G22 hG22 x1_27 zfears_28 zheirs_29 H locs ls hw hP hS hl => ?_) (fun G22 hG22 hw => hG22 _ _ _ H locs ls hw hP hS (lv_sub hl [1, 0] rfl))
      have hD : va_D A [(q0, .inr (11, [.int (0 : Int32), .ref q1, .ref q2, .ref q3, .ref q4, .ref q5, u0, .int (0 : Int32), u1, u2, u3, .int zsigns, .ref q6, u4, u5, u6, u7, u8, u9, u10, u11, u12, u13])), (q1, .inl (ci, 7, .inl zhalves)), (q2, .inl (ci, 7, .inl zlikes)), (q3, .inl (cz, 7, .inl zisTold)), (q4, .inl (ci, 7, .inl zfears_28)), (q5, .inl (ci, 7, .inl zheirs_29)), (q6, .inl (ci, 60, .inl zpad))] := gD_re hD rfl
      refine lv_iload_n hx hb dX12_roll_22 rfl (lv_at hl 1 rfl) ?_
      refine lv_bipush (v := (7 : Int32)) hx hb dX12_roll_23 (by decide) ?_
      refine lv_icmp_ge (tgt := 49) hx hb dX12_roll_25 (by decide) (fun hc => ?_) (fun hc => ?_)
      · have hw := hw.1 hc
        exact hJ49 _ _ H locs ls hw hP hS (lv_sub hl [0] rfl)
      · have hw := hw.2 hc
        refine lv_aload_n hx hb dX12_roll_28 rfl (lv_at hl 0 rfl) ?_
        refine va_get (D := D) (ci := 11) (v := .ref q5) (C := RX12) (T := TX12) (N := 23) hx hb ht in_X12 hown hK.1 hP 0 rfl rfl 5 (by decide) (ht _ mF_X12_23) (fun _ h9 => h9) rfl dX12_roll_29 ?_
        refine lv_iload_n hx hb dX12_roll_32 rfl (lv_at hl 1 rfl) ?_
        refine lv_bipush (v := (-6 : Int32)) hx hb dX12_roll_33 (by decide) ?_
        obtain ⟨hin, hw⟩ := hw
        refine va_iast (D := D) hx hb hK.1 hP hD hS 5 0 rfl rfl hin dX12_roll_35 (fun H locs hP hD hS => ?_)
        have hP : va_P D vwCl [(q0, .inr (11, [.int (0 : Int32), .ref q1, .ref q2, .ref q3, .ref q4, .ref q5, u0, .int (0 : Int32), u1, u2, u3, .int zsigns, .ref q6, u4, u5, u6, u7, u8, u9, u10, u11, u12, u13])), (q1, .inl (ci, 7, .inl zhalves)), (q2, .inl (ci, 7, .inl zlikes)), (q3, .inl (cz, 7, .inl zisTold)), (q4, .inl (ci, 7, .inl zfears_28)), (q5, .inl (ci, 7, .inl (upd zheirs_29 (x1_27).toNatClampNeg (-6 : Int32)))), (q6, .inl (ci, 60, .inl zpad))] H := hP
        have hD : va_D A [(q0, .inr (11, [.int (0 : Int32), .ref q1, .ref q2, .ref q3, .ref q4, .ref q5, u0, .int (0 : Int32), u1, u2, u3, .int zsigns, .ref q6, u4, u5, u6, u7, u8, u9, u10, u11, u12, u13])), (q1, .inl (ci, 7, .inl zhalves)), (q2, .inl (ci, 7, .inl zlikes)), (q3, .inl (cz, 7, .inl zisTold)), (q4, .inl (ci, 7, .inl zfears_28)), (q5, .inl (ci, 7, .inl (upd zheirs_29 (x1_27).toNatClampNeg (-6 : Int32)))), (q6, .inl (ci, 60, .inl zpad))] := hD
        refine lv_aload_n hx hb dX12_roll_36 rfl (lv_at hl 0 rfl) ?_
        refine va_get (D := D) (ci := 11) (v := .ref q4) (C := RX12) (T := TX12) (N := 23) hx hb ht in_X12 hown hK.1 hP 0 rfl rfl 4 (by decide) (ht _ mF_X12_20) (fun _ h9 => h9) rfl dX12_roll_37 ?_
        refine lv_iload_n hx hb dX12_roll_40 rfl (lv_at hl 1 rfl) ?_
        refine lv_iconst (v := (0 : Int32)) hx hb dX12_roll_41 (by decide) ?_
        obtain ⟨hin, hw⟩ := hw
        refine va_iast (D := D) hx hb hK.1 hP hD hS 4 0 rfl rfl hin dX12_roll_42 (fun H locs hP hD hS => ?_)
        have hP : va_P D vwCl [(q0, .inr (11, [.int (0 : Int32), .ref q1, .ref q2, .ref q3, .ref q4, .ref q5, u0, .int (0 : Int32), u1, u2, u3, .int zsigns, .ref q6, u4, u5, u6, u7, u8, u9, u10, u11, u12, u13])), (q1, .inl (ci, 7, .inl zhalves)), (q2, .inl (ci, 7, .inl zlikes)), (q3, .inl (cz, 7, .inl zisTold)), (q4, .inl (ci, 7, .inl (upd zfears_28 (x1_27).toNatClampNeg (0 : Int32)))), (q5, .inl (ci, 7, .inl (upd zheirs_29 (x1_27).toNatClampNeg (-6 : Int32)))), (q6, .inl (ci, 60, .inl zpad))] H := hP
        have hD : va_D A [(q0, .inr (11, [.int (0 : Int32), .ref q1, .ref q2, .ref q3, .ref q4, .ref q5, u0, .int (0 : Int32), u1, u2, u3, .int zsigns, .ref q6, u4, u5, u6, u7, u8, u9, u10, u11, u12, u13])), (q1, .inl (ci, 7, .inl zhalves)), (q2, .inl (ci, 7, .inl zlikes)), (q3, .inl (cz, 7, .inl zisTold)), (q4, .inl (ci, 7, .inl (upd zfears_28 (x1_27).toNatClampNeg (0 : Int32)))), (q5, .inl (ci, 7, .inl (upd zheirs_29 (x1_27).toNatClampNeg (-6 : Int32)))), (q6, .inl (ci, 60, .inl zpad))] := hD
        refine lv_iinc (v := (x1_27 + (1 : Int32))) (lv' := [(1, .int (x1_27 + (1 : Int32))), (0, .ref q0)]) hx hb dX12_roll_43 hl (k := 1) rfl rfl (by decide) rfl (fun ls hl => ?_)
        refine lv_goto (tgt := 22) hx hb dX12_roll_46 (by decide) ?_
        exact hG22 _ _ _ H locs ls hw hP hS (lv_sub hl [1, 0] rfl)
  · have hw := hw.2 hc
    refine lv_bipush (v := (-5 : Int32)) hx hb dX12_roll_7 (by decide) ?_
    exact hret _ _ H locs _ _ ⟨_, _, _, _, _, _, _, _, rfl, hw⟩ hP hS dX12_roll_9

def wp_X12_say (zsigns : Int32) (zpad : Nat → Int32) (a1 : Int32) (post : Int32 → Int32 → (Nat → Int32) → Prop) : Prop :=
  wp_X12_in a1 (33 : Int32) (126 : Int32) (fun (r_1 : Int32) => ((¬ r_1 = 0 → ((¬ zsigns = (60 : Int32) → (vp_in zsigns 60 ∧ post (zsigns + (1 : Int32)) (zsigns + (1 : Int32)) (upd zpad (zsigns).toNatClampNeg a1))) ∧ (zsigns = (60 : Int32) → post (-4 : Int32) zsigns zpad))) ∧ (r_1 = 0 → post (-2 : Int32) zsigns zpad)))
set_option maxHeartbeats 4000000 in
set_option maxRecDepth 100000 in
theorem c_X12_say (l : Launch) (D : va_G) (ci cz : ClassId) (tr : List (ClassId × FieldType)) (q0 q1 : Nat) (sz : Nat) (u0 u1 u2 u3 u4 u5 u6 u7 u8 u9 u10 u11 u12 u13 u14 u15 u16 u17 u18 u19 u20 : Value) (zsigns : Int32) (zpad : Nat → Int32) (a1 : Int32) (post : Int32 → Int32 → (Nat → Int32) → Prop) (hw : wp_X12_say zsigns zpad a1 post) : gM l yX12_say cX12_say 2 (some .int) 1 22 D ci cz tr [(q0, .inr (11, [u0, u1, u2, u3, u4, u5, u6, u7, u8, u9, u10, .int zsigns, .ref q1, u11, u12, u13, u14, u15, u16, u17, u18, u19, u20])), (q1, .inl (ci, 60, .inl zpad))] sz [.ref q0, .int a1] (gQi D [(q0, .inr (11, [u0, u1, u2, u3, u4, u5, u6, u7, u8, u9, u10, .int zsigns, .ref q1, u11, u12, u13, u14, u15, u16, u17, u18, u19, u20])), (q1, .inl (ci, 60, .inl zpad))] sz (fun (r : Int32) w => ∃ (o_zsigns : Int32) (o_zpad : Nat → Int32), w = [(q0, .inr (11, [u0, u1, u2, u3, u4, u5, u6, u7, u8, u9, u10, .int o_zsigns, .ref q1, u11, u12, u13, u14, u15, u16, u17, u18, u19, u20])), (q1, .inl (ci, 60, .inl o_zpad))] ∧ post r o_zsigns o_zpad)) := by
  refine gmet_i RX12 (by decide +kernel) rfl (Nat.le_of_ble_eq_true rfl) ?_
  intro p e s m args below meth c A R Q C hfr hlc hP hD hret ls hl
  obtain ⟨hx, hb, hml, hown, ht, hK, hZ, hA⟩ := C
  have hl : lv_has ls 2 [(0, .ref q0), (1, .int a1)] := hl
  unfold wp_X12_say at hw
  refine g_in (fun H locs => W p l e R s m args below meth c H locs 0 0 Q (F0 m 0 ls [])) (fun H locs hS0 hP => ?_) hP (va_S.rf (A := A) (H0 := s.heap))
  have hS : va_S A s.heap H locs := hS0
  clear hS0
  refine lv_iload_n hx hb dX12_say_0 rfl (lv_at hl 1 rfl) ?_
  refine lv_bipush (v := (33 : Int32)) hx hb dX12_say_1 (by decide) ?_
  refine lv_bipush (v := (126 : Int32)) hx hb dX12_say_3 (by decide) ?_
  refine gcalli (va_runS (As := [.int a1, .int (33 : Int32), .int (126 : Int32)]) (rest := []) ⟨hx, hb, hml, hown, ht⟩ (c_X12_in l D ci cz tr  H.size a1 (33 : Int32) (126 : Int32) _ hw) (va_cwS 3 ht (gi_S mM_X12_66 mT_X12_in mN_X12 mC_X12_in) rfl rfl rfl (by decide +kernel) ⟨Nat.le_trans (Nat.le_of_ble_eq_true rfl) hfr, Nat.le_trans (Nat.le_of_ble_eq_true rfl) hlc⟩) (gpre (wc := []) hK hZ hP hD hS hA [] rfl rfl) rfl rfl hl.1 rfl (lv_room (Nat.le_of_ble_eq_true rfl)) dX12_say_5 ⟨Nat.zero_le _, Nat.zero_le _⟩) hD hS hA [] rfl (fun r_1 w9 H locs hw hP9 hk9 hS => ?_)
  obtain ⟨rfl, hw⟩ := hw
  have hP : va_P D vwCl [(q0, .inr (11, [u0, u1, u2, u3, u4, u5, u6, u7, u8, u9, u10, .int zsigns, .ref q1, u11, u12, u13, u14, u15, u16, u17, u18, u19, u20])), (q1, .inl (ci, 60, .inl zpad))] H := gjoin3 hP hD [] hP9 hk9 rfl rfl [none, none] rfl rfl
  clear hP9 hk9
  refine lv_if_ne (tgt := 14) hx hb dX12_say_8 (by decide) (fun hc => ?_) (fun hc => ?_)
  · have hw := hw.1 hc
    refine lv_aload_n hx hb dX12_say_14 rfl (lv_at hl 0 rfl) ?_
    refine va_get (D := D) (ci := 11) (v := .int zsigns) (C := RX12) (T := TX12) (N := 23) hx hb ht in_X12 hown hK.1 hP 0 rfl rfl 11 (by decide) (ht _ mF_X12_70) (fun _ h9 => h9) rfl dX12_say_15 ?_
    refine lv_bipush (v := (60 : Int32)) hx hb dX12_say_18 (by decide) ?_
    refine lv_icmp_ne (tgt := 26) hx hb dX12_say_20 (by decide) (fun hc => ?_) (fun hc => ?_)
    · have hw := hw.1 hc
      refine lv_aload_n hx hb dX12_say_26 rfl (lv_at hl 0 rfl) ?_
      refine va_get (D := D) (ci := 11) (v := .ref q1) (C := RX12) (T := TX12) (N := 23) hx hb ht in_X12 hown hK.1 hP 0 rfl rfl 12 (by decide) (ht _ mF_X12_36) (fun _ h9 => h9) rfl dX12_say_27 ?_
      refine lv_aload_n hx hb dX12_say_30 rfl (lv_at hl 0 rfl) ?_
      refine va_get (D := D) (ci := 11) (v := .int zsigns) (C := RX12) (T := TX12) (N := 23) hx hb ht in_X12 hown hK.1 hP 0 rfl rfl 11 (by decide) (ht _ mF_X12_70) (fun _ h9 => h9) rfl dX12_say_31 ?_
      refine lv_iload_n hx hb dX12_say_34 rfl (lv_at hl 1 rfl) ?_
      obtain ⟨hin, hw⟩ := hw
      refine va_iast (D := D) hx hb hK.1 hP hD hS 1 0 rfl rfl hin dX12_say_35 (fun H locs hP hD hS => ?_)
      have hP : va_P D vwCl [(q0, .inr (11, [u0, u1, u2, u3, u4, u5, u6, u7, u8, u9, u10, .int zsigns, .ref q1, u11, u12, u13, u14, u15, u16, u17, u18, u19, u20])), (q1, .inl (ci, 60, .inl (upd zpad (zsigns).toNatClampNeg a1)))] H := hP
      have hD : va_D A [(q0, .inr (11, [u0, u1, u2, u3, u4, u5, u6, u7, u8, u9, u10, .int zsigns, .ref q1, u11, u12, u13, u14, u15, u16, u17, u18, u19, u20])), (q1, .inl (ci, 60, .inl (upd zpad (zsigns).toNatClampNeg a1)))] := hD
      refine lv_aload_n hx hb dX12_say_36 rfl (lv_at hl 0 rfl) ?_
      refine lv_dup hx hb dX12_say_37 rfl ?_
      refine va_get (D := D) (ci := 11) (v := .int zsigns) (C := RX12) (T := TX12) (N := 23) hx hb ht in_X12 hown hK.1 hP 0 rfl rfl 11 (by decide) (ht _ mF_X12_70) (fun _ h9 => h9) rfl dX12_say_38 ?_
      refine lv_iconst (v := (1 : Int32)) hx hb dX12_say_41 (by decide) ?_
      refine lv_iadd hx hb dX12_say_42 ?_
      refine va_put (D := D) (ci := 11) (v := .int (zsigns + (1 : Int32))) (ty := .int) (C := RX12) (T := TX12) (N := 23) hx hb ht in_X12 tyX12 tyX12_ok nmX12 hown hK.1 hP hD hS 0 rfl rfl 11 (by decide) (ht _ mF_X12_70) (fun _ h9 => h9) rfl (by decide +kernel) rfl rfl (Nat.le_of_ble_eq_true rfl) dX12_say_43 (fun H locs hP hD hS => ?_)
      have hP : va_P D vwCl [(q0, .inr (11, [u0, u1, u2, u3, u4, u5, u6, u7, u8, u9, u10, .int (zsigns + (1 : Int32)), .ref q1, u11, u12, u13, u14, u15, u16, u17, u18, u19, u20])), (q1, .inl (ci, 60, .inl (upd zpad (zsigns).toNatClampNeg a1)))] H := hP
      have hD : va_D A [(q0, .inr (11, [u0, u1, u2, u3, u4, u5, u6, u7, u8, u9, u10, .int (zsigns + (1 : Int32)), .ref q1, u11, u12, u13, u14, u15, u16, u17, u18, u19, u20])), (q1, .inl (ci, 60, .inl (upd zpad (zsigns).toNatClampNeg a1)))] := hD
      refine lv_aload_n hx hb dX12_say_46 rfl (lv_at hl 0 rfl) ?_
      refine va_get (D := D) (ci := 11) (v := .int (zsigns + (1 : Int32))) (C := RX12) (T := TX12) (N := 23) hx hb ht in_X12 hown hK.1 hP 0 rfl rfl 11 (by decide) (ht _ mF_X12_70) (fun _ h9 => h9) rfl dX12_say_47 ?_
      exact hret _ _ H locs _ _ ⟨_, _, rfl, hw⟩ hP hS dX12_say_50
    · have hw := hw.2 hc
      refine lv_bipush (v := (-4 : Int32)) hx hb dX12_say_23 (by decide) ?_
      exact hret _ _ H locs _ _ ⟨_, _, rfl, hw⟩ hP hS dX12_say_25
  · have hw := hw.2 hc
    refine lv_bipush (v := (-2 : Int32)) hx hb dX12_say_11 (by decide) ?_
    exact hret _ _ H locs _ _ ⟨_, _, rfl, hw⟩ hP hS dX12_say_13

def wp_X12_stolen (zdogs : Int32) (zhungry : Int32) (zatLeft : Int32) (zatRight : Int32) (zhalves : Nat → Int32) (zlikes : Nat → Int32) (zfears : Nat → Int32) (zorder : Nat → Int32) (zwent : Nat → Int32) (zfill : Nat → Int32) (a1 : Int32) (a2 : Int32) (post : Int32 → Int32 → Int32 → (Nat → Int32) → (Nat → Int32) → (Nat → Int32) → Prop) : Prop :=
  wp_X12_areLivers a1 a2 (fun (r_1 : Int32) => ((¬ r_1 = 0 → wp_X12_fresh zdogs zhungry zatLeft zatRight zhalves zlikes zfears zorder zwent zfill a1 a2 (-6 : Int32) (fun (zatLeft_3 : Int32) (zatRight_4 : Int32) (zorder_5 : Nat → Int32) (zwent_6 : Nat → Int32) (zfill_7 : Nat → Int32) => wp_X12_winner zatLeft_3 zatRight_4 (fun (r_8 : Int32) => lo (fun _ _ _ _ _ _ _ => False) (fun (G30 : Int32 → Int32 → Int32 → Int32 → (Nat → Int32) → (Nat → Int32) → (Nat → Int32) → Prop) (x4_9 : Int32) (x5_10 : Int32) (zatLeft_11 : Int32) (zatRight_12 : Int32) (zorder_13 : Nat → Int32) (zwent_14 : Nat → Int32) (zfill_15 : Nat → Int32) => ((zdogs ≤ x5_10 → post x4_9 zatLeft_11 zatRight_12 zorder_13 zwent_14 zfill_15) ∧ (¬ zdogs ≤ x5_10 → wp_X12_fresh zdogs zhungry zatLeft_11 zatRight_12 zhalves zlikes zfears zorder_13 zwent_14 zfill_15 a1 a2 x5_10 (fun (zatLeft_17 : Int32) (zatRight_18 : Int32) (zorder_19 : Nat → Int32) (zwent_20 : Nat → Int32) (zfill_21 : Nat → Int32) => wp_X12_winner zatLeft_17 zatRight_18 (fun (r_22 : Int32) => jn (fun (t_23 : Int32) => G30 (x4_9 ||| t_23) (x5_10 + (1 : Int32)) zatLeft_17 zatRight_18 zorder_19 zwent_20 zfill_21) (fun (J65 : Int32 → Prop) => ((r_22 = r_8 → J65 (0 : Int32)) ∧ (¬ r_22 = r_8 → J65 ((1 : Int32) <<< (x5_10 &&& 31)))))))))) (fun G30 => G30 (0 : Int32) (0 : Int32) zatLeft_3 zatRight_4 zorder_5 zwent_6 zfill_7)))) ∧ (r_1 = 0 → post (-2 : Int32) zatLeft zatRight zorder zwent zfill)))
set_option maxHeartbeats 4000000 in
set_option maxRecDepth 100000 in
theorem c_X12_stolen (l : Launch) (D : va_G) (ci cz : ClassId) (tr : List (ClassId × FieldType)) (q0 q1 q2 q3 q4 q5 q6 : Nat) (sz : Nat) (u0 u1 u2 u3 u4 u5 u6 u7 u8 u9 u10 u11 u12 : Value) (zdogs : Int32) (zhungry : Int32) (zatLeft : Int32) (zatRight : Int32) (zhalves : Nat → Int32) (zlikes : Nat → Int32) (zfears : Nat → Int32) (zorder : Nat → Int32) (zwent : Nat → Int32) (zfill : Nat → Int32) (a1 : Int32) (a2 : Int32) (post : Int32 → Int32 → Int32 → (Nat → Int32) → (Nat → Int32) → (Nat → Int32) → Prop) (hw : wp_X12_stolen zdogs zhungry zatLeft zatRight zhalves zlikes zfears zorder zwent zfill a1 a2 post) : gM l yX12_stolen cX12_stolen 6 (some .int) 4 95 D ci cz tr [(q0, .inr (11, [.int zdogs, .ref q1, .ref q2, u0, .ref q3, u1, .int zhungry, u2, u3, u4, u5, u6, u7, .ref q4, .ref q5, .ref q6, .int zatLeft, .int zatRight, u8, u9, u10, u11, u12])), (q1, .inl (ci, 7, .inl zhalves)), (q2, .inl (ci, 7, .inl zlikes)), (q3, .inl (ci, 7, .inl zfears)), (q4, .inl (ci, 7, .inl zorder)), (q5, .inl (ci, 7, .inl zwent)), (q6, .inl (ci, 7, .inl zfill))] sz [.ref q0, .int a1, .int a2] (gQi D [(q0, .inr (11, [.int zdogs, .ref q1, .ref q2, u0, .ref q3, u1, .int zhungry, u2, u3, u4, u5, u6, u7, .ref q4, .ref q5, .ref q6, .int zatLeft, .int zatRight, u8, u9, u10, u11, u12])), (q1, .inl (ci, 7, .inl zhalves)), (q2, .inl (ci, 7, .inl zlikes)), (q3, .inl (ci, 7, .inl zfears)), (q4, .inl (ci, 7, .inl zorder)), (q5, .inl (ci, 7, .inl zwent)), (q6, .inl (ci, 7, .inl zfill))] sz (fun (r : Int32) w => ∃ (o_zatLeft : Int32) (o_zatRight : Int32) (o_zorder : Nat → Int32) (o_zwent : Nat → Int32) (o_zfill : Nat → Int32), w = [(q0, .inr (11, [.int zdogs, .ref q1, .ref q2, u0, .ref q3, u1, .int zhungry, u2, u3, u4, u5, u6, u7, .ref q4, .ref q5, .ref q6, .int o_zatLeft, .int o_zatRight, u8, u9, u10, u11, u12])), (q1, .inl (ci, 7, .inl zhalves)), (q2, .inl (ci, 7, .inl zlikes)), (q3, .inl (ci, 7, .inl zfears)), (q4, .inl (ci, 7, .inl o_zorder)), (q5, .inl (ci, 7, .inl o_zwent)), (q6, .inl (ci, 7, .inl o_zfill))] ∧ post r o_zatLeft o_zatRight o_zorder o_zwent o_zfill)) := by
  refine gmet_i RX12 (by decide +kernel) rfl (Nat.le_of_ble_eq_true rfl) ?_
  intro p e s m args below meth c A R Q C hfr hlc hP hD hret ls hl
  obtain ⟨hx, hb, hml, hown, ht, hK, hZ, hA⟩ := C
  have hl : lv_has ls 6 [(0, .ref q0), (1, .int a1), (2, .int a2)] := hl
  unfold wp_X12_stolen at hw
  refine g_in (fun H locs => W p l e R s m args below meth c H locs 0 0 Q (F0 m 0 ls [])) (fun H locs hS0 hP => ?_) hP (va_S.rf (A := A) (H0 := s.heap))
  have hS : va_S A s.heap H locs := hS0
  clear hS0
  refine lv_iload_n hx hb dX12_stolen_0 rfl (lv_at hl 1 rfl) ?_
  refine lv_iload_n hx hb dX12_stolen_1 rfl (lv_at hl 2 rfl) ?_
  refine gcalli (va_runS (As := [.int a1, .int a2]) (rest := []) ⟨hx, hb, hml, hown, ht⟩ (c_X12_areLivers l D ci cz tr  H.size a1 a2 _ hw) (va_cwS 2 ht (gi_S mM_X12_107 mT_X12_areLivers mN_X12 mC_X12_areLivers) rfl rfl rfl (by decide +kernel) ⟨Nat.le_trans (Nat.le_of_ble_eq_true rfl) hfr, Nat.le_trans (Nat.le_of_ble_eq_true rfl) hlc⟩) (gpre (wc := []) hK hZ hP hD hS hA [] rfl rfl) rfl rfl hl.1 rfl (lv_room (Nat.le_of_ble_eq_true rfl)) dX12_stolen_2 ⟨Nat.zero_le _, Nat.zero_le _⟩) hD hS hA [] rfl (fun r_1 w9 H locs hw hP9 hk9 hS => ?_)
  obtain ⟨rfl, hw⟩ := hw
  have hP : va_P D vwCl [(q0, .inr (11, [.int zdogs, .ref q1, .ref q2, u0, .ref q3, u1, .int zhungry, u2, u3, u4, u5, u6, u7, .ref q4, .ref q5, .ref q6, .int zatLeft, .int zatRight, u8, u9, u10, u11, u12])), (q1, .inl (ci, 7, .inl zhalves)), (q2, .inl (ci, 7, .inl zlikes)), (q3, .inl (ci, 7, .inl zfears)), (q4, .inl (ci, 7, .inl zorder)), (q5, .inl (ci, 7, .inl zwent)), (q6, .inl (ci, 7, .inl zfill))] H := gjoin3 hP hD [] hP9 hk9 rfl rfl [none, none, none, none, none, none, none] rfl rfl
  clear hP9 hk9
  refine lv_if_ne (tgt := 11) hx hb dX12_stolen_5 (by decide) (fun hc => ?_) (fun hc => ?_)
  · have hw := hw.1 hc
    refine lv_aload_n hx hb dX12_stolen_11 rfl (lv_at hl 0 rfl) ?_
    refine lv_iload_n hx hb dX12_stolen_12 rfl (lv_at hl 1 rfl) ?_
    refine lv_iload_n hx hb dX12_stolen_13 rfl (lv_at hl 2 rfl) ?_
    refine lv_bipush (v := (-6 : Int32)) hx hb dX12_stolen_14 (by decide) ?_
    refine gcallv (va_runV (As := [.int a1, .int a2, .int (-6 : Int32)]) (rest := []) ⟨hx, hb, hml, hown, ht⟩ (c_X12_fresh l D ci cz tr q0 q1 q2 q3 q4 q5 q6 H.size u0 u1 u2 u3 u4 u5 u6 u7 u8 u9 u10 u11 u12 zdogs zhungry zatLeft zatRight zhalves zlikes zfears zorder zwent zfill a1 a2 (-6 : Int32) _ hw) (cwV 3 ht (gi_V mM_X12_110 mI_X12_fresh mS_X12_fresh mN_X12 mC_X12_fresh) rfl rfl rfl (by decide +kernel) ⟨Nat.le_trans (Nat.le_of_ble_eq_true rfl) hfr, Nat.le_trans (Nat.le_of_ble_eq_true rfl) hlc⟩) (gpreV (wc := [(q0, .inr (11, [.int zdogs, .ref q1, .ref q2, u0, .ref q3, u1, .int zhungry, u2, u3, u4, u5, u6, u7, .ref q4, .ref q5, .ref q6, .int zatLeft, .int zatRight, u8, u9, u10, u11, u12])), (q1, .inl (ci, 7, .inl zhalves)), (q2, .inl (ci, 7, .inl zlikes)), (q3, .inl (ci, 7, .inl zfears)), (q4, .inl (ci, 7, .inl zorder)), (q5, .inl (ci, 7, .inl zwent)), (q6, .inl (ci, 7, .inl zfill))]) (k := 11) (q0 := 0) hK hZ hP hD hS hA [0, 1, 2, 3, 4, 5, 6] rfl rfl rfl rfl rfl) rfl rfl hl.1 rfl (lv_room (Nat.le_of_ble_eq_true rfl)) dX12_stolen_16 ⟨Nat.zero_le _, Nat.zero_le _⟩) hD hS hA [0, 1, 2, 3, 4, 5, 6] rfl (fun w9 H locs hw hP9 hk9 hS => ?_)
    obtain ⟨zatLeft_3, zatRight_4, zorder_5, zwent_6, zfill_7, rfl, hw⟩ := hw
    have hP : va_P D vwCl [(q0, .inr (11, [.int zdogs, .ref q1, .ref q2, u0, .ref q3, u1, .int zhungry, u2, u3, u4, u5, u6, u7, .ref q4, .ref q5, .ref q6, .int zatLeft_3, .int zatRight_4, u8, u9, u10, u11, u12])), (q1, .inl (ci, 7, .inl zhalves)), (q2, .inl (ci, 7, .inl zlikes)), (q3, .inl (ci, 7, .inl zfears)), (q4, .inl (ci, 7, .inl zorder_5)), (q5, .inl (ci, 7, .inl zwent_6)), (q6, .inl (ci, 7, .inl zfill_7))] H := gjoin3 hP hD [0, 1, 2, 3, 4, 5, 6] hP9 hk9 rfl rfl [some 0, some 1, some 2, some 3, some 4, some 5, some 6] rfl rfl
    have hD : va_D A [(q0, .inr (11, [.int zdogs, .ref q1, .ref q2, u0, .ref q3, u1, .int zhungry, u2, u3, u4, u5, u6, u7, .ref q4, .ref q5, .ref q6, .int zatLeft_3, .int zatRight_4, u8, u9, u10, u11, u12])), (q1, .inl (ci, 7, .inl zhalves)), (q2, .inl (ci, 7, .inl zlikes)), (q3, .inl (ci, 7, .inl zfears)), (q4, .inl (ci, 7, .inl zorder_5)), (q5, .inl (ci, 7, .inl zwent_6)), (q6, .inl (ci, 7, .inl zfill_7))] := gD_re hD rfl
    clear hP9 hk9
    refine lv_aload_n hx hb dX12_stolen_19 rfl (lv_at hl 0 rfl) ?_
    refine gcalli (va_runV (As := []) (rest := []) ⟨hx, hb, hml, hown, ht⟩ (c_X12_winner l D ci cz tr q0 H.size (.int zdogs) (.ref q1) (.ref q2) u0 (.ref q3) u1 (.int zhungry) u2 u3 u4 u5 u6 u7 (.ref q4) (.ref q5) (.ref q6) u8 u9 u10 u11 u12 zatLeft_3 zatRight_4 _ hw) (cwV 0 ht (gi_V mM_X12_113 mI_X12_winner mS_X12_winner mN_X12 mC_X12_winner) rfl rfl rfl (by decide +kernel) ⟨Nat.le_trans (Nat.le_of_ble_eq_true rfl) hfr, Nat.le_trans (Nat.le_of_ble_eq_true rfl) hlc⟩) (gpreV (wc := [(q0, .inr (11, [.int zdogs, .ref q1, .ref q2, u0, .ref q3, u1, .int zhungry, u2, u3, u4, u5, u6, u7, .ref q4, .ref q5, .ref q6, .int zatLeft_3, .int zatRight_4, u8, u9, u10, u11, u12]))]) (k := 11) (q0 := 0) hK hZ hP hD hS hA [0] rfl rfl rfl rfl rfl) rfl rfl hl.1 rfl (lv_room (Nat.le_of_ble_eq_true rfl)) dX12_stolen_20 ⟨Nat.zero_le _, Nat.zero_le _⟩) hD hS hA [0] rfl (fun r_8 w9 H locs hw hP9 hk9 hS => ?_)
    obtain ⟨rfl, hw⟩ := hw
    have hP : va_P D vwCl [(q0, .inr (11, [.int zdogs, .ref q1, .ref q2, u0, .ref q3, u1, .int zhungry, u2, u3, u4, u5, u6, u7, .ref q4, .ref q5, .ref q6, .int zatLeft_3, .int zatRight_4, u8, u9, u10, u11, u12])), (q1, .inl (ci, 7, .inl zhalves)), (q2, .inl (ci, 7, .inl zlikes)), (q3, .inl (ci, 7, .inl zfears)), (q4, .inl (ci, 7, .inl zorder_5)), (q5, .inl (ci, 7, .inl zwent_6)), (q6, .inl (ci, 7, .inl zfill_7))] H := gjoin3 hP hD [0] hP9 hk9 rfl rfl [some 0, none, none, none, none, none, none] rfl rfl
    clear hP9 hk9
    refine lv_istore_n (lv' := [(3, .int r_8), (0, .ref q0), (1, .int a1), (2, .int a2)]) hx hb dX12_stolen_23 rfl hl (by decide) rfl (fun ls hl => ?_)
    refine lv_iconst (v := (0 : Int32)) hx hb dX12_stolen_24 (by decide) ?_
    refine lv_istore (lv' := [(4, .int (0 : Int32)), (3, .int r_8), (0, .ref q0), (1, .int a1), (2, .int a2)]) hx hb dX12_stolen_25 hl (by decide) rfl (fun ls hl => ?_)
    refine lv_iconst (v := (0 : Int32)) hx hb dX12_stolen_27 (by decide) ?_
    refine lv_istore (lv' := [(5, .int (0 : Int32)), (4, .int (0 : Int32)), (3, .int r_8), (0, .ref q0), (1, .int a1), (2, .int a2)]) hx hb dX12_stolen_28 hl (by decide) rfl (fun ls hl => ?_)
    refine lo_walk hw (fun G30 => ∀ (x4_9 : Int32) (x5_10 : Int32) (zatLeft_11 : Int32) (zatRight_12 : Int32) (zorder_13 : Nat → Int32) (zwent_14 : Nat → Int32) (zfill_15 : Nat → Int32) (H : Heap) (locs : List Loc) (ls : Array Slot), G30 x4_9 x5_10 zatLeft_11 zatRight_12 zorder_13 zwent_14 zfill_15 → va_P D vwCl [(q0, .inr (11, [.int zdogs, .ref q1, .ref q2, u0, .ref q3, u1, .int zhungry, u2, u3, u4, u5, u6, u7, .ref q4, .ref q5, .ref q6, .int zatLeft_11, .int zatRight_12, u8, u9, u10, u11, u12])), (q1, .inl (ci, 7, .inl zhalves)), (q2, .inl (ci, 7, .inl zlikes)), (q3, .inl (ci, 7, .inl zfears)), (q4, .inl (ci, 7, .inl zorder_13)), (q5, .inl (ci, 7, .inl zwent_14)), (q6, .inl (ci, 7, .inl zfill_15))] H → va_S A s.heap H locs → lv_has ls 6 [(0, .ref q0), (1, .int a1), (2, .int a2), (3, .int r_8), (4, .int x4_9), (5, .int x5_10)] → W p l e R s m args below meth c H locs 0 0 Q (F0 m 30 ls [])) (fun _ _ _ _ _ _ _ _ _ _ hw _ _ _ => False.elim hw) (fun G30 hG30 x4_9 x5_10 zatLeft_11 zatRight_12 zorder_13 zwent_14 zfill_15 H locs ls hw hP hS hl => ?_) (fun G30 hG30 hw => hG30 _ _ _ _ _ _ _ H locs ls hw hP hS (lv_sub hl [3, 4, 5, 2, 1, 0] rfl))
    have hD : va_D A [(q0, .inr (11, [.int zdogs, .ref q1, .ref q2, u0, .ref q3, u1, .int zhungry, u2, u3, u4, u5, u6, u7, .ref q4, .ref q5, .ref q6, .int zatLeft_11, .int zatRight_12, u8, u9, u10, u11, u12])), (q1, .inl (ci, 7, .inl zhalves)), (q2, .inl (ci, 7, .inl zlikes)), (q3, .inl (ci, 7, .inl zfears)), (q4, .inl (ci, 7, .inl zorder_13)), (q5, .inl (ci, 7, .inl zwent_14)), (q6, .inl (ci, 7, .inl zfill_15))] := gD_re hD rfl
    refine lv_iload hx hb dX12_stolen_30 (lv_at hl 5 rfl) ?_
    refine lv_aload_n hx hb dX12_stolen_32 rfl (lv_at hl 0 rfl) ?_
    refine va_get (D := D) (ci := 11) (v := .int zdogs) (C := RX12) (T := TX12) (N := 23) hx hb ht in_X12 hown hK.1 hP 0 rfl rfl 0 (by decide) (ht _ mF_X12_63) (fun _ h9 => h9) rfl dX12_stolen_33 ?_
    refine lv_icmp_ge (tgt := 74) hx hb dX12_stolen_36 (by decide) (fun hc => ?_) (fun hc => ?_)
    · have hw := hw.1 hc
      refine lv_iload hx hb dX12_stolen_74 (lv_at hl 4 rfl) ?_
      exact hret _ _ H locs _ _ ⟨_, _, _, _, _, rfl, hw⟩ hP hS dX12_stolen_76
    · have hw := hw.2 hc
      refine lv_aload_n hx hb dX12_stolen_39 rfl (lv_at hl 0 rfl) ?_
      refine lv_iload_n hx hb dX12_stolen_40 rfl (lv_at hl 1 rfl) ?_
      refine lv_iload_n hx hb dX12_stolen_41 rfl (lv_at hl 2 rfl) ?_
      refine lv_iload hx hb dX12_stolen_42 (lv_at hl 5 rfl) ?_
      refine gcallv (va_runV (As := [.int a1, .int a2, .int x5_10]) (rest := []) ⟨hx, hb, hml, hown, ht⟩ (c_X12_fresh l D ci cz tr q0 q1 q2 q3 q4 q5 q6 H.size u0 u1 u2 u3 u4 u5 u6 u7 u8 u9 u10 u11 u12 zdogs zhungry zatLeft_11 zatRight_12 zhalves zlikes zfears zorder_13 zwent_14 zfill_15 a1 a2 x5_10 _ hw) (cwV 3 ht (gi_V mM_X12_110 mI_X12_fresh mS_X12_fresh mN_X12 mC_X12_fresh) rfl rfl rfl (by decide +kernel) ⟨Nat.le_trans (Nat.le_of_ble_eq_true rfl) hfr, Nat.le_trans (Nat.le_of_ble_eq_true rfl) hlc⟩) (gpreV (wc := [(q0, .inr (11, [.int zdogs, .ref q1, .ref q2, u0, .ref q3, u1, .int zhungry, u2, u3, u4, u5, u6, u7, .ref q4, .ref q5, .ref q6, .int zatLeft_11, .int zatRight_12, u8, u9, u10, u11, u12])), (q1, .inl (ci, 7, .inl zhalves)), (q2, .inl (ci, 7, .inl zlikes)), (q3, .inl (ci, 7, .inl zfears)), (q4, .inl (ci, 7, .inl zorder_13)), (q5, .inl (ci, 7, .inl zwent_14)), (q6, .inl (ci, 7, .inl zfill_15))]) (k := 11) (q0 := 0) hK hZ hP hD hS hA [0, 1, 2, 3, 4, 5, 6] rfl rfl rfl rfl rfl) rfl rfl hl.1 rfl (lv_room (Nat.le_of_ble_eq_true rfl)) dX12_stolen_44 ⟨Nat.zero_le _, Nat.zero_le _⟩) hD hS hA [0, 1, 2, 3, 4, 5, 6] rfl (fun w9 H locs hw hP9 hk9 hS => ?_)
      obtain ⟨zatLeft_17, zatRight_18, zorder_19, zwent_20, zfill_21, rfl, hw⟩ := hw
      have hP : va_P D vwCl [(q0, .inr (11, [.int zdogs, .ref q1, .ref q2, u0, .ref q3, u1, .int zhungry, u2, u3, u4, u5, u6, u7, .ref q4, .ref q5, .ref q6, .int zatLeft_17, .int zatRight_18, u8, u9, u10, u11, u12])), (q1, .inl (ci, 7, .inl zhalves)), (q2, .inl (ci, 7, .inl zlikes)), (q3, .inl (ci, 7, .inl zfears)), (q4, .inl (ci, 7, .inl zorder_19)), (q5, .inl (ci, 7, .inl zwent_20)), (q6, .inl (ci, 7, .inl zfill_21))] H := gjoin3 hP hD [0, 1, 2, 3, 4, 5, 6] hP9 hk9 rfl rfl [some 0, some 1, some 2, some 3, some 4, some 5, some 6] rfl rfl
      have hD : va_D A [(q0, .inr (11, [.int zdogs, .ref q1, .ref q2, u0, .ref q3, u1, .int zhungry, u2, u3, u4, u5, u6, u7, .ref q4, .ref q5, .ref q6, .int zatLeft_17, .int zatRight_18, u8, u9, u10, u11, u12])), (q1, .inl (ci, 7, .inl zhalves)), (q2, .inl (ci, 7, .inl zlikes)), (q3, .inl (ci, 7, .inl zfears)), (q4, .inl (ci, 7, .inl zorder_19)), (q5, .inl (ci, 7, .inl zwent_20)), (q6, .inl (ci, 7, .inl zfill_21))] := gD_re hD rfl
      clear hP9 hk9
      refine lv_iload hx hb dX12_stolen_47 (lv_at hl 4 rfl) ?_
      refine lv_aload_n hx hb dX12_stolen_49 rfl (lv_at hl 0 rfl) ?_
      refine gcalli (va_runV (As := []) (rest := [.int x4_9]) ⟨hx, hb, hml, hown, ht⟩ (c_X12_winner l D ci cz tr q0 H.size (.int zdogs) (.ref q1) (.ref q2) u0 (.ref q3) u1 (.int zhungry) u2 u3 u4 u5 u6 u7 (.ref q4) (.ref q5) (.ref q6) u8 u9 u10 u11 u12 zatLeft_17 zatRight_18 _ hw) (cwV 0 ht (gi_V mM_X12_113 mI_X12_winner mS_X12_winner mN_X12 mC_X12_winner) rfl rfl rfl (by decide +kernel) ⟨Nat.le_trans (Nat.le_of_ble_eq_true rfl) hfr, Nat.le_trans (Nat.le_of_ble_eq_true rfl) hlc⟩) (gpreV (wc := [(q0, .inr (11, [.int zdogs, .ref q1, .ref q2, u0, .ref q3, u1, .int zhungry, u2, u3, u4, u5, u6, u7, .ref q4, .ref q5, .ref q6, .int zatLeft_17, .int zatRight_18, u8, u9, u10, u11, u12]))]) (k := 11) (q0 := 0) hK hZ hP hD hS hA [0] rfl rfl rfl rfl rfl) rfl rfl hl.1 rfl (lv_room (Nat.le_of_ble_eq_true rfl)) dX12_stolen_50 ⟨Nat.zero_le _, Nat.zero_le _⟩) hD hS hA [0] rfl (fun r_22 w9 H locs hw hP9 hk9 hS => ?_)
      obtain ⟨rfl, hw⟩ := hw
      have hP : va_P D vwCl [(q0, .inr (11, [.int zdogs, .ref q1, .ref q2, u0, .ref q3, u1, .int zhungry, u2, u3, u4, u5, u6, u7, .ref q4, .ref q5, .ref q6, .int zatLeft_17, .int zatRight_18, u8, u9, u10, u11, u12])), (q1, .inl (ci, 7, .inl zhalves)), (q2, .inl (ci, 7, .inl zlikes)), (q3, .inl (ci, 7, .inl zfears)), (q4, .inl (ci, 7, .inl zorder_19)), (q5, .inl (ci, 7, .inl zwent_20)), (q6, .inl (ci, 7, .inl zfill_21))] H := gjoin3 hP hD [0] hP9 hk9 rfl rfl [some 0, none, none, none, none, none, none] rfl rfl
      clear hP9 hk9
      refine lv_iload_n hx hb dX12_stolen_53 rfl (lv_at hl 3 rfl) ?_
      refine jn_walk hw (fun J65 => ∀ (t_23 : Int32) (H : Heap) (locs : List Loc) (ls : Array Slot), J65 t_23 → va_P D vwCl [(q0, .inr (11, [.int zdogs, .ref q1, .ref q2, u0, .ref q3, u1, .int zhungry, u2, u3, u4, u5, u6, u7, .ref q4, .ref q5, .ref q6, .int zatLeft_17, .int zatRight_18, u8, u9, u10, u11, u12])), (q1, .inl (ci, 7, .inl zhalves)), (q2, .inl (ci, 7, .inl zlikes)), (q3, .inl (ci, 7, .inl zfears)), (q4, .inl (ci, 7, .inl zorder_19)), (q5, .inl (ci, 7, .inl zwent_20)), (q6, .inl (ci, 7, .inl zfill_21))] H → va_S A s.heap H locs → lv_has ls 6 [(0, .ref q0), (1, .int a1), (2, .int a2), (3, .int r_8), (5, .int x5_10)] → W p l e R s m args below meth c H locs 0 0 Q (F0 m 65 ls [.int t_23, .int x4_9])) ?_ ?_
      · intro t_23 H locs ls hw hP hS hl
        have hD : va_D A [(q0, .inr (11, [.int zdogs, .ref q1, .ref q2, u0, .ref q3, u1, .int zhungry, u2, u3, u4, u5, u6, u7, .ref q4, .ref q5, .ref q6, .int zatLeft_17, .int zatRight_18, u8, u9, u10, u11, u12])), (q1, .inl (ci, 7, .inl zhalves)), (q2, .inl (ci, 7, .inl zlikes)), (q3, .inl (ci, 7, .inl zfears)), (q4, .inl (ci, 7, .inl zorder_19)), (q5, .inl (ci, 7, .inl zwent_20)), (q6, .inl (ci, 7, .inl zfill_21))] := gD_re hD rfl
        refine lv_ior hx hb dX12_stolen_65 ?_
        refine lv_istore (lv' := [(4, .int (x4_9 ||| t_23)), (0, .ref q0), (1, .int a1), (2, .int a2), (3, .int r_8), (5, .int x5_10)]) hx hb dX12_stolen_66 hl (by decide) rfl (fun ls hl => ?_)
        refine lv_iinc (v := (x5_10 + (1 : Int32))) (lv' := [(5, .int (x5_10 + (1 : Int32))), (4, .int (x4_9 ||| t_23)), (0, .ref q0), (1, .int a1), (2, .int a2), (3, .int r_8)]) hx hb dX12_stolen_68 hl (k := 5) rfl rfl (by decide) rfl (fun ls hl => ?_)
        refine lv_goto (tgt := 30) hx hb dX12_stolen_71 (by decide) ?_
        exact hG30 _ _ _ _ _ _ _ H locs ls hw hP hS (lv_sub hl [2, 3, 4, 5, 1, 0] rfl)
      · intro J65 hJ65 hw
        refine lv_icmp_eq (tgt := 64) hx hb dX12_stolen_54 (by decide) (fun hc => ?_) (fun hc => ?_)
        · have hw := hw.1 hc
          refine lv_iconst (v := (0 : Int32)) hx hb dX12_stolen_64 (by decide) ?_
          exact hJ65 _ H locs ls hw hP hS (lv_sub hl [0, 1, 2, 3, 5] rfl)
        · have hw := hw.2 hc
          refine lv_iconst (v := (1 : Int32)) hx hb dX12_stolen_57 (by decide) ?_
          refine lv_iload hx hb dX12_stolen_58 (lv_at hl 5 rfl) ?_
          refine lv_ishl hx hb dX12_stolen_60 ?_
          refine lv_goto (tgt := 65) hx hb dX12_stolen_61 (by decide) ?_
          exact hJ65 _ H locs ls hw hP hS (lv_sub hl [0, 1, 2, 3, 5] rfl)
  · have hw := hw.2 hc
    refine lv_bipush (v := (-2 : Int32)) hx hb dX12_stolen_8 (by decide) ?_
    exact hret _ _ H locs _ _ ⟨_, _, _, _, _, rfl, hw⟩ hP hS dX12_stolen_10

def wp_X12_sumOf (zdogs : Int32) (zhalves : Nat → Int32) (a1 : Int32) (post : Int32 → Prop) : Prop :=
  lo (fun _ _ => False) (fun (G4 : Int32 → Int32 → Prop) (x2_1 : Int32) (x3_2 : Int32) => ((zdogs ≤ x3_2 → post x2_1 ) ∧ (¬ zdogs ≤ x3_2 → wp_X12_has a1 x3_2 (fun (r_3 : Int32) => jn (fun (t_4 : Int32) => G4 (x2_1 + t_4) (x3_2 + (1 : Int32))) (fun (J31 : Int32 → Prop) => ((r_3 = 0 → J31 (0 : Int32)) ∧ (¬ r_3 = 0 → (vp_in x3_2 7 ∧ J31 (zhalves (x3_2).toNatClampNeg))))))))) (fun G4 => G4 (0 : Int32) (0 : Int32))
set_option maxHeartbeats 4000000 in
set_option maxRecDepth 100000 in
theorem c_X12_sumOf (l : Launch) (D : va_G) (ci cz : ClassId) (tr : List (ClassId × FieldType)) (q0 q1 : Nat) (sz : Nat) (u0 u1 u2 u3 u4 u5 u6 u7 u8 u9 u10 u11 u12 u13 u14 u15 u16 u17 u18 u19 u20 : Value) (zdogs : Int32) (zhalves : Nat → Int32) (a1 : Int32) (post : Int32 → Prop) (hw : wp_X12_sumOf zdogs zhalves a1 post) : gM l yX12_sumOf cX12_sumOf 4 (some .int) 1 21 D ci cz tr [(q0, .inr (11, [.int zdogs, .ref q1, u0, u1, u2, u3, u4, u5, u6, u7, u8, u9, u10, u11, u12, u13, u14, u15, u16, u17, u18, u19, u20])), (q1, .inl (ci, 7, .inl zhalves))] sz [.ref q0, .int a1] (gQi D [(q0, .inr (11, [.int zdogs, .ref q1, u0, u1, u2, u3, u4, u5, u6, u7, u8, u9, u10, u11, u12, u13, u14, u15, u16, u17, u18, u19, u20])), (q1, .inl (ci, 7, .inl zhalves))] sz (fun (r : Int32) w => w = [(q0, .inr (11, [.int zdogs, .ref q1, u0, u1, u2, u3, u4, u5, u6, u7, u8, u9, u10, u11, u12, u13, u14, u15, u16, u17, u18, u19, u20])), (q1, .inl (ci, 7, .inl zhalves))] ∧ post r )) := by
  refine gmet_i RX12 (by decide +kernel) rfl (Nat.le_of_ble_eq_true rfl) ?_
  intro p e s m args below meth c A R Q C hfr hlc hP hD hret ls hl
  obtain ⟨hx, hb, hml, hown, ht, hK, hZ, hA⟩ := C
  have hl : lv_has ls 4 [(0, .ref q0), (1, .int a1)] := hl
  unfold wp_X12_sumOf at hw
  refine g_in (fun H locs => W p l e R s m args below meth c H locs 0 0 Q (F0 m 0 ls [])) (fun H locs hS0 hP => ?_) hP (va_S.rf (A := A) (H0 := s.heap))
  have hS : va_S A s.heap H locs := hS0
  clear hS0
  refine lv_iconst (v := (0 : Int32)) hx hb dX12_sumOf_0 (by decide) ?_
  refine lv_istore_n (lv' := [(2, .int (0 : Int32)), (0, .ref q0), (1, .int a1)]) hx hb dX12_sumOf_1 rfl hl (by decide) rfl (fun ls hl => ?_)
  refine lv_iconst (v := (0 : Int32)) hx hb dX12_sumOf_2 (by decide) ?_
  refine lv_istore_n (lv' := [(3, .int (0 : Int32)), (2, .int (0 : Int32)), (0, .ref q0), (1, .int a1)]) hx hb dX12_sumOf_3 rfl hl (by decide) rfl (fun ls hl => ?_)
  refine lo_walk hw (fun G4 => ∀ (x2_1 : Int32) (x3_2 : Int32) (H : Heap) (locs : List Loc) (ls : Array Slot), G4 x2_1 x3_2 → va_P D vwCl [(q0, .inr (11, [.int zdogs, .ref q1, u0, u1, u2, u3, u4, u5, u6, u7, u8, u9, u10, u11, u12, u13, u14, u15, u16, u17, u18, u19, u20])), (q1, .inl (ci, 7, .inl zhalves))] H → va_S A s.heap H locs → lv_has ls 4 [(0, .ref q0), (1, .int a1), (2, .int x2_1), (3, .int x3_2)] → W p l e R s m args below meth c H locs 0 0 Q (F0 m 4 ls [])) (fun _ _ _ _ _ hw _ _ _ => False.elim hw) (fun G4 hG4 x2_1 x3_2 H locs ls hw hP hS hl => ?_) (fun G4 hG4 hw => hG4 _ _ H locs ls hw hP hS (lv_sub hl [2, 3, 1, 0] rfl))
  have hD : va_D A [(q0, .inr (11, [.int zdogs, .ref q1, u0, u1, u2, u3, u4, u5, u6, u7, u8, u9, u10, u11, u12, u13, u14, u15, u16, u17, u18, u19, u20])), (q1, .inl (ci, 7, .inl zhalves))] := gD_re hD rfl
  refine lv_iload_n hx hb dX12_sumOf_4 rfl (lv_at hl 3 rfl) ?_
  refine lv_aload_n hx hb dX12_sumOf_5 rfl (lv_at hl 0 rfl) ?_
  refine va_get (D := D) (ci := 11) (v := .int zdogs) (C := RX12) (T := TX12) (N := 23) hx hb ht in_X12 hown hK.1 hP 0 rfl rfl 0 (by decide) (ht _ mF_X12_63) (fun _ h9 => h9) rfl dX12_sumOf_6 ?_
  refine lv_icmp_ge (tgt := 39) hx hb dX12_sumOf_9 (by decide) (fun hc => ?_) (fun hc => ?_)
  · have hw := hw.1 hc
    refine lv_iload_n hx hb dX12_sumOf_39 rfl (lv_at hl 2 rfl) ?_
    exact hret _ _ H locs _ _ ⟨rfl, hw⟩ hP hS dX12_sumOf_40
  · have hw := hw.2 hc
    refine lv_iload_n hx hb dX12_sumOf_12 rfl (lv_at hl 2 rfl) ?_
    refine lv_iload_n hx hb dX12_sumOf_13 rfl (lv_at hl 1 rfl) ?_
    refine lv_iload_n hx hb dX12_sumOf_14 rfl (lv_at hl 3 rfl) ?_
    refine gcalli (va_runS (As := [.int a1, .int x3_2]) (rest := [.int x2_1]) ⟨hx, hb, hml, hown, ht⟩ (c_X12_has l D ci cz tr  H.size a1 x3_2 _ hw) (va_cwS 2 ht (gi_S mM_X12_84 mT_X12_has mN_X12 mC_X12_has) rfl rfl rfl (by decide +kernel) ⟨Nat.le_trans (Nat.le_of_ble_eq_true rfl) hfr, Nat.le_trans (Nat.le_of_ble_eq_true rfl) hlc⟩) (gpre (wc := []) hK hZ hP hD hS hA [] rfl rfl) rfl rfl hl.1 rfl (lv_room (Nat.le_of_ble_eq_true rfl)) dX12_sumOf_15 ⟨Nat.zero_le _, Nat.zero_le _⟩) hD hS hA [] rfl (fun r_3 w9 H locs hw hP9 hk9 hS => ?_)
    obtain ⟨rfl, hw⟩ := hw
    have hP : va_P D vwCl [(q0, .inr (11, [.int zdogs, .ref q1, u0, u1, u2, u3, u4, u5, u6, u7, u8, u9, u10, u11, u12, u13, u14, u15, u16, u17, u18, u19, u20])), (q1, .inl (ci, 7, .inl zhalves))] H := gjoin3 hP hD [] hP9 hk9 rfl rfl [none, none] rfl rfl
    clear hP9 hk9
    refine jn_walk hw (fun J31 => ∀ (t_4 : Int32) (H : Heap) (locs : List Loc) (ls : Array Slot), J31 t_4 → va_P D vwCl [(q0, .inr (11, [.int zdogs, .ref q1, u0, u1, u2, u3, u4, u5, u6, u7, u8, u9, u10, u11, u12, u13, u14, u15, u16, u17, u18, u19, u20])), (q1, .inl (ci, 7, .inl zhalves))] H → va_S A s.heap H locs → lv_has ls 4 [(0, .ref q0), (1, .int a1), (3, .int x3_2)] → W p l e R s m args below meth c H locs 0 0 Q (F0 m 31 ls [.int t_4, .int x2_1])) ?_ ?_
    · intro t_4 H locs ls hw hP hS hl
      have hD : va_D A [(q0, .inr (11, [.int zdogs, .ref q1, u0, u1, u2, u3, u4, u5, u6, u7, u8, u9, u10, u11, u12, u13, u14, u15, u16, u17, u18, u19, u20])), (q1, .inl (ci, 7, .inl zhalves))] := gD_re hD rfl
      refine lv_iadd hx hb dX12_sumOf_31 ?_
      refine lv_istore_n (lv' := [(2, .int (x2_1 + t_4)), (0, .ref q0), (1, .int a1), (3, .int x3_2)]) hx hb dX12_sumOf_32 rfl hl (by decide) rfl (fun ls hl => ?_)
      refine lv_iinc (v := (x3_2 + (1 : Int32))) (lv' := [(3, .int (x3_2 + (1 : Int32))), (2, .int (x2_1 + t_4)), (0, .ref q0), (1, .int a1)]) hx hb dX12_sumOf_33 hl (k := 3) rfl rfl (by decide) rfl (fun ls hl => ?_)
      refine lv_goto (tgt := 4) hx hb dX12_sumOf_36 (by decide) ?_
      exact hG4 _ _ H locs ls hw hP hS (lv_sub hl [2, 3, 1, 0] rfl)
    · intro J31 hJ31 hw
      refine lv_if_eq (tgt := 30) hx hb dX12_sumOf_18 (by decide) (fun hc => ?_) (fun hc => ?_)
      · have hw := hw.1 hc
        refine lv_iconst (v := (0 : Int32)) hx hb dX12_sumOf_30 (by decide) ?_
        exact hJ31 _ H locs ls hw hP hS (lv_sub hl [0, 1, 3] rfl)
      · have hw := hw.2 hc
        refine lv_aload_n hx hb dX12_sumOf_21 rfl (lv_at hl 0 rfl) ?_
        refine va_get (D := D) (ci := 11) (v := .ref q1) (C := RX12) (T := TX12) (N := 23) hx hb ht in_X12 hown hK.1 hP 0 rfl rfl 1 (by decide) (ht _ mF_X12_7) (fun _ h9 => h9) rfl dX12_sumOf_22 ?_
        refine lv_iload_n hx hb dX12_sumOf_25 rfl (lv_at hl 3 rfl) ?_
        obtain ⟨hin, hw⟩ := hw
        refine va_iald (D := D) hx hb hK.1 hP 1 0 rfl rfl hin dX12_sumOf_26 ?_
        refine lv_goto (tgt := 31) hx hb dX12_sumOf_27 (by decide) ?_
        exact hJ31 _ H locs ls hw hP hS (lv_sub hl [0, 1, 3] rfl)

def wp_X12_swings (zdogs : Int32) (zhalves : Nat → Int32) (a1 : Int32) (post : Int32 → Prop) : Prop :=
  wp_X12_isDog zdogs a1 (fun (r_1 : Int32) => ((¬ r_1 = 0 → lo (fun _ _ => False) (fun (G14 : Int32 → Int32 → Prop) (x2_2 : Int32) (x3_3 : Int32) => ((((1 : Int32) <<< (zdogs &&& 31)) ≤ x3_3 → post x2_2 ) ∧ (¬ ((1 : Int32) <<< (zdogs &&& 31)) ≤ x3_3 → wp_X12_has x3_3 a1 (fun (r_4 : Int32) => ((¬ r_4 = 0 → G14 x2_2 (x3_3 + (1 : Int32))) ∧ (r_4 = 0 → wp_X12_dead zdogs zhalves (fun (r_5 : Int32) => ((¬ (x3_3 &&& r_5) = 0 → G14 x2_2 (x3_3 + (1 : Int32))) ∧ ((x3_3 &&& r_5) = 0 → wp_X12_sumOf zdogs zhalves (x3_3 ||| ((1 : Int32) <<< (a1 &&& 31))) (fun (r_6 : Int32) => wp_X12_allHalves zdogs zhalves (fun (r_7 : Int32) => jn (fun (t_8 : Int32) => jn (fun (t_9 : Int32) => G14 (x2_2 + t_9) (x3_3 + (1 : Int32))) (fun (J91 : Int32 → Prop) => jn ( J91 (0 : Int32)) (fun (J90 : Prop) => ((t_8 = 0 → J90) ∧ (¬ t_8 = 0 → wp_X12_sumOf zdogs zhalves x3_3 (fun (r_10 : Int32) => wp_X12_allHalves zdogs zhalves (fun (r_11 : Int32) => ((r_11 < ((2 : Int32) * r_10) → J90) ∧ (¬ r_11 < ((2 : Int32) * r_10) → J91 (1 : Int32)))))))))) (fun (J64 : Int32 → Prop) => ((((2 : Int32) * r_6) ≤ r_7 → J64 (0 : Int32)) ∧ (¬ ((2 : Int32) * r_6) ≤ r_7 → J64 (1 : Int32))))))))))))))) (fun G14 => G14 (0 : Int32) (0 : Int32))) ∧ (r_1 = 0 → post (-1 : Int32) )))
set_option maxHeartbeats 4000000 in
set_option maxRecDepth 100000 in
theorem c_X12_swings (l : Launch) (D : va_G) (ci cz : ClassId) (tr : List (ClassId × FieldType)) (q0 q1 : Nat) (sz : Nat) (u0 u1 u2 u3 u4 u5 u6 u7 u8 u9 u10 u11 u12 u13 u14 u15 u16 u17 u18 u19 u20 : Value) (zdogs : Int32) (zhalves : Nat → Int32) (a1 : Int32) (post : Int32 → Prop) (hw : wp_X12_swings zdogs zhalves a1 post) : gM l yX12_swings cX12_swings 5 (some .int) 2 44 D ci cz tr [(q0, .inr (11, [.int zdogs, .ref q1, u0, u1, u2, u3, u4, u5, u6, u7, u8, u9, u10, u11, u12, u13, u14, u15, u16, u17, u18, u19, u20])), (q1, .inl (ci, 7, .inl zhalves))] sz [.ref q0, .int a1] (gQi D [(q0, .inr (11, [.int zdogs, .ref q1, u0, u1, u2, u3, u4, u5, u6, u7, u8, u9, u10, u11, u12, u13, u14, u15, u16, u17, u18, u19, u20])), (q1, .inl (ci, 7, .inl zhalves))] sz (fun (r : Int32) w => w = [(q0, .inr (11, [.int zdogs, .ref q1, u0, u1, u2, u3, u4, u5, u6, u7, u8, u9, u10, u11, u12, u13, u14, u15, u16, u17, u18, u19, u20])), (q1, .inl (ci, 7, .inl zhalves))] ∧ post r )) := by
  refine gmet_i RX12 (by decide +kernel) rfl (Nat.le_of_ble_eq_true rfl) ?_
  intro p e s m args below meth c A R Q C hfr hlc hP hD hret ls hl
  obtain ⟨hx, hb, hml, hown, ht, hK, hZ, hA⟩ := C
  have hl : lv_has ls 5 [(0, .ref q0), (1, .int a1)] := hl
  unfold wp_X12_swings at hw
  refine g_in (fun H locs => W p l e R s m args below meth c H locs 0 0 Q (F0 m 0 ls [])) (fun H locs hS0 hP => ?_) hP (va_S.rf (A := A) (H0 := s.heap))
  have hS : va_S A s.heap H locs := hS0
  clear hS0
  refine lv_aload_n hx hb dX12_swings_0 rfl (lv_at hl 0 rfl) ?_
  refine lv_iload_n hx hb dX12_swings_1 rfl (lv_at hl 1 rfl) ?_
  refine gcalli (va_runV (As := [.int a1]) (rest := []) ⟨hx, hb, hml, hown, ht⟩ (c_X12_isDog l D ci cz tr q0 H.size (.ref q1) u0 u1 u2 u3 u4 u5 u6 u7 u8 u9 u10 u11 u12 u13 u14 u15 u16 u17 u18 u19 u20 zdogs a1 _ hw) (cwV 1 ht (gi_V mM_X12_80 mI_X12_isDog mS_X12_isDog mN_X12 mC_X12_isDog) rfl rfl rfl (by decide +kernel) ⟨Nat.le_trans (Nat.le_of_ble_eq_true rfl) hfr, Nat.le_trans (Nat.le_of_ble_eq_true rfl) hlc⟩) (gpreV (wc := [(q0, .inr (11, [.int zdogs, .ref q1, u0, u1, u2, u3, u4, u5, u6, u7, u8, u9, u10, u11, u12, u13, u14, u15, u16, u17, u18, u19, u20]))]) (k := 11) (q0 := 0) hK hZ hP hD hS hA [0] rfl rfl rfl rfl rfl) rfl rfl hl.1 rfl (lv_room (Nat.le_of_ble_eq_true rfl)) dX12_swings_2 ⟨Nat.zero_le _, Nat.zero_le _⟩) hD hS hA [0] rfl (fun r_1 w9 H locs hw hP9 hk9 hS => ?_)
  obtain ⟨rfl, hw⟩ := hw
  have hP : va_P D vwCl [(q0, .inr (11, [.int zdogs, .ref q1, u0, u1, u2, u3, u4, u5, u6, u7, u8, u9, u10, u11, u12, u13, u14, u15, u16, u17, u18, u19, u20])), (q1, .inl (ci, 7, .inl zhalves))] H := gjoin3 hP hD [0] hP9 hk9 rfl rfl [some 0, none] rfl rfl
  clear hP9 hk9
  refine lv_if_ne (tgt := 10) hx hb dX12_swings_5 (by decide) (fun hc => ?_) (fun hc => ?_)
  · have hw := hw.1 hc
    refine lv_iconst (v := (0 : Int32)) hx hb dX12_swings_10 (by decide) ?_
    refine lv_istore_n (lv' := [(2, .int (0 : Int32)), (0, .ref q0), (1, .int a1)]) hx hb dX12_swings_11 rfl hl (by decide) rfl (fun ls hl => ?_)
    refine lv_iconst (v := (0 : Int32)) hx hb dX12_swings_12 (by decide) ?_
    refine lv_istore_n (lv' := [(3, .int (0 : Int32)), (2, .int (0 : Int32)), (0, .ref q0), (1, .int a1)]) hx hb dX12_swings_13 rfl hl (by decide) rfl (fun ls hl => ?_)
    refine lo_walk hw (fun G14 => ∀ (x2_2 : Int32) (x3_3 : Int32) (H : Heap) (locs : List Loc) (ls : Array Slot), G14 x2_2 x3_3 → va_P D vwCl [(q0, .inr (11, [.int zdogs, .ref q1, u0, u1, u2, u3, u4, u5, u6, u7, u8, u9, u10, u11, u12, u13, u14, u15, u16, u17, u18, u19, u20])), (q1, .inl (ci, 7, .inl zhalves))] H → va_S A s.heap H locs → lv_has ls 5 [(0, .ref q0), (1, .int a1), (2, .int x2_2), (3, .int x3_3)] → W p l e R s m args below meth c H locs 0 0 Q (F0 m 14 ls [])) (fun _ _ _ _ _ hw _ _ _ => False.elim hw) (fun G14 hG14 x2_2 x3_3 H locs ls hw hP hS hl => ?_) (fun G14 hG14 hw => hG14 _ _ H locs ls hw hP hS (lv_sub hl [2, 3, 1, 0] rfl))
    have hD : va_D A [(q0, .inr (11, [.int zdogs, .ref q1, u0, u1, u2, u3, u4, u5, u6, u7, u8, u9, u10, u11, u12, u13, u14, u15, u16, u17, u18, u19, u20])), (q1, .inl (ci, 7, .inl zhalves))] := gD_re hD rfl
    refine lv_iload_n hx hb dX12_swings_14 rfl (lv_at hl 3 rfl) ?_
    refine lv_iconst (v := (1 : Int32)) hx hb dX12_swings_15 (by decide) ?_
    refine lv_aload_n hx hb dX12_swings_16 rfl (lv_at hl 0 rfl) ?_
    refine va_get (D := D) (ci := 11) (v := .int zdogs) (C := RX12) (T := TX12) (N := 23) hx hb ht in_X12 hown hK.1 hP 0 rfl rfl 0 (by decide) (ht _ mF_X12_63) (fun _ h9 => h9) rfl dX12_swings_17 ?_
    refine lv_ishl hx hb dX12_swings_20 ?_
    refine lv_icmp_ge (tgt := 99) hx hb dX12_swings_21 (by decide) (fun hc => ?_) (fun hc => ?_)
    · have hw := hw.1 hc
      refine lv_iload_n hx hb dX12_swings_99 rfl (lv_at hl 2 rfl) ?_
      exact hret _ _ H locs _ _ ⟨rfl, hw⟩ hP hS dX12_swings_100
    · have hw := hw.2 hc
      refine lv_iload_n hx hb dX12_swings_24 rfl (lv_at hl 3 rfl) ?_
      refine lv_iload_n hx hb dX12_swings_25 rfl (lv_at hl 1 rfl) ?_
      refine gcalli (va_runS (As := [.int x3_3, .int a1]) (rest := []) ⟨hx, hb, hml, hown, ht⟩ (c_X12_has l D ci cz tr  H.size x3_3 a1 _ hw) (va_cwS 2 ht (gi_S mM_X12_84 mT_X12_has mN_X12 mC_X12_has) rfl rfl rfl (by decide +kernel) ⟨Nat.le_trans (Nat.le_of_ble_eq_true rfl) hfr, Nat.le_trans (Nat.le_of_ble_eq_true rfl) hlc⟩) (gpre (wc := []) hK hZ hP hD hS hA [] rfl rfl) rfl rfl hl.1 rfl (lv_room (Nat.le_of_ble_eq_true rfl)) dX12_swings_26 ⟨Nat.zero_le _, Nat.zero_le _⟩) hD hS hA [] rfl (fun r_4 w9 H locs hw hP9 hk9 hS => ?_)
      obtain ⟨rfl, hw⟩ := hw
      have hP : va_P D vwCl [(q0, .inr (11, [.int zdogs, .ref q1, u0, u1, u2, u3, u4, u5, u6, u7, u8, u9, u10, u11, u12, u13, u14, u15, u16, u17, u18, u19, u20])), (q1, .inl (ci, 7, .inl zhalves))] H := gjoin3 hP hD [] hP9 hk9 rfl rfl [none, none] rfl rfl
      clear hP9 hk9
      refine lv_if_ne (tgt := 93) hx hb dX12_swings_29 (by decide) (fun hc => ?_) (fun hc => ?_)
      · have hw := hw.1 hc
        refine lv_iinc (v := (x3_3 + (1 : Int32))) (lv' := [(3, .int (x3_3 + (1 : Int32))), (0, .ref q0), (1, .int a1), (2, .int x2_2)]) hx hb dX12_swings_93 hl (k := 3) rfl rfl (by decide) rfl (fun ls hl => ?_)
        refine lv_goto (tgt := 14) hx hb dX12_swings_96 (by decide) ?_
        exact hG14 _ _ H locs ls hw hP hS (lv_sub hl [1, 2, 3, 0] rfl)
      · have hw := hw.2 hc
        refine lv_iload_n hx hb dX12_swings_32 rfl (lv_at hl 3 rfl) ?_
        refine lv_aload_n hx hb dX12_swings_33 rfl (lv_at hl 0 rfl) ?_
        refine gcalli (va_runV (As := []) (rest := [.int x3_3]) ⟨hx, hb, hml, hown, ht⟩ (c_X12_dead l D ci cz tr q0 q1 H.size u0 u1 u2 u3 u4 u5 u6 u7 u8 u9 u10 u11 u12 u13 u14 u15 u16 u17 u18 u19 u20 zdogs zhalves _ hw) (cwV 0 ht (gi_V mM_X12_133 mI_X12_dead mS_X12_dead mN_X12 mC_X12_dead) rfl rfl rfl (by decide +kernel) ⟨Nat.le_trans (Nat.le_of_ble_eq_true rfl) hfr, Nat.le_trans (Nat.le_of_ble_eq_true rfl) hlc⟩) (gpreV (wc := [(q0, .inr (11, [.int zdogs, .ref q1, u0, u1, u2, u3, u4, u5, u6, u7, u8, u9, u10, u11, u12, u13, u14, u15, u16, u17, u18, u19, u20])), (q1, .inl (ci, 7, .inl zhalves))]) (k := 11) (q0 := 0) hK hZ hP hD hS hA [0, 1] rfl rfl rfl rfl rfl) rfl rfl hl.1 rfl (lv_room (Nat.le_of_ble_eq_true rfl)) dX12_swings_34 ⟨Nat.zero_le _, Nat.zero_le _⟩) hD hS hA [0, 1] rfl (fun r_5 w9 H locs hw hP9 hk9 hS => ?_)
        obtain ⟨rfl, hw⟩ := hw
        have hP : va_P D vwCl [(q0, .inr (11, [.int zdogs, .ref q1, u0, u1, u2, u3, u4, u5, u6, u7, u8, u9, u10, u11, u12, u13, u14, u15, u16, u17, u18, u19, u20])), (q1, .inl (ci, 7, .inl zhalves))] H := gjoin3 hP hD [0, 1] hP9 hk9 rfl rfl [some 0, some 1] rfl rfl
        clear hP9 hk9
        refine lv_iand hx hb dX12_swings_37 ?_
        refine lv_if_ne (tgt := 93) hx hb dX12_swings_38 (by decide) (fun hc => ?_) (fun hc => ?_)
        · have hw := hw.1 hc
          refine lv_iinc (v := (x3_3 + (1 : Int32))) (lv' := [(3, .int (x3_3 + (1 : Int32))), (0, .ref q0), (1, .int a1), (2, .int x2_2)]) hx hb dX12_swings_93 hl (k := 3) rfl rfl (by decide) rfl (fun ls hl => ?_)
          refine lv_goto (tgt := 14) hx hb dX12_swings_96 (by decide) ?_
          exact hG14 _ _ H locs ls hw hP hS (lv_sub hl [1, 2, 3, 0] rfl)
        · have hw := hw.2 hc
          refine lv_iconst (v := (2 : Int32)) hx hb dX12_swings_41 (by decide) ?_
          refine lv_aload_n hx hb dX12_swings_42 rfl (lv_at hl 0 rfl) ?_
          refine lv_iload_n hx hb dX12_swings_43 rfl (lv_at hl 3 rfl) ?_
          refine lv_iconst (v := (1 : Int32)) hx hb dX12_swings_44 (by decide) ?_
          refine lv_iload_n hx hb dX12_swings_45 rfl (lv_at hl 1 rfl) ?_
          refine lv_ishl hx hb dX12_swings_46 ?_
          refine lv_ior hx hb dX12_swings_47 ?_
          refine gcalli (va_runV (As := [.int (x3_3 ||| ((1 : Int32) <<< (a1 &&& 31)))]) (rest := [.int (2 : Int32)]) ⟨hx, hb, hml, hown, ht⟩ (c_X12_sumOf l D ci cz tr q0 q1 H.size u0 u1 u2 u3 u4 u5 u6 u7 u8 u9 u10 u11 u12 u13 u14 u15 u16 u17 u18 u19 u20 zdogs zhalves (x3_3 ||| ((1 : Int32) <<< (a1 &&& 31))) _ hw) (cwV 1 ht (gi_V mM_X12_136 mI_X12_sumOf mS_X12_sumOf mN_X12 mC_X12_sumOf) rfl rfl rfl (by decide +kernel) ⟨Nat.le_trans (Nat.le_of_ble_eq_true rfl) hfr, Nat.le_trans (Nat.le_of_ble_eq_true rfl) hlc⟩) (gpreV (wc := [(q0, .inr (11, [.int zdogs, .ref q1, u0, u1, u2, u3, u4, u5, u6, u7, u8, u9, u10, u11, u12, u13, u14, u15, u16, u17, u18, u19, u20])), (q1, .inl (ci, 7, .inl zhalves))]) (k := 11) (q0 := 0) hK hZ hP hD hS hA [0, 1] rfl rfl rfl rfl rfl) rfl rfl hl.1 rfl (lv_room (Nat.le_of_ble_eq_true rfl)) dX12_swings_48 ⟨Nat.zero_le _, Nat.zero_le _⟩) hD hS hA [0, 1] rfl (fun r_6 w9 H locs hw hP9 hk9 hS => ?_)
          obtain ⟨rfl, hw⟩ := hw
          have hP : va_P D vwCl [(q0, .inr (11, [.int zdogs, .ref q1, u0, u1, u2, u3, u4, u5, u6, u7, u8, u9, u10, u11, u12, u13, u14, u15, u16, u17, u18, u19, u20])), (q1, .inl (ci, 7, .inl zhalves))] H := gjoin3 hP hD [0, 1] hP9 hk9 rfl rfl [some 0, some 1] rfl rfl
          clear hP9 hk9
          refine lv_imul hx hb dX12_swings_51 ?_
          refine lv_aload_n hx hb dX12_swings_52 rfl (lv_at hl 0 rfl) ?_
          refine gcalli (va_runV (As := []) (rest := [.int ((2 : Int32) * r_6)]) ⟨hx, hb, hml, hown, ht⟩ (c_X12_allHalves l D ci cz tr q0 q1 H.size u0 u1 u2 u3 u4 u5 u6 u7 u8 u9 u10 u11 u12 u13 u14 u15 u16 u17 u18 u19 u20 zdogs zhalves _ hw) (cwV 0 ht (gi_V mM_X12_140 mI_X12_allHalves mS_X12_allHalves mN_X12 mC_X12_allHalves) rfl rfl rfl (by decide +kernel) ⟨Nat.le_trans (Nat.le_of_ble_eq_true rfl) hfr, Nat.le_trans (Nat.le_of_ble_eq_true rfl) hlc⟩) (gpreV (wc := [(q0, .inr (11, [.int zdogs, .ref q1, u0, u1, u2, u3, u4, u5, u6, u7, u8, u9, u10, u11, u12, u13, u14, u15, u16, u17, u18, u19, u20])), (q1, .inl (ci, 7, .inl zhalves))]) (k := 11) (q0 := 0) hK hZ hP hD hS hA [0, 1] rfl rfl rfl rfl rfl) rfl rfl hl.1 rfl (lv_room (Nat.le_of_ble_eq_true rfl)) dX12_swings_53 ⟨Nat.zero_le _, Nat.zero_le _⟩) hD hS hA [0, 1] rfl (fun r_7 w9 H locs hw hP9 hk9 hS => ?_)
          obtain ⟨rfl, hw⟩ := hw
          have hP : va_P D vwCl [(q0, .inr (11, [.int zdogs, .ref q1, u0, u1, u2, u3, u4, u5, u6, u7, u8, u9, u10, u11, u12, u13, u14, u15, u16, u17, u18, u19, u20])), (q1, .inl (ci, 7, .inl zhalves))] H := gjoin3 hP hD [0, 1] hP9 hk9 rfl rfl [some 0, some 1] rfl rfl
          clear hP9 hk9
          refine jn_walk hw (fun J64 => ∀ (t_8 : Int32) (H : Heap) (locs : List Loc) (ls : Array Slot), J64 t_8 → va_P D vwCl [(q0, .inr (11, [.int zdogs, .ref q1, u0, u1, u2, u3, u4, u5, u6, u7, u8, u9, u10, u11, u12, u13, u14, u15, u16, u17, u18, u19, u20])), (q1, .inl (ci, 7, .inl zhalves))] H → va_S A s.heap H locs → lv_has ls 5 [(0, .ref q0), (1, .int a1), (2, .int x2_2), (3, .int x3_3)] → W p l e R s m args below meth c H locs 0 0 Q (F0 m 64 ls [.int t_8])) ?_ ?_
          · intro t_8 H locs ls hw hP hS hl
            have hD : va_D A [(q0, .inr (11, [.int zdogs, .ref q1, u0, u1, u2, u3, u4, u5, u6, u7, u8, u9, u10, u11, u12, u13, u14, u15, u16, u17, u18, u19, u20])), (q1, .inl (ci, 7, .inl zhalves))] := gD_re hD rfl
            refine lv_istore (lv' := [(4, .int t_8), (0, .ref q0), (1, .int a1), (2, .int x2_2), (3, .int x3_3)]) hx hb dX12_swings_64 hl (by decide) rfl (fun ls hl => ?_)
            refine lv_iload_n hx hb dX12_swings_66 rfl (lv_at hl 3 rfl) ?_
            refine lv_iload hx hb dX12_swings_67 (lv_at hl 0 rfl) ?_
            refine jn_walk hw (fun J91 => ∀ (t_9 : Int32) (H : Heap) (locs : List Loc) (ls : Array Slot), J91 t_9 → va_P D vwCl [(q0, .inr (11, [.int zdogs, .ref q1, u0, u1, u2, u3, u4, u5, u6, u7, u8, u9, u10, u11, u12, u13, u14, u15, u16, u17, u18, u19, u20])), (q1, .inl (ci, 7, .inl zhalves))] H → va_S A s.heap H locs → lv_has ls 5 [(0, .ref q0), (1, .int a1), (3, .int x3_3)] → W p l e R s m args below meth c H locs 0 0 Q (F0 m 91 ls [.int t_9, .int x2_2])) ?_ ?_
            · intro t_9 H locs ls hw hP hS hl
              have hD : va_D A [(q0, .inr (11, [.int zdogs, .ref q1, u0, u1, u2, u3, u4, u5, u6, u7, u8, u9, u10, u11, u12, u13, u14, u15, u16, u17, u18, u19, u20])), (q1, .inl (ci, 7, .inl zhalves))] := gD_re hD rfl
              refine lv_iadd hx hb dX12_swings_91 ?_
              refine lv_istore_n (lv' := [(2, .int (x2_2 + t_9)), (0, .ref q0), (1, .int a1), (3, .int x3_3)]) hx hb dX12_swings_92 rfl hl (by decide) rfl (fun ls hl => ?_)
              refine lv_iinc (v := (x3_3 + (1 : Int32))) (lv' := [(3, .int (x3_3 + (1 : Int32))), (2, .int (x2_2 + t_9)), (0, .ref q0), (1, .int a1)]) hx hb dX12_swings_93 hl (k := 3) rfl rfl (by decide) rfl (fun ls hl => ?_)
              refine lv_goto (tgt := 14) hx hb dX12_swings_96 (by decide) ?_
              exact hG14 _ _ H locs ls hw hP hS (lv_sub hl [2, 3, 1, 0] rfl)
            · intro J91 hJ91 hw
              refine jn_walk hw (fun J90 => ∀  (H : Heap) (locs : List Loc) (ls : Array Slot), J90 → va_P D vwCl [(q0, .inr (11, [.int zdogs, .ref q1, u0, u1, u2, u3, u4, u5, u6, u7, u8, u9, u10, u11, u12, u13, u14, u15, u16, u17, u18, u19, u20])), (q1, .inl (ci, 7, .inl zhalves))] H → va_S A s.heap H locs → lv_has ls 5 [(0, .ref q0), (1, .int a1), (3, .int x3_3)] → W p l e R s m args below meth c H locs 0 0 Q (F0 m 90 ls [.int x2_2])) ?_ ?_
              · intro  H locs ls hw hP hS hl
                have hD : va_D A [(q0, .inr (11, [.int zdogs, .ref q1, u0, u1, u2, u3, u4, u5, u6, u7, u8, u9, u10, u11, u12, u13, u14, u15, u16, u17, u18, u19, u20])), (q1, .inl (ci, 7, .inl zhalves))] := gD_re hD rfl
                refine lv_iconst (v := (0 : Int32)) hx hb dX12_swings_90 (by decide) ?_
                exact hJ91 _ H locs ls hw hP hS (lv_sub hl [0, 1, 2] rfl)
              · intro J90 hJ90 hw
                refine lv_if_eq (tgt := 90) hx hb dX12_swings_69 (by decide) (fun hc => ?_) (fun hc => ?_)
                · have hw := hw.1 hc
                  exact hJ90  H locs ls hw hP hS (lv_sub hl [1, 2, 4] rfl)
                · have hw := hw.2 hc
                  refine lv_iconst (v := (2 : Int32)) hx hb dX12_swings_72 (by decide) ?_
                  refine lv_aload_n hx hb dX12_swings_73 rfl (lv_at hl 1 rfl) ?_
                  refine lv_iload_n hx hb dX12_swings_74 rfl (lv_at hl 4 rfl) ?_
                  refine gcalli (va_runV (As := [.int x3_3]) (rest := [.int (2 : Int32), .int x2_2]) ⟨hx, hb, hml, hown, ht⟩ (c_X12_sumOf l D ci cz tr q0 q1 H.size u0 u1 u2 u3 u4 u5 u6 u7 u8 u9 u10 u11 u12 u13 u14 u15 u16 u17 u18 u19 u20 zdogs zhalves x3_3 _ hw) (cwV 1 ht (gi_V mM_X12_136 mI_X12_sumOf mS_X12_sumOf mN_X12 mC_X12_sumOf) rfl rfl rfl (by decide +kernel) ⟨Nat.le_trans (Nat.le_of_ble_eq_true rfl) hfr, Nat.le_trans (Nat.le_of_ble_eq_true rfl) hlc⟩) (gpreV (wc := [(q0, .inr (11, [.int zdogs, .ref q1, u0, u1, u2, u3, u4, u5, u6, u7, u8, u9, u10, u11, u12, u13, u14, u15, u16, u17, u18, u19, u20])), (q1, .inl (ci, 7, .inl zhalves))]) (k := 11) (q0 := 0) hK hZ hP hD hS hA [0, 1] rfl rfl rfl rfl rfl) rfl rfl hl.1 rfl (lv_room (Nat.le_of_ble_eq_true rfl)) dX12_swings_75 ⟨Nat.zero_le _, Nat.zero_le _⟩) hD hS hA [0, 1] rfl (fun r_10 w9 H locs hw hP9 hk9 hS => ?_)
                  obtain ⟨rfl, hw⟩ := hw
                  have hP : va_P D vwCl [(q0, .inr (11, [.int zdogs, .ref q1, u0, u1, u2, u3, u4, u5, u6, u7, u8, u9, u10, u11, u12, u13, u14, u15, u16, u17, u18, u19, u20])), (q1, .inl (ci, 7, .inl zhalves))] H := gjoin3 hP hD [0, 1] hP9 hk9 rfl rfl [some 0, some 1] rfl rfl
                  clear hP9 hk9
                  refine lv_imul hx hb dX12_swings_78 ?_
                  refine lv_aload_n hx hb dX12_swings_79 rfl (lv_at hl 1 rfl) ?_
                  refine gcalli (va_runV (As := []) (rest := [.int ((2 : Int32) * r_10), .int x2_2]) ⟨hx, hb, hml, hown, ht⟩ (c_X12_allHalves l D ci cz tr q0 q1 H.size u0 u1 u2 u3 u4 u5 u6 u7 u8 u9 u10 u11 u12 u13 u14 u15 u16 u17 u18 u19 u20 zdogs zhalves _ hw) (cwV 0 ht (gi_V mM_X12_140 mI_X12_allHalves mS_X12_allHalves mN_X12 mC_X12_allHalves) rfl rfl rfl (by decide +kernel) ⟨Nat.le_trans (Nat.le_of_ble_eq_true rfl) hfr, Nat.le_trans (Nat.le_of_ble_eq_true rfl) hlc⟩) (gpreV (wc := [(q0, .inr (11, [.int zdogs, .ref q1, u0, u1, u2, u3, u4, u5, u6, u7, u8, u9, u10, u11, u12, u13, u14, u15, u16, u17, u18, u19, u20])), (q1, .inl (ci, 7, .inl zhalves))]) (k := 11) (q0 := 0) hK hZ hP hD hS hA [0, 1] rfl rfl rfl rfl rfl) rfl rfl hl.1 rfl (lv_room (Nat.le_of_ble_eq_true rfl)) dX12_swings_80 ⟨Nat.zero_le _, Nat.zero_le _⟩) hD hS hA [0, 1] rfl (fun r_11 w9 H locs hw hP9 hk9 hS => ?_)
                  obtain ⟨rfl, hw⟩ := hw
                  have hP : va_P D vwCl [(q0, .inr (11, [.int zdogs, .ref q1, u0, u1, u2, u3, u4, u5, u6, u7, u8, u9, u10, u11, u12, u13, u14, u15, u16, u17, u18, u19, u20])), (q1, .inl (ci, 7, .inl zhalves))] H := gjoin3 hP hD [0, 1] hP9 hk9 rfl rfl [some 0, some 1] rfl rfl
                  clear hP9 hk9
                  refine lv_icmp_gt (tgt := 90) hx hb dX12_swings_83 (by decide) (fun hc => ?_) (fun hc => ?_)
                  · have hw := hw.1 hc
                    exact hJ90  H locs ls hw hP hS (lv_sub hl [1, 2, 4] rfl)
                  · have hw := hw.2 hc
                    refine lv_iconst (v := (1 : Int32)) hx hb dX12_swings_86 (by decide) ?_
                    refine lv_goto (tgt := 91) hx hb dX12_swings_87 (by decide) ?_
                    exact hJ91 _ H locs ls hw hP hS (lv_sub hl [1, 2, 4] rfl)
          · intro J64 hJ64 hw
            refine lv_icmp_le (tgt := 63) hx hb dX12_swings_56 (by decide) (fun hc => ?_) (fun hc => ?_)
            · have hw := hw.1 hc
              refine lv_iconst (v := (0 : Int32)) hx hb dX12_swings_63 (by decide) ?_
              exact hJ64 _ H locs ls hw hP hS (lv_sub hl [0, 1, 2, 3] rfl)
            · have hw := hw.2 hc
              refine lv_iconst (v := (1 : Int32)) hx hb dX12_swings_59 (by decide) ?_
              refine lv_goto (tgt := 64) hx hb dX12_swings_60 (by decide) ?_
              exact hJ64 _ H locs ls hw hP hS (lv_sub hl [0, 1, 2, 3] rfl)
  · have hw := hw.2 hc
    refine lv_iconst (v := (-1 : Int32)) hx hb dX12_swings_8 (by decide) ?_
    exact hret _ _ H locs _ _ ⟨rfl, hw⟩ hP hS dX12_swings_9

def wp_X12_told (zdogs : Int32) (zhungry : Int32) (zcounts : Int32) (zasked : Int32) (zsigns : Int32) (zisTold : Nat → Int32) (zheirs : Nat → Int32) (a1 : Int32) (post : Int32 → Prop) : Prop :=
  wp_X12_in a1 (10 : Int32) (16 : Int32) (fun (r_1 : Int32) => ((r_1 = 0 → ((a1 = 0 → post zsigns ) ∧ (¬ a1 = 0 → ((a1 = 1 → post zdogs ) ∧ (¬ a1 = 1 → ((a1 = 2 → post zhungry ) ∧ (¬ a1 = 2 → ((a1 = 3 → post zcounts ) ∧ (¬ a1 = 3 → ((a1 = 4 → post zasked ) ∧ (¬ a1 = 4 → ((¬ a1 = (5 : Int32) → post (-2 : Int32) ) ∧ (a1 = (5 : Int32) → wp_X12_opens zdogs zisTold (fun (r_2 : Int32) => post r_2 )))))))))))))) ∧ (¬ r_1 = 0 → wp_X12_isDog zdogs (a1 - (10 : Int32)) (fun (r_3 : Int32) => ((r_3 = 0 → post (-2 : Int32) ) ∧ (¬ r_3 = 0 → (vp_in (a1 - (10 : Int32)) 7 ∧ post (zheirs ((a1 - (10 : Int32))).toNatClampNeg) )))))))
set_option maxHeartbeats 4000000 in
set_option maxRecDepth 100000 in
theorem c_X12_told (l : Launch) (D : va_G) (ci cz : ClassId) (tr : List (ClassId × FieldType)) (q0 q1 q2 : Nat) (sz : Nat) (u0 u1 u2 u3 u4 u5 u6 u7 u8 u9 u10 u11 u12 u13 u14 u15 : Value) (zdogs : Int32) (zhungry : Int32) (zcounts : Int32) (zasked : Int32) (zsigns : Int32) (zisTold : Nat → Int32) (zheirs : Nat → Int32) (a1 : Int32) (post : Int32 → Prop) (hw : wp_X12_told zdogs zhungry zcounts zasked zsigns zisTold zheirs a1 post) : gM l yX12_told cX12_told 2 (some .int) 2 43 D ci cz tr [(q0, .inr (11, [.int zdogs, u0, u1, .ref q1, u2, .ref q2, .int zhungry, .int zcounts, u3, .int zasked, u4, .int zsigns, u5, u6, u7, u8, u9, u10, u11, u12, u13, u14, u15])), (q1, .inl (cz, 7, .inl zisTold)), (q2, .inl (ci, 7, .inl zheirs))] sz [.ref q0, .int a1] (gQi D [(q0, .inr (11, [.int zdogs, u0, u1, .ref q1, u2, .ref q2, .int zhungry, .int zcounts, u3, .int zasked, u4, .int zsigns, u5, u6, u7, u8, u9, u10, u11, u12, u13, u14, u15])), (q1, .inl (cz, 7, .inl zisTold)), (q2, .inl (ci, 7, .inl zheirs))] sz (fun (r : Int32) w => w = [(q0, .inr (11, [.int zdogs, u0, u1, .ref q1, u2, .ref q2, .int zhungry, .int zcounts, u3, .int zasked, u4, .int zsigns, u5, u6, u7, u8, u9, u10, u11, u12, u13, u14, u15])), (q1, .inl (cz, 7, .inl zisTold)), (q2, .inl (ci, 7, .inl zheirs))] ∧ post r )) := by
  refine gmet_i RX12 (by decide +kernel) rfl (Nat.le_of_ble_eq_true rfl) ?_
  intro p e s m args below meth c A R Q C hfr hlc hP hD hret ls hl
  obtain ⟨hx, hb, hml, hown, ht, hK, hZ, hA⟩ := C
  have hl : lv_has ls 2 [(0, .ref q0), (1, .int a1)] := hl
  unfold wp_X12_told at hw
  refine g_in (fun H locs => W p l e R s m args below meth c H locs 0 0 Q (F0 m 0 ls [])) (fun H locs hS0 hP => ?_) hP (va_S.rf (A := A) (H0 := s.heap))
  have hS : va_S A s.heap H locs := hS0
  clear hS0
  refine lv_iload_n hx hb dX12_told_0 rfl (lv_at hl 1 rfl) ?_
  refine lv_bipush (v := (10 : Int32)) hx hb dX12_told_1 (by decide) ?_
  refine lv_bipush (v := (16 : Int32)) hx hb dX12_told_3 (by decide) ?_
  refine gcalli (va_runS (As := [.int a1, .int (10 : Int32), .int (16 : Int32)]) (rest := []) ⟨hx, hb, hml, hown, ht⟩ (c_X12_in l D ci cz tr  H.size a1 (10 : Int32) (16 : Int32) _ hw) (va_cwS 3 ht (gi_S mM_X12_66 mT_X12_in mN_X12 mC_X12_in) rfl rfl rfl (by decide +kernel) ⟨Nat.le_trans (Nat.le_of_ble_eq_true rfl) hfr, Nat.le_trans (Nat.le_of_ble_eq_true rfl) hlc⟩) (gpre (wc := []) hK hZ hP hD hS hA [] rfl rfl) rfl rfl hl.1 rfl (lv_room (Nat.le_of_ble_eq_true rfl)) dX12_told_5 ⟨Nat.zero_le _, Nat.zero_le _⟩) hD hS hA [] rfl (fun r_1 w9 H locs hw hP9 hk9 hS => ?_)
  obtain ⟨rfl, hw⟩ := hw
  have hP : va_P D vwCl [(q0, .inr (11, [.int zdogs, u0, u1, .ref q1, u2, .ref q2, .int zhungry, .int zcounts, u3, .int zasked, u4, .int zsigns, u5, u6, u7, u8, u9, u10, u11, u12, u13, u14, u15])), (q1, .inl (cz, 7, .inl zisTold)), (q2, .inl (ci, 7, .inl zheirs))] H := gjoin3 hP hD [] hP9 hk9 rfl rfl [none, none, none] rfl rfl
  clear hP9 hk9
  refine lv_if_eq (tgt := 37) hx hb dX12_told_8 (by decide) (fun hc => ?_) (fun hc => ?_)
  · have hw := hw.1 hc
    refine lv_iload_n hx hb dX12_told_37 rfl (lv_at hl 1 rfl) ?_
    by_cases hk0 : a1 = (0 : Int32)
    · have hw := hw.1 hk0
      refine lv_tableIn (tgt := 72) hx hb dX12_told_38 (by rw [hk0]; decide) (by rw [hk0]; decide) (by rw [hk0]; rfl) (by decide) ?_
      refine lv_aload_n hx hb dX12_told_72 rfl (lv_at hl 0 rfl) ?_
      refine va_get (D := D) (ci := 11) (v := .int zsigns) (C := RX12) (T := TX12) (N := 23) hx hb ht in_X12 hown hK.1 hP 0 rfl rfl 11 (by decide) (ht _ mF_X12_70) (fun _ h9 => h9) rfl dX12_told_73 ?_
      exact hret _ _ H locs _ _ ⟨rfl, hw⟩ hP hS dX12_told_76
    have hw := hw.2 hk0
    by_cases hk1 : a1 = (1 : Int32)
    · have hw := hw.1 hk1
      refine lv_tableIn (tgt := 77) hx hb dX12_told_38 (by rw [hk1]; decide) (by rw [hk1]; decide) (by rw [hk1]; rfl) (by decide) ?_
      refine lv_aload_n hx hb dX12_told_77 rfl (lv_at hl 0 rfl) ?_
      refine va_get (D := D) (ci := 11) (v := .int zdogs) (C := RX12) (T := TX12) (N := 23) hx hb ht in_X12 hown hK.1 hP 0 rfl rfl 0 (by decide) (ht _ mF_X12_63) (fun _ h9 => h9) rfl dX12_told_78 ?_
      exact hret _ _ H locs _ _ ⟨rfl, hw⟩ hP hS dX12_told_81
    have hw := hw.2 hk1
    by_cases hk2 : a1 = (2 : Int32)
    · have hw := hw.1 hk2
      refine lv_tableIn (tgt := 82) hx hb dX12_told_38 (by rw [hk2]; decide) (by rw [hk2]; decide) (by rw [hk2]; rfl) (by decide) ?_
      refine lv_aload_n hx hb dX12_told_82 rfl (lv_at hl 0 rfl) ?_
      refine va_get (D := D) (ci := 11) (v := .int zhungry) (C := RX12) (T := TX12) (N := 23) hx hb ht in_X12 hown hK.1 hP 0 rfl rfl 6 (by decide) (ht _ mF_X12_26) (fun _ h9 => h9) rfl dX12_told_83 ?_
      exact hret _ _ H locs _ _ ⟨rfl, hw⟩ hP hS dX12_told_86
    have hw := hw.2 hk2
    by_cases hk3 : a1 = (3 : Int32)
    · have hw := hw.1 hk3
      refine lv_tableIn (tgt := 87) hx hb dX12_told_38 (by rw [hk3]; decide) (by rw [hk3]; decide) (by rw [hk3]; rfl) (by decide) ?_
      refine lv_aload_n hx hb dX12_told_87 rfl (lv_at hl 0 rfl) ?_
      refine va_get (D := D) (ci := 11) (v := .int zcounts) (C := RX12) (T := TX12) (N := 23) hx hb ht in_X12 hown hK.1 hP 0 rfl rfl 7 (by decide) (ht _ mF_X12_77) (fun _ h9 => h9) rfl dX12_told_88 ?_
      exact hret _ _ H locs _ _ ⟨rfl, hw⟩ hP hS dX12_told_91
    have hw := hw.2 hk3
    by_cases hk4 : a1 = (4 : Int32)
    · have hw := hw.1 hk4
      refine lv_tableIn (tgt := 92) hx hb dX12_told_38 (by rw [hk4]; decide) (by rw [hk4]; decide) (by rw [hk4]; rfl) (by decide) ?_
      refine lv_aload_n hx hb dX12_told_92 rfl (lv_at hl 0 rfl) ?_
      refine va_get (D := D) (ci := 11) (v := .int zasked) (C := RX12) (T := TX12) (N := 23) hx hb ht in_X12 hown hK.1 hP 0 rfl rfl 9 (by decide) (ht _ mF_X12_165) (fun _ h9 => h9) rfl dX12_told_93 ?_
      exact hret _ _ H locs _ _ ⟨rfl, hw⟩ hP hS dX12_told_96
    have hw := hw.2 hk4
    have hout : (a1).toInt < 0 ∨ 4 < (a1).toInt := by
      have hn0 := lv_neT hk0 (by decide : (0 : Int32).toInt = 0)
      have hn1 := lv_neT hk1 (by decide : (1 : Int32).toInt = 1)
      have hn2 := lv_neT hk2 (by decide : (2 : Int32).toInt = 2)
      have hn3 := lv_neT hk3 (by decide : (3 : Int32).toInt = 3)
      have hn4 := lv_neT hk4 (by decide : (4 : Int32).toInt = 4)
      omega
    refine lv_tableOut (tgt := 97) hx hb dX12_told_38 hout (by decide) ?_
    refine lv_iload_n hx hb dX12_told_97 rfl (lv_at hl 1 rfl) ?_
    refine lv_iconst (v := (5 : Int32)) hx hb dX12_told_98 (by decide) ?_
    refine lv_icmp_ne (tgt := 109) hx hb dX12_told_99 (by decide) (fun hc => ?_) (fun hc => ?_)
    · have hw := hw.1 hc
      refine lv_bipush (v := (-2 : Int32)) hx hb dX12_told_109 (by decide) ?_
      exact hret _ _ H locs _ _ ⟨rfl, hw⟩ hP hS dX12_told_111
    · have hw := hw.2 hc
      refine lv_aload_n hx hb dX12_told_102 rfl (lv_at hl 0 rfl) ?_
      refine gcalli (va_runV (As := []) (rest := []) ⟨hx, hb, hml, hown, ht⟩ (c_X12_opens l D ci cz tr q0 q1 H.size u0 u1 u2 (.ref q2) (.int zhungry) (.int zcounts) u3 (.int zasked) u4 (.int zsigns) u5 u6 u7 u8 u9 u10 u11 u12 u13 u14 u15 zdogs zisTold _ hw) (cwV 0 ht (gi_V mM_X12_153 mI_X12_opens mS_X12_opens mN_X12 mC_X12_opens) rfl rfl rfl (by decide +kernel) ⟨Nat.le_trans (Nat.le_of_ble_eq_true rfl) hfr, Nat.le_trans (Nat.le_of_ble_eq_true rfl) hlc⟩) (gpreV (wc := [(q0, .inr (11, [.int zdogs, u0, u1, .ref q1, u2, .ref q2, .int zhungry, .int zcounts, u3, .int zasked, u4, .int zsigns, u5, u6, u7, u8, u9, u10, u11, u12, u13, u14, u15])), (q1, .inl (cz, 7, .inl zisTold))]) (k := 11) (q0 := 0) hK hZ hP hD hS hA [0, 1] rfl rfl rfl rfl rfl) rfl rfl hl.1 rfl (lv_room (Nat.le_of_ble_eq_true rfl)) dX12_told_103 ⟨Nat.zero_le _, Nat.zero_le _⟩) hD hS hA [0, 1] rfl (fun r_2 w9 H locs hw hP9 hk9 hS => ?_)
      obtain ⟨rfl, hw⟩ := hw
      have hP : va_P D vwCl [(q0, .inr (11, [.int zdogs, u0, u1, .ref q1, u2, .ref q2, .int zhungry, .int zcounts, u3, .int zasked, u4, .int zsigns, u5, u6, u7, u8, u9, u10, u11, u12, u13, u14, u15])), (q1, .inl (cz, 7, .inl zisTold)), (q2, .inl (ci, 7, .inl zheirs))] H := gjoin3 hP hD [0, 1] hP9 hk9 rfl rfl [some 0, some 1, none] rfl rfl
      clear hP9 hk9
      refine lv_goto (tgt := 111) hx hb dX12_told_106 (by decide) ?_
      exact hret _ _ H locs _ _ ⟨rfl, hw⟩ hP hS dX12_told_111
  · have hw := hw.2 hc
    refine lv_aload_n hx hb dX12_told_11 rfl (lv_at hl 0 rfl) ?_
    refine lv_iload_n hx hb dX12_told_12 rfl (lv_at hl 1 rfl) ?_
    refine lv_bipush (v := (10 : Int32)) hx hb dX12_told_13 (by decide) ?_
    refine lv_isub hx hb dX12_told_15 ?_
    refine gcalli (va_runV (As := [.int (a1 - (10 : Int32))]) (rest := []) ⟨hx, hb, hml, hown, ht⟩ (c_X12_isDog l D ci cz tr q0 H.size u0 u1 (.ref q1) u2 (.ref q2) (.int zhungry) (.int zcounts) u3 (.int zasked) u4 (.int zsigns) u5 u6 u7 u8 u9 u10 u11 u12 u13 u14 u15 zdogs (a1 - (10 : Int32)) _ hw) (cwV 1 ht (gi_V mM_X12_80 mI_X12_isDog mS_X12_isDog mN_X12 mC_X12_isDog) rfl rfl rfl (by decide +kernel) ⟨Nat.le_trans (Nat.le_of_ble_eq_true rfl) hfr, Nat.le_trans (Nat.le_of_ble_eq_true rfl) hlc⟩) (gpreV (wc := [(q0, .inr (11, [.int zdogs, u0, u1, .ref q1, u2, .ref q2, .int zhungry, .int zcounts, u3, .int zasked, u4, .int zsigns, u5, u6, u7, u8, u9, u10, u11, u12, u13, u14, u15]))]) (k := 11) (q0 := 0) hK hZ hP hD hS hA [0] rfl rfl rfl rfl rfl) rfl rfl hl.1 rfl (lv_room (Nat.le_of_ble_eq_true rfl)) dX12_told_16 ⟨Nat.zero_le _, Nat.zero_le _⟩) hD hS hA [0] rfl (fun r_3 w9 H locs hw hP9 hk9 hS => ?_)
    obtain ⟨rfl, hw⟩ := hw
    have hP : va_P D vwCl [(q0, .inr (11, [.int zdogs, u0, u1, .ref q1, u2, .ref q2, .int zhungry, .int zcounts, u3, .int zasked, u4, .int zsigns, u5, u6, u7, u8, u9, u10, u11, u12, u13, u14, u15])), (q1, .inl (cz, 7, .inl zisTold)), (q2, .inl (ci, 7, .inl zheirs))] H := gjoin3 hP hD [0] hP9 hk9 rfl rfl [some 0, none, none] rfl rfl
    clear hP9 hk9
    refine lv_if_eq (tgt := 34) hx hb dX12_told_19 (by decide) (fun hc => ?_) (fun hc => ?_)
    · have hw := hw.1 hc
      refine lv_bipush (v := (-2 : Int32)) hx hb dX12_told_34 (by decide) ?_
      exact hret _ _ H locs _ _ ⟨rfl, hw⟩ hP hS dX12_told_36
    · have hw := hw.2 hc
      refine lv_aload_n hx hb dX12_told_22 rfl (lv_at hl 0 rfl) ?_
      refine va_get (D := D) (ci := 11) (v := .ref q2) (C := RX12) (T := TX12) (N := 23) hx hb ht in_X12 hown hK.1 hP 0 rfl rfl 5 (by decide) (ht _ mF_X12_23) (fun _ h9 => h9) rfl dX12_told_23 ?_
      refine lv_iload_n hx hb dX12_told_26 rfl (lv_at hl 1 rfl) ?_
      refine lv_bipush (v := (10 : Int32)) hx hb dX12_told_27 (by decide) ?_
      refine lv_isub hx hb dX12_told_29 ?_
      obtain ⟨hin, hw⟩ := hw
      refine va_iald (D := D) hx hb hK.1 hP 2 0 rfl rfl hin dX12_told_30 ?_
      refine lv_goto (tgt := 36) hx hb dX12_told_31 (by decide) ?_
      exact hret _ _ H locs _ _ ⟨rfl, hw⟩ hP hS dX12_told_36

def wp_X12_turn (zdogs : Int32) (zhalves : Nat → Int32) (a1 : Int32) (a2 : Int32) (post : Int64 → Prop) : Prop :=
  wp_X12_isDog zdogs a1 (fun (r_1 : Int32) => ((¬ r_1 = 0 → wp_X12_in a2 (0 : Int32) (1 : Int32) (fun (r_2 : Int32) => ((¬ r_2 = 0 → wp_X12_dead zdogs zhalves (fun (r_3 : Int32) => wp_X12_bits r_3 (fun (r_4 : Int32) => jn (fun (x3_5 : Int32) => wp_X12_factorial (zdogs - r_4) (fun (r_6 : Int32) => jn (fun (x6_7 : Int32) => ((¬ a2 = 0 → (¬ x6_7 = 0 ∧ post (((r_6 / x6_7)).toInt64) )) ∧ (a2 = 0 → (¬ x6_7 = 0 ∧ post (((x3_5 / x6_7)).toInt64) )))) (fun (J192 : Int32 → Prop) => lo (fun _ _ => False) (fun (G169 : Int32 → Int32 → Prop) (x6_8 : Int32) (x7_9 : Int32) => ((x7_9 = 0 → J192 x6_8) ∧ (¬ x7_9 = 0 → (¬ x7_9 = 0 ∧ G169 x7_9 (x6_8 - x6_8 / x7_9 * x7_9))))) (fun G169 => G169 x3_5 r_6)))) (fun (J155 : Int32 → Prop) => lo (fun _ _ => False) (fun (G44 : Int32 → Int32 → Prop) (x3_10 : Int32) (x5_11 : Int32) => ((((1 : Int32) <<< (zdogs &&& 31)) ≤ x5_11 → J155 x3_10) ∧ (¬ ((1 : Int32) <<< (zdogs &&& 31)) ≤ x5_11 → wp_X12_has x5_11 a1 (fun (r_12 : Int32) => jn (fun (t_13 : Int32) => jn (fun (t_14 : Int32) => G44 (x3_10 + t_14) (x5_11 + (1 : Int32))) (fun (J147 : Int32 → Prop) => ((t_13 = 0 → J147 (0 : Int32)) ∧ (¬ t_13 = 0 → wp_X12_bits x5_11 (fun (r_15 : Int32) => wp_X12_factorial r_15 (fun (r_16 : Int32) => wp_X12_bits x5_11 (fun (r_17 : Int32) => wp_X12_factorial (((zdogs - r_4) - (1 : Int32)) - r_17) (fun (r_18 : Int32) => J147 (r_16 * r_18))))))))) (fun (J113 : Int32 → Prop) => jn ( J113 (0 : Int32)) (fun (J112 : Prop) => ((¬ r_12 = 0 → J112) ∧ (r_12 = 0 → wp_X12_dead zdogs zhalves (fun (r_19 : Int32) => ((¬ (x5_11 &&& r_19) = 0 → J112) ∧ ((x5_11 &&& r_19) = 0 → wp_X12_sumOf zdogs zhalves x5_11 (fun (r_20 : Int32) => wp_X12_allHalves zdogs zhalves (fun (r_21 : Int32) => ((r_21 < ((2 : Int32) * r_20) → J112) ∧ (¬ r_21 < ((2 : Int32) * r_20) → wp_X12_sumOf zdogs zhalves (x5_11 ||| ((1 : Int32) <<< (a1 &&& 31))) (fun (r_22 : Int32) => wp_X12_allHalves zdogs zhalves (fun (r_23 : Int32) => ((((2 : Int32) * r_22) ≤ r_23 → J112) ∧ (¬ ((2 : Int32) * r_22) ≤ r_23 → J113 (1 : Int32)))))))))))))))))))) (fun G44 => G44 (0 : Int32) (0 : Int32)))))) ∧ (r_2 = 0 → post (-1000000000000000002 : Int64) )))) ∧ (r_1 = 0 → post (-1000000000000000001 : Int64) )))
set_option maxHeartbeats 4000000 in
set_option maxRecDepth 100000 in
theorem c_X12_turn (l : Launch) (D : va_G) (ci cz : ClassId) (tr : List (ClassId × FieldType)) (q0 q1 : Nat) (sz : Nat) (u0 u1 u2 u3 u4 u5 u6 u7 u8 u9 u10 u11 u12 u13 u14 u15 u16 u17 u18 u19 u20 : Value) (zdogs : Int32) (zhalves : Nat → Int32) (a1 : Int32) (a2 : Int32) (post : Int64 → Prop) (hw : wp_X12_turn zdogs zhalves a1 a2 post) : gM l yX12_turn cX12_turn 9 (some .long) 2 44 D ci cz tr [(q0, .inr (11, [.int zdogs, .ref q1, u0, u1, u2, u3, u4, u5, u6, u7, u8, u9, u10, u11, u12, u13, u14, u15, u16, u17, u18, u19, u20])), (q1, .inl (ci, 7, .inl zhalves))] sz [.ref q0, .int a1, .int a2] (gQl D [(q0, .inr (11, [.int zdogs, .ref q1, u0, u1, u2, u3, u4, u5, u6, u7, u8, u9, u10, u11, u12, u13, u14, u15, u16, u17, u18, u19, u20])), (q1, .inl (ci, 7, .inl zhalves))] sz (fun (r : Int64) w => w = [(q0, .inr (11, [.int zdogs, .ref q1, u0, u1, u2, u3, u4, u5, u6, u7, u8, u9, u10, u11, u12, u13, u14, u15, u16, u17, u18, u19, u20])), (q1, .inl (ci, 7, .inl zhalves))] ∧ post r )) := by
  refine gmet_l RX12 (by decide +kernel) rfl (Nat.le_of_ble_eq_true rfl) ?_
  intro p e s m args below meth c A R Q C hfr hlc hP hD hret ls hl
  obtain ⟨hx, hb, hml, hown, ht, hK, hZ, hA⟩ := C
  have hl : lv_has ls 9 [(0, .ref q0), (1, .int a1), (2, .int a2)] := hl
  unfold wp_X12_turn at hw
  refine g_in (fun H locs => W p l e R s m args below meth c H locs 0 0 Q (F0 m 0 ls [])) (fun H locs hS0 hP => ?_) hP (va_S.rf (A := A) (H0 := s.heap))
  have hS : va_S A s.heap H locs := hS0
  clear hS0
  refine lv_aload_n hx hb dX12_turn_0 rfl (lv_at hl 0 rfl) ?_
  refine lv_iload_n hx hb dX12_turn_1 rfl (lv_at hl 1 rfl) ?_
  refine gcalli (va_runV (As := [.int a1]) (rest := []) ⟨hx, hb, hml, hown, ht⟩ (c_X12_isDog l D ci cz tr q0 H.size (.ref q1) u0 u1 u2 u3 u4 u5 u6 u7 u8 u9 u10 u11 u12 u13 u14 u15 u16 u17 u18 u19 u20 zdogs a1 _ hw) (cwV 1 ht (gi_V mM_X12_80 mI_X12_isDog mS_X12_isDog mN_X12 mC_X12_isDog) rfl rfl rfl (by decide +kernel) ⟨Nat.le_trans (Nat.le_of_ble_eq_true rfl) hfr, Nat.le_trans (Nat.le_of_ble_eq_true rfl) hlc⟩) (gpreV (wc := [(q0, .inr (11, [.int zdogs, .ref q1, u0, u1, u2, u3, u4, u5, u6, u7, u8, u9, u10, u11, u12, u13, u14, u15, u16, u17, u18, u19, u20]))]) (k := 11) (q0 := 0) hK hZ hP hD hS hA [0] rfl rfl rfl rfl rfl) rfl rfl hl.1 rfl (lv_room (Nat.le_of_ble_eq_true rfl)) dX12_turn_2 ⟨Nat.zero_le _, Nat.zero_le _⟩) hD hS hA [0] rfl (fun r_1 w9 H locs hw hP9 hk9 hS => ?_)
  obtain ⟨rfl, hw⟩ := hw
  have hP : va_P D vwCl [(q0, .inr (11, [.int zdogs, .ref q1, u0, u1, u2, u3, u4, u5, u6, u7, u8, u9, u10, u11, u12, u13, u14, u15, u16, u17, u18, u19, u20])), (q1, .inl (ci, 7, .inl zhalves))] H := gjoin3 hP hD [0] hP9 hk9 rfl rfl [some 0, none] rfl rfl
  clear hP9 hk9
  refine lv_if_ne (tgt := 12) hx hb dX12_turn_5 (by decide) (fun hc => ?_) (fun hc => ?_)
  · have hw := hw.1 hc
    refine lv_iload_n hx hb dX12_turn_12 rfl (lv_at hl 2 rfl) ?_
    refine lv_iconst (v := (0 : Int32)) hx hb dX12_turn_13 (by decide) ?_
    refine lv_iconst (v := (1 : Int32)) hx hb dX12_turn_14 (by decide) ?_
    refine gcalli (va_runS (As := [.int a2, .int (0 : Int32), .int (1 : Int32)]) (rest := []) ⟨hx, hb, hml, hown, ht⟩ (c_X12_in l D ci cz tr  H.size a2 (0 : Int32) (1 : Int32) _ hw) (va_cwS 3 ht (gi_S mM_X12_66 mT_X12_in mN_X12 mC_X12_in) rfl rfl rfl (by decide +kernel) ⟨Nat.le_trans (Nat.le_of_ble_eq_true rfl) hfr, Nat.le_trans (Nat.le_of_ble_eq_true rfl) hlc⟩) (gpre (wc := []) hK hZ hP hD hS hA [] rfl rfl) rfl rfl hl.1 rfl (lv_room (Nat.le_of_ble_eq_true rfl)) dX12_turn_15 ⟨Nat.zero_le _, Nat.zero_le _⟩) hD hS hA [] rfl (fun r_2 w9 H locs hw hP9 hk9 hS => ?_)
    obtain ⟨rfl, hw⟩ := hw
    have hP : va_P D vwCl [(q0, .inr (11, [.int zdogs, .ref q1, u0, u1, u2, u3, u4, u5, u6, u7, u8, u9, u10, u11, u12, u13, u14, u15, u16, u17, u18, u19, u20])), (q1, .inl (ci, 7, .inl zhalves))] H := gjoin3 hP hD [] hP9 hk9 rfl rfl [none, none] rfl rfl
    clear hP9 hk9
    refine lv_if_ne (tgt := 25) hx hb dX12_turn_18 (by decide) (fun hc => ?_) (fun hc => ?_)
    · have hw := hw.1 hc
      refine lv_iconst (v := (0 : Int32)) hx hb dX12_turn_25 (by decide) ?_
      refine lv_istore_n (lv' := [(3, .int (0 : Int32)), (0, .ref q0), (1, .int a1), (2, .int a2)]) hx hb dX12_turn_26 rfl hl (by decide) rfl (fun ls hl => ?_)
      refine lv_aload_n hx hb dX12_turn_27 rfl (lv_at hl 1 rfl) ?_
      refine va_get (D := D) (ci := 11) (v := .int zdogs) (C := RX12) (T := TX12) (N := 23) hx hb ht in_X12 hown hK.1 hP 0 rfl rfl 0 (by decide) (ht _ mF_X12_63) (fun _ h9 => h9) rfl dX12_turn_28 ?_
      refine lv_aload_n hx hb dX12_turn_31 rfl (lv_at hl 1 rfl) ?_
      refine gcalli (va_runV (As := []) (rest := [.int zdogs]) ⟨hx, hb, hml, hown, ht⟩ (c_X12_dead l D ci cz tr q0 q1 H.size u0 u1 u2 u3 u4 u5 u6 u7 u8 u9 u10 u11 u12 u13 u14 u15 u16 u17 u18 u19 u20 zdogs zhalves _ hw) (cwV 0 ht (gi_V mM_X12_133 mI_X12_dead mS_X12_dead mN_X12 mC_X12_dead) rfl rfl rfl (by decide +kernel) ⟨Nat.le_trans (Nat.le_of_ble_eq_true rfl) hfr, Nat.le_trans (Nat.le_of_ble_eq_true rfl) hlc⟩) (gpreV (wc := [(q0, .inr (11, [.int zdogs, .ref q1, u0, u1, u2, u3, u4, u5, u6, u7, u8, u9, u10, u11, u12, u13, u14, u15, u16, u17, u18, u19, u20])), (q1, .inl (ci, 7, .inl zhalves))]) (k := 11) (q0 := 0) hK hZ hP hD hS hA [0, 1] rfl rfl rfl rfl rfl) rfl rfl hl.1 rfl (lv_room (Nat.le_of_ble_eq_true rfl)) dX12_turn_32 ⟨Nat.zero_le _, Nat.zero_le _⟩) hD hS hA [0, 1] rfl (fun r_3 w9 H locs hw hP9 hk9 hS => ?_)
      obtain ⟨rfl, hw⟩ := hw
      have hP : va_P D vwCl [(q0, .inr (11, [.int zdogs, .ref q1, u0, u1, u2, u3, u4, u5, u6, u7, u8, u9, u10, u11, u12, u13, u14, u15, u16, u17, u18, u19, u20])), (q1, .inl (ci, 7, .inl zhalves))] H := gjoin3 hP hD [0, 1] hP9 hk9 rfl rfl [some 0, some 1] rfl rfl
      clear hP9 hk9
      refine gcalli (va_runS (As := [.int r_3]) (rest := [.int zdogs]) ⟨hx, hb, hml, hown, ht⟩ (c_X12_bits l D ci cz tr  H.size r_3 _ hw) (va_cwS 1 ht (gi_S mM_X12_147 mT_X12_bits mN_X12 mC_X12_bits) rfl rfl rfl (by decide +kernel) ⟨Nat.le_trans (Nat.le_of_ble_eq_true rfl) hfr, Nat.le_trans (Nat.le_of_ble_eq_true rfl) hlc⟩) (gpre (wc := []) hK hZ hP hD hS hA [] rfl rfl) rfl rfl hl.1 rfl (lv_room (Nat.le_of_ble_eq_true rfl)) dX12_turn_35 ⟨Nat.zero_le _, Nat.zero_le _⟩) hD hS hA [] rfl (fun r_4 w9 H locs hw hP9 hk9 hS => ?_)
      obtain ⟨rfl, hw⟩ := hw
      have hP : va_P D vwCl [(q0, .inr (11, [.int zdogs, .ref q1, u0, u1, u2, u3, u4, u5, u6, u7, u8, u9, u10, u11, u12, u13, u14, u15, u16, u17, u18, u19, u20])), (q1, .inl (ci, 7, .inl zhalves))] H := gjoin3 hP hD [] hP9 hk9 rfl rfl [none, none] rfl rfl
      clear hP9 hk9
      refine lv_isub hx hb dX12_turn_38 ?_
      refine lv_istore (lv' := [(4, .int (zdogs - r_4)), (3, .int (0 : Int32)), (0, .ref q0), (1, .int a1), (2, .int a2)]) hx hb dX12_turn_39 hl (by decide) rfl (fun ls hl => ?_)
      refine lv_iconst (v := (0 : Int32)) hx hb dX12_turn_41 (by decide) ?_
      refine lv_istore (lv' := [(5, .int (0 : Int32)), (4, .int (zdogs - r_4)), (3, .int (0 : Int32)), (0, .ref q0), (1, .int a1), (2, .int a2)]) hx hb dX12_turn_42 hl (by decide) rfl (fun ls hl => ?_)
      refine jn_walk hw (fun J155 => ∀ (x3_5 : Int32) (H : Heap) (locs : List Loc) (ls : Array Slot), J155 x3_5 → va_P D vwCl [(q0, .inr (11, [.int zdogs, .ref q1, u0, u1, u2, u3, u4, u5, u6, u7, u8, u9, u10, u11, u12, u13, u14, u15, u16, u17, u18, u19, u20])), (q1, .inl (ci, 7, .inl zhalves))] H → va_S A s.heap H locs → lv_has ls 9 [(2, .int a2), (3, .int x3_5), (4, .int (zdogs - r_4))] → W p l e R s m args below meth c H locs 0 0 Q (F0 m 155 ls [])) ?_ ?_
      · intro x3_5 H locs ls hw hP hS hl
        have hD : va_D A [(q0, .inr (11, [.int zdogs, .ref q1, u0, u1, u2, u3, u4, u5, u6, u7, u8, u9, u10, u11, u12, u13, u14, u15, u16, u17, u18, u19, u20])), (q1, .inl (ci, 7, .inl zhalves))] := gD_re hD rfl
        refine lv_iload hx hb dX12_turn_155 (lv_at hl 2 rfl) ?_
        refine gcalli (va_runS (As := [.int (zdogs - r_4)]) (rest := []) ⟨hx, hb, hml, hown, ht⟩ (c_X12_factorial l D ci cz tr  H.size (zdogs - r_4) _ hw) (va_cwS 1 ht (gi_S mM_X12_150 mT_X12_factorial mN_X12 mC_X12_factorial) rfl rfl rfl (by decide +kernel) ⟨Nat.le_trans (Nat.le_of_ble_eq_true rfl) hfr, Nat.le_trans (Nat.le_of_ble_eq_true rfl) hlc⟩) (gpre (wc := []) hK hZ hP hD hS hA [] rfl rfl) rfl rfl hl.1 rfl (lv_room (Nat.le_of_ble_eq_true rfl)) dX12_turn_157 ⟨Nat.zero_le _, Nat.zero_le _⟩) hD hS hA [] rfl (fun r_6 w9 H locs hw hP9 hk9 hS => ?_)
        obtain ⟨rfl, hw⟩ := hw
        have hP : va_P D vwCl [(q0, .inr (11, [.int zdogs, .ref q1, u0, u1, u2, u3, u4, u5, u6, u7, u8, u9, u10, u11, u12, u13, u14, u15, u16, u17, u18, u19, u20])), (q1, .inl (ci, 7, .inl zhalves))] H := gjoin3 hP hD [] hP9 hk9 rfl rfl [none, none] rfl rfl
        clear hP9 hk9
        refine lv_istore (lv' := [(5, .int r_6), (2, .int a2), (3, .int x3_5), (4, .int (zdogs - r_4))]) hx hb dX12_turn_160 hl (by decide) rfl (fun ls hl => ?_)
        refine lv_iload_n hx hb dX12_turn_162 rfl (lv_at hl 2 rfl) ?_
        refine lv_istore (lv' := [(6, .int x3_5), (5, .int r_6), (2, .int a2), (3, .int x3_5), (4, .int (zdogs - r_4))]) hx hb dX12_turn_163 hl (by decide) rfl (fun ls hl => ?_)
        refine lv_iload hx hb dX12_turn_165 (lv_at hl 1 rfl) ?_
        refine lv_istore (lv' := [(7, .int r_6), (6, .int x3_5), (5, .int r_6), (2, .int a2), (3, .int x3_5), (4, .int (zdogs - r_4))]) hx hb dX12_turn_167 hl (by decide) rfl (fun ls hl => ?_)
        refine jn_walk hw (fun J192 => ∀ (x6_7 : Int32) (H : Heap) (locs : List Loc) (ls : Array Slot), J192 x6_7 → va_P D vwCl [(q0, .inr (11, [.int zdogs, .ref q1, u0, u1, u2, u3, u4, u5, u6, u7, u8, u9, u10, u11, u12, u13, u14, u15, u16, u17, u18, u19, u20])), (q1, .inl (ci, 7, .inl zhalves))] H → va_S A s.heap H locs → lv_has ls 9 [(2, .int a2), (3, .int x3_5), (5, .int r_6), (6, .int x6_7)] → W p l e R s m args below meth c H locs 0 0 Q (F0 m 192 ls [])) ?_ ?_
        · intro x6_7 H locs ls hw hP hS hl
          have hD : va_D A [(q0, .inr (11, [.int zdogs, .ref q1, u0, u1, u2, u3, u4, u5, u6, u7, u8, u9, u10, u11, u12, u13, u14, u15, u16, u17, u18, u19, u20])), (q1, .inl (ci, 7, .inl zhalves))] := gD_re hD rfl
          refine lv_iload_n hx hb dX12_turn_192 rfl (lv_at hl 0 rfl) ?_
          refine lv_if_ne (tgt := 204) hx hb dX12_turn_193 (by decide) (fun hc => ?_) (fun hc => ?_)
          · have hw := hw.1 hc
            refine lv_iload hx hb dX12_turn_204 (lv_at hl 2 rfl) ?_
            refine lv_iload hx hb dX12_turn_206 (lv_at hl 3 rfl) ?_
            obtain ⟨hne, hw⟩ := hw
            refine lv_idiv hx hb dX12_turn_208 hne ?_
            refine lv_i2l hx hb dX12_turn_209 rfl ?_
            exact hret _ _ H locs _ _ ⟨rfl, hw⟩ hP hS dX12_turn_210
          · have hw := hw.2 hc
            refine lv_iload_n hx hb dX12_turn_196 rfl (lv_at hl 1 rfl) ?_
            refine lv_iload hx hb dX12_turn_197 (lv_at hl 3 rfl) ?_
            obtain ⟨hne, hw⟩ := hw
            refine lv_idiv hx hb dX12_turn_199 hne ?_
            refine lv_i2l hx hb dX12_turn_200 rfl ?_
            refine lv_goto (tgt := 210) hx hb dX12_turn_201 (by decide) ?_
            exact hret _ _ H locs _ _ ⟨rfl, hw⟩ hP hS dX12_turn_210
        · intro J192 hJ192 hw
          refine lo_walk hw (fun G169 => ∀ (x6_8 : Int32) (x7_9 : Int32) (H : Heap) (locs : List Loc) (ls : Array Slot), G169 x6_8 x7_9 → va_P D vwCl [(q0, .inr (11, [.int zdogs, .ref q1, u0, u1, u2, u3, u4, u5, u6, u7, u8, u9, u10, u11, u12, u13, u14, u15, u16, u17, u18, u19, u20])), (q1, .inl (ci, 7, .inl zhalves))] H → va_S A s.heap H locs → lv_has ls 9 [(2, .int a2), (3, .int x3_5), (5, .int r_6), (6, .int x6_8), (7, .int x7_9)] → W p l e R s m args below meth c H locs 0 0 Q (F0 m 169 ls [])) (fun _ _ _ _ _ hw _ _ _ => False.elim hw) (fun G169 hG169 x6_8 x7_9 H locs ls hw hP hS hl => ?_) (fun G169 hG169 hw => hG169 _ _ H locs ls hw hP hS (lv_sub hl [3, 4, 2, 1, 0] rfl))
          have hD : va_D A [(q0, .inr (11, [.int zdogs, .ref q1, u0, u1, u2, u3, u4, u5, u6, u7, u8, u9, u10, u11, u12, u13, u14, u15, u16, u17, u18, u19, u20])), (q1, .inl (ci, 7, .inl zhalves))] := gD_re hD rfl
          refine lv_iload hx hb dX12_turn_169 (lv_at hl 4 rfl) ?_
          refine lv_if_eq (tgt := 192) hx hb dX12_turn_171 (by decide) (fun hc => ?_) (fun hc => ?_)
          · have hw := hw.1 hc
            exact hJ192 _ H locs ls hw hP hS (lv_sub hl [0, 1, 2, 3] rfl)
          · have hw := hw.2 hc
            refine lv_iload hx hb dX12_turn_174 (lv_at hl 3 rfl) ?_
            refine lv_iload hx hb dX12_turn_176 (lv_at hl 4 rfl) ?_
            obtain ⟨hne, hw⟩ := hw
            refine lv_irem hx hb dX12_turn_178 hne ?_
            refine lv_istore (lv' := [(8, .int (x6_8 - x6_8 / x7_9 * x7_9)), (2, .int a2), (3, .int x3_5), (5, .int r_6), (6, .int x6_8), (7, .int x7_9)]) hx hb dX12_turn_179 hl (by decide) rfl (fun ls hl => ?_)
            refine lv_iload hx hb dX12_turn_181 (lv_at hl 5 rfl) ?_
            refine lv_istore (lv' := [(6, .int x7_9), (8, .int (x6_8 - x6_8 / x7_9 * x7_9)), (2, .int a2), (3, .int x3_5), (5, .int r_6), (7, .int x7_9)]) hx hb dX12_turn_183 hl (by decide) rfl (fun ls hl => ?_)
            refine lv_iload hx hb dX12_turn_185 (lv_at hl 1 rfl) ?_
            refine lv_istore (lv' := [(7, .int (x6_8 - x6_8 / x7_9 * x7_9)), (6, .int x7_9), (8, .int (x6_8 - x6_8 / x7_9 * x7_9)), (2, .int a2), (3, .int x3_5), (5, .int r_6)]) hx hb dX12_turn_187 hl (by decide) rfl (fun ls hl => ?_)
            refine lv_goto (tgt := 169) hx hb dX12_turn_189 (by decide) ?_
            exact hG169 _ _ H locs ls hw hP hS (lv_sub hl [3, 4, 5, 1, 0] rfl)
      · intro J155 hJ155 hw
        refine lo_walk hw (fun G44 => ∀ (x3_10 : Int32) (x5_11 : Int32) (H : Heap) (locs : List Loc) (ls : Array Slot), G44 x3_10 x5_11 → va_P D vwCl [(q0, .inr (11, [.int zdogs, .ref q1, u0, u1, u2, u3, u4, u5, u6, u7, u8, u9, u10, u11, u12, u13, u14, u15, u16, u17, u18, u19, u20])), (q1, .inl (ci, 7, .inl zhalves))] H → va_S A s.heap H locs → lv_has ls 9 [(0, .ref q0), (1, .int a1), (2, .int a2), (3, .int x3_10), (4, .int (zdogs - r_4)), (5, .int x5_11)] → W p l e R s m args below meth c H locs 0 0 Q (F0 m 44 ls [])) (fun _ _ _ _ _ hw _ _ _ => False.elim hw) (fun G44 hG44 x3_10 x5_11 H locs ls hw hP hS hl => ?_) (fun G44 hG44 hw => hG44 _ _ H locs ls hw hP hS (lv_sub hl [3, 4, 5, 2, 1, 0] rfl))
        have hD : va_D A [(q0, .inr (11, [.int zdogs, .ref q1, u0, u1, u2, u3, u4, u5, u6, u7, u8, u9, u10, u11, u12, u13, u14, u15, u16, u17, u18, u19, u20])), (q1, .inl (ci, 7, .inl zhalves))] := gD_re hD rfl
        refine lv_iload hx hb dX12_turn_44 (lv_at hl 5 rfl) ?_
        refine lv_iconst (v := (1 : Int32)) hx hb dX12_turn_46 (by decide) ?_
        refine lv_aload_n hx hb dX12_turn_47 rfl (lv_at hl 0 rfl) ?_
        refine va_get (D := D) (ci := 11) (v := .int zdogs) (C := RX12) (T := TX12) (N := 23) hx hb ht in_X12 hown hK.1 hP 0 rfl rfl 0 (by decide) (ht _ mF_X12_63) (fun _ h9 => h9) rfl dX12_turn_48 ?_
        refine lv_ishl hx hb dX12_turn_51 ?_
        refine lv_icmp_ge (tgt := 155) hx hb dX12_turn_52 (by decide) (fun hc => ?_) (fun hc => ?_)
        · have hw := hw.1 hc
          exact hJ155 _ H locs ls hw hP hS (lv_sub hl [2, 3, 4] rfl)
        · have hw := hw.2 hc
          refine lv_iload hx hb dX12_turn_55 (lv_at hl 5 rfl) ?_
          refine lv_iload_n hx hb dX12_turn_57 rfl (lv_at hl 1 rfl) ?_
          refine gcalli (va_runS (As := [.int x5_11, .int a1]) (rest := []) ⟨hx, hb, hml, hown, ht⟩ (c_X12_has l D ci cz tr  H.size x5_11 a1 _ hw) (va_cwS 2 ht (gi_S mM_X12_84 mT_X12_has mN_X12 mC_X12_has) rfl rfl rfl (by decide +kernel) ⟨Nat.le_trans (Nat.le_of_ble_eq_true rfl) hfr, Nat.le_trans (Nat.le_of_ble_eq_true rfl) hlc⟩) (gpre (wc := []) hK hZ hP hD hS hA [] rfl rfl) rfl rfl hl.1 rfl (lv_room (Nat.le_of_ble_eq_true rfl)) dX12_turn_58 ⟨Nat.zero_le _, Nat.zero_le _⟩) hD hS hA [] rfl (fun r_12 w9 H locs hw hP9 hk9 hS => ?_)
          obtain ⟨rfl, hw⟩ := hw
          have hP : va_P D vwCl [(q0, .inr (11, [.int zdogs, .ref q1, u0, u1, u2, u3, u4, u5, u6, u7, u8, u9, u10, u11, u12, u13, u14, u15, u16, u17, u18, u19, u20])), (q1, .inl (ci, 7, .inl zhalves))] H := gjoin3 hP hD [] hP9 hk9 rfl rfl [none, none] rfl rfl
          clear hP9 hk9
          refine jn_walk hw (fun J113 => ∀ (t_13 : Int32) (H : Heap) (locs : List Loc) (ls : Array Slot), J113 t_13 → va_P D vwCl [(q0, .inr (11, [.int zdogs, .ref q1, u0, u1, u2, u3, u4, u5, u6, u7, u8, u9, u10, u11, u12, u13, u14, u15, u16, u17, u18, u19, u20])), (q1, .inl (ci, 7, .inl zhalves))] H → va_S A s.heap H locs → lv_has ls 9 [(0, .ref q0), (1, .int a1), (2, .int a2), (3, .int x3_10), (4, .int (zdogs - r_4)), (5, .int x5_11)] → W p l e R s m args below meth c H locs 0 0 Q (F0 m 113 ls [.int t_13])) ?_ ?_
          · intro t_13 H locs ls hw hP hS hl
            have hD : va_D A [(q0, .inr (11, [.int zdogs, .ref q1, u0, u1, u2, u3, u4, u5, u6, u7, u8, u9, u10, u11, u12, u13, u14, u15, u16, u17, u18, u19, u20])), (q1, .inl (ci, 7, .inl zhalves))] := gD_re hD rfl
            refine lv_istore (lv' := [(6, .int t_13), (0, .ref q0), (1, .int a1), (2, .int a2), (3, .int x3_10), (4, .int (zdogs - r_4)), (5, .int x5_11)]) hx hb dX12_turn_113 hl (by decide) rfl (fun ls hl => ?_)
            refine lv_iload_n hx hb dX12_turn_115 rfl (lv_at hl 4 rfl) ?_
            refine lv_iload hx hb dX12_turn_116 (lv_at hl 0 rfl) ?_
            refine jn_walk hw (fun J147 => ∀ (t_14 : Int32) (H : Heap) (locs : List Loc) (ls : Array Slot), J147 t_14 → va_P D vwCl [(q0, .inr (11, [.int zdogs, .ref q1, u0, u1, u2, u3, u4, u5, u6, u7, u8, u9, u10, u11, u12, u13, u14, u15, u16, u17, u18, u19, u20])), (q1, .inl (ci, 7, .inl zhalves))] H → va_S A s.heap H locs → lv_has ls 9 [(0, .ref q0), (1, .int a1), (2, .int a2), (4, .int (zdogs - r_4)), (5, .int x5_11)] → W p l e R s m args below meth c H locs 0 0 Q (F0 m 147 ls [.int t_14, .int x3_10])) ?_ ?_
            · intro t_14 H locs ls hw hP hS hl
              have hD : va_D A [(q0, .inr (11, [.int zdogs, .ref q1, u0, u1, u2, u3, u4, u5, u6, u7, u8, u9, u10, u11, u12, u13, u14, u15, u16, u17, u18, u19, u20])), (q1, .inl (ci, 7, .inl zhalves))] := gD_re hD rfl
              refine lv_iadd hx hb dX12_turn_147 ?_
              refine lv_istore_n (lv' := [(3, .int (x3_10 + t_14)), (0, .ref q0), (1, .int a1), (2, .int a2), (4, .int (zdogs - r_4)), (5, .int x5_11)]) hx hb dX12_turn_148 rfl hl (by decide) rfl (fun ls hl => ?_)
              refine lv_iinc (v := (x5_11 + (1 : Int32))) (lv' := [(5, .int (x5_11 + (1 : Int32))), (3, .int (x3_10 + t_14)), (0, .ref q0), (1, .int a1), (2, .int a2), (4, .int (zdogs - r_4))]) hx hb dX12_turn_149 hl (k := 5) rfl rfl (by decide) rfl (fun ls hl => ?_)
              refine lv_goto (tgt := 44) hx hb dX12_turn_152 (by decide) ?_
              exact hG44 _ _ H locs ls hw hP hS (lv_sub hl [2, 3, 4, 1, 5, 0] rfl)
            · intro J147 hJ147 hw
              refine lv_if_eq (tgt := 146) hx hb dX12_turn_118 (by decide) (fun hc => ?_) (fun hc => ?_)
              · have hw := hw.1 hc
                refine lv_iconst (v := (0 : Int32)) hx hb dX12_turn_146 (by decide) ?_
                exact hJ147 _ H locs ls hw hP hS (lv_sub hl [1, 2, 3, 5, 6] rfl)
              · have hw := hw.2 hc
                refine lv_iload hx hb dX12_turn_121 (lv_at hl 6 rfl) ?_
                refine gcalli (va_runS (As := [.int x5_11]) (rest := [.int x3_10]) ⟨hx, hb, hml, hown, ht⟩ (c_X12_bits l D ci cz tr  H.size x5_11 _ hw) (va_cwS 1 ht (gi_S mM_X12_147 mT_X12_bits mN_X12 mC_X12_bits) rfl rfl rfl (by decide +kernel) ⟨Nat.le_trans (Nat.le_of_ble_eq_true rfl) hfr, Nat.le_trans (Nat.le_of_ble_eq_true rfl) hlc⟩) (gpre (wc := []) hK hZ hP hD hS hA [] rfl rfl) rfl rfl hl.1 rfl (lv_room (Nat.le_of_ble_eq_true rfl)) dX12_turn_123 ⟨Nat.zero_le _, Nat.zero_le _⟩) hD hS hA [] rfl (fun r_15 w9 H locs hw hP9 hk9 hS => ?_)
                obtain ⟨rfl, hw⟩ := hw
                have hP : va_P D vwCl [(q0, .inr (11, [.int zdogs, .ref q1, u0, u1, u2, u3, u4, u5, u6, u7, u8, u9, u10, u11, u12, u13, u14, u15, u16, u17, u18, u19, u20])), (q1, .inl (ci, 7, .inl zhalves))] H := gjoin3 hP hD [] hP9 hk9 rfl rfl [none, none] rfl rfl
                clear hP9 hk9
                refine gcalli (va_runS (As := [.int r_15]) (rest := [.int x3_10]) ⟨hx, hb, hml, hown, ht⟩ (c_X12_factorial l D ci cz tr  H.size r_15 _ hw) (va_cwS 1 ht (gi_S mM_X12_150 mT_X12_factorial mN_X12 mC_X12_factorial) rfl rfl rfl (by decide +kernel) ⟨Nat.le_trans (Nat.le_of_ble_eq_true rfl) hfr, Nat.le_trans (Nat.le_of_ble_eq_true rfl) hlc⟩) (gpre (wc := []) hK hZ hP hD hS hA [] rfl rfl) rfl rfl hl.1 rfl (lv_room (Nat.le_of_ble_eq_true rfl)) dX12_turn_126 ⟨Nat.zero_le _, Nat.zero_le _⟩) hD hS hA [] rfl (fun r_16 w9 H locs hw hP9 hk9 hS => ?_)
                obtain ⟨rfl, hw⟩ := hw
                have hP : va_P D vwCl [(q0, .inr (11, [.int zdogs, .ref q1, u0, u1, u2, u3, u4, u5, u6, u7, u8, u9, u10, u11, u12, u13, u14, u15, u16, u17, u18, u19, u20])), (q1, .inl (ci, 7, .inl zhalves))] H := gjoin3 hP hD [] hP9 hk9 rfl rfl [none, none] rfl rfl
                clear hP9 hk9
                refine lv_iload hx hb dX12_turn_129 (lv_at hl 5 rfl) ?_
                refine lv_iconst (v := (1 : Int32)) hx hb dX12_turn_131 (by decide) ?_
                refine lv_isub hx hb dX12_turn_132 ?_
                refine lv_iload hx hb dX12_turn_133 (lv_at hl 6 rfl) ?_
                refine gcalli (va_runS (As := [.int x5_11]) (rest := [.int ((zdogs - r_4) - (1 : Int32)), .int r_16, .int x3_10]) ⟨hx, hb, hml, hown, ht⟩ (c_X12_bits l D ci cz tr  H.size x5_11 _ hw) (va_cwS 1 ht (gi_S mM_X12_147 mT_X12_bits mN_X12 mC_X12_bits) rfl rfl rfl (by decide +kernel) ⟨Nat.le_trans (Nat.le_of_ble_eq_true rfl) hfr, Nat.le_trans (Nat.le_of_ble_eq_true rfl) hlc⟩) (gpre (wc := []) hK hZ hP hD hS hA [] rfl rfl) rfl rfl hl.1 rfl (lv_room (Nat.le_of_ble_eq_true rfl)) dX12_turn_135 ⟨Nat.zero_le _, Nat.zero_le _⟩) hD hS hA [] rfl (fun r_17 w9 H locs hw hP9 hk9 hS => ?_)
                obtain ⟨rfl, hw⟩ := hw
                have hP : va_P D vwCl [(q0, .inr (11, [.int zdogs, .ref q1, u0, u1, u2, u3, u4, u5, u6, u7, u8, u9, u10, u11, u12, u13, u14, u15, u16, u17, u18, u19, u20])), (q1, .inl (ci, 7, .inl zhalves))] H := gjoin3 hP hD [] hP9 hk9 rfl rfl [none, none] rfl rfl
                clear hP9 hk9
                refine lv_isub hx hb dX12_turn_138 ?_
                refine gcalli (va_runS (As := [.int (((zdogs - r_4) - (1 : Int32)) - r_17)]) (rest := [.int r_16, .int x3_10]) ⟨hx, hb, hml, hown, ht⟩ (c_X12_factorial l D ci cz tr  H.size (((zdogs - r_4) - (1 : Int32)) - r_17) _ hw) (va_cwS 1 ht (gi_S mM_X12_150 mT_X12_factorial mN_X12 mC_X12_factorial) rfl rfl rfl (by decide +kernel) ⟨Nat.le_trans (Nat.le_of_ble_eq_true rfl) hfr, Nat.le_trans (Nat.le_of_ble_eq_true rfl) hlc⟩) (gpre (wc := []) hK hZ hP hD hS hA [] rfl rfl) rfl rfl hl.1 rfl (lv_room (Nat.le_of_ble_eq_true rfl)) dX12_turn_139 ⟨Nat.zero_le _, Nat.zero_le _⟩) hD hS hA [] rfl (fun r_18 w9 H locs hw hP9 hk9 hS => ?_)
                obtain ⟨rfl, hw⟩ := hw
                have hP : va_P D vwCl [(q0, .inr (11, [.int zdogs, .ref q1, u0, u1, u2, u3, u4, u5, u6, u7, u8, u9, u10, u11, u12, u13, u14, u15, u16, u17, u18, u19, u20])), (q1, .inl (ci, 7, .inl zhalves))] H := gjoin3 hP hD [] hP9 hk9 rfl rfl [none, none] rfl rfl
                clear hP9 hk9
                refine lv_imul hx hb dX12_turn_142 ?_
                refine lv_goto (tgt := 147) hx hb dX12_turn_143 (by decide) ?_
                exact hJ147 _ H locs ls hw hP hS (lv_sub hl [1, 2, 3, 5, 6] rfl)
          · intro J113 hJ113 hw
            refine jn_walk hw (fun J112 => ∀  (H : Heap) (locs : List Loc) (ls : Array Slot), J112 → va_P D vwCl [(q0, .inr (11, [.int zdogs, .ref q1, u0, u1, u2, u3, u4, u5, u6, u7, u8, u9, u10, u11, u12, u13, u14, u15, u16, u17, u18, u19, u20])), (q1, .inl (ci, 7, .inl zhalves))] H → va_S A s.heap H locs → lv_has ls 9 [(0, .ref q0), (1, .int a1), (2, .int a2), (3, .int x3_10), (4, .int (zdogs - r_4)), (5, .int x5_11)] → W p l e R s m args below meth c H locs 0 0 Q (F0 m 112 ls [])) ?_ ?_
            · intro  H locs ls hw hP hS hl
              have hD : va_D A [(q0, .inr (11, [.int zdogs, .ref q1, u0, u1, u2, u3, u4, u5, u6, u7, u8, u9, u10, u11, u12, u13, u14, u15, u16, u17, u18, u19, u20])), (q1, .inl (ci, 7, .inl zhalves))] := gD_re hD rfl
              refine lv_iconst (v := (0 : Int32)) hx hb dX12_turn_112 (by decide) ?_
              exact hJ113 _ H locs ls hw hP hS (lv_sub hl [0, 1, 2, 3, 4, 5] rfl)
            · intro J112 hJ112 hw
              refine lv_if_ne (tgt := 112) hx hb dX12_turn_61 (by decide) (fun hc => ?_) (fun hc => ?_)
              · have hw := hw.1 hc
                exact hJ112  H locs ls hw hP hS (lv_sub hl [0, 1, 2, 3, 4, 5] rfl)
              · have hw := hw.2 hc
                refine lv_iload hx hb dX12_turn_64 (lv_at hl 5 rfl) ?_
                refine lv_aload_n hx hb dX12_turn_66 rfl (lv_at hl 0 rfl) ?_
                refine gcalli (va_runV (As := []) (rest := [.int x5_11]) ⟨hx, hb, hml, hown, ht⟩ (c_X12_dead l D ci cz tr q0 q1 H.size u0 u1 u2 u3 u4 u5 u6 u7 u8 u9 u10 u11 u12 u13 u14 u15 u16 u17 u18 u19 u20 zdogs zhalves _ hw) (cwV 0 ht (gi_V mM_X12_133 mI_X12_dead mS_X12_dead mN_X12 mC_X12_dead) rfl rfl rfl (by decide +kernel) ⟨Nat.le_trans (Nat.le_of_ble_eq_true rfl) hfr, Nat.le_trans (Nat.le_of_ble_eq_true rfl) hlc⟩) (gpreV (wc := [(q0, .inr (11, [.int zdogs, .ref q1, u0, u1, u2, u3, u4, u5, u6, u7, u8, u9, u10, u11, u12, u13, u14, u15, u16, u17, u18, u19, u20])), (q1, .inl (ci, 7, .inl zhalves))]) (k := 11) (q0 := 0) hK hZ hP hD hS hA [0, 1] rfl rfl rfl rfl rfl) rfl rfl hl.1 rfl (lv_room (Nat.le_of_ble_eq_true rfl)) dX12_turn_67 ⟨Nat.zero_le _, Nat.zero_le _⟩) hD hS hA [0, 1] rfl (fun r_19 w9 H locs hw hP9 hk9 hS => ?_)
                obtain ⟨rfl, hw⟩ := hw
                have hP : va_P D vwCl [(q0, .inr (11, [.int zdogs, .ref q1, u0, u1, u2, u3, u4, u5, u6, u7, u8, u9, u10, u11, u12, u13, u14, u15, u16, u17, u18, u19, u20])), (q1, .inl (ci, 7, .inl zhalves))] H := gjoin3 hP hD [0, 1] hP9 hk9 rfl rfl [some 0, some 1] rfl rfl
                clear hP9 hk9
                refine lv_iand hx hb dX12_turn_70 ?_
                refine lv_if_ne (tgt := 112) hx hb dX12_turn_71 (by decide) (fun hc => ?_) (fun hc => ?_)
                · have hw := hw.1 hc
                  exact hJ112  H locs ls hw hP hS (lv_sub hl [0, 1, 2, 3, 4, 5] rfl)
                · have hw := hw.2 hc
                  refine lv_iconst (v := (2 : Int32)) hx hb dX12_turn_74 (by decide) ?_
                  refine lv_aload_n hx hb dX12_turn_75 rfl (lv_at hl 0 rfl) ?_
                  refine lv_iload hx hb dX12_turn_76 (lv_at hl 5 rfl) ?_
                  refine gcalli (va_runV (As := [.int x5_11]) (rest := [.int (2 : Int32)]) ⟨hx, hb, hml, hown, ht⟩ (c_X12_sumOf l D ci cz tr q0 q1 H.size u0 u1 u2 u3 u4 u5 u6 u7 u8 u9 u10 u11 u12 u13 u14 u15 u16 u17 u18 u19 u20 zdogs zhalves x5_11 _ hw) (cwV 1 ht (gi_V mM_X12_136 mI_X12_sumOf mS_X12_sumOf mN_X12 mC_X12_sumOf) rfl rfl rfl (by decide +kernel) ⟨Nat.le_trans (Nat.le_of_ble_eq_true rfl) hfr, Nat.le_trans (Nat.le_of_ble_eq_true rfl) hlc⟩) (gpreV (wc := [(q0, .inr (11, [.int zdogs, .ref q1, u0, u1, u2, u3, u4, u5, u6, u7, u8, u9, u10, u11, u12, u13, u14, u15, u16, u17, u18, u19, u20])), (q1, .inl (ci, 7, .inl zhalves))]) (k := 11) (q0 := 0) hK hZ hP hD hS hA [0, 1] rfl rfl rfl rfl rfl) rfl rfl hl.1 rfl (lv_room (Nat.le_of_ble_eq_true rfl)) dX12_turn_78 ⟨Nat.zero_le _, Nat.zero_le _⟩) hD hS hA [0, 1] rfl (fun r_20 w9 H locs hw hP9 hk9 hS => ?_)
                  obtain ⟨rfl, hw⟩ := hw
                  have hP : va_P D vwCl [(q0, .inr (11, [.int zdogs, .ref q1, u0, u1, u2, u3, u4, u5, u6, u7, u8, u9, u10, u11, u12, u13, u14, u15, u16, u17, u18, u19, u20])), (q1, .inl (ci, 7, .inl zhalves))] H := gjoin3 hP hD [0, 1] hP9 hk9 rfl rfl [some 0, some 1] rfl rfl
                  clear hP9 hk9
                  refine lv_imul hx hb dX12_turn_81 ?_
                  refine lv_aload_n hx hb dX12_turn_82 rfl (lv_at hl 0 rfl) ?_
                  refine gcalli (va_runV (As := []) (rest := [.int ((2 : Int32) * r_20)]) ⟨hx, hb, hml, hown, ht⟩ (c_X12_allHalves l D ci cz tr q0 q1 H.size u0 u1 u2 u3 u4 u5 u6 u7 u8 u9 u10 u11 u12 u13 u14 u15 u16 u17 u18 u19 u20 zdogs zhalves _ hw) (cwV 0 ht (gi_V mM_X12_140 mI_X12_allHalves mS_X12_allHalves mN_X12 mC_X12_allHalves) rfl rfl rfl (by decide +kernel) ⟨Nat.le_trans (Nat.le_of_ble_eq_true rfl) hfr, Nat.le_trans (Nat.le_of_ble_eq_true rfl) hlc⟩) (gpreV (wc := [(q0, .inr (11, [.int zdogs, .ref q1, u0, u1, u2, u3, u4, u5, u6, u7, u8, u9, u10, u11, u12, u13, u14, u15, u16, u17, u18, u19, u20])), (q1, .inl (ci, 7, .inl zhalves))]) (k := 11) (q0 := 0) hK hZ hP hD hS hA [0, 1] rfl rfl rfl rfl rfl) rfl rfl hl.1 rfl (lv_room (Nat.le_of_ble_eq_true rfl)) dX12_turn_83 ⟨Nat.zero_le _, Nat.zero_le _⟩) hD hS hA [0, 1] rfl (fun r_21 w9 H locs hw hP9 hk9 hS => ?_)
                  obtain ⟨rfl, hw⟩ := hw
                  have hP : va_P D vwCl [(q0, .inr (11, [.int zdogs, .ref q1, u0, u1, u2, u3, u4, u5, u6, u7, u8, u9, u10, u11, u12, u13, u14, u15, u16, u17, u18, u19, u20])), (q1, .inl (ci, 7, .inl zhalves))] H := gjoin3 hP hD [0, 1] hP9 hk9 rfl rfl [some 0, some 1] rfl rfl
                  clear hP9 hk9
                  refine lv_icmp_gt (tgt := 112) hx hb dX12_turn_86 (by decide) (fun hc => ?_) (fun hc => ?_)
                  · have hw := hw.1 hc
                    exact hJ112  H locs ls hw hP hS (lv_sub hl [0, 1, 2, 3, 4, 5] rfl)
                  · have hw := hw.2 hc
                    refine lv_iconst (v := (2 : Int32)) hx hb dX12_turn_89 (by decide) ?_
                    refine lv_aload_n hx hb dX12_turn_90 rfl (lv_at hl 0 rfl) ?_
                    refine lv_iload hx hb dX12_turn_91 (lv_at hl 5 rfl) ?_
                    refine lv_iconst (v := (1 : Int32)) hx hb dX12_turn_93 (by decide) ?_
                    refine lv_iload_n hx hb dX12_turn_94 rfl (lv_at hl 1 rfl) ?_
                    refine lv_ishl hx hb dX12_turn_95 ?_
                    refine lv_ior hx hb dX12_turn_96 ?_
                    refine gcalli (va_runV (As := [.int (x5_11 ||| ((1 : Int32) <<< (a1 &&& 31)))]) (rest := [.int (2 : Int32)]) ⟨hx, hb, hml, hown, ht⟩ (c_X12_sumOf l D ci cz tr q0 q1 H.size u0 u1 u2 u3 u4 u5 u6 u7 u8 u9 u10 u11 u12 u13 u14 u15 u16 u17 u18 u19 u20 zdogs zhalves (x5_11 ||| ((1 : Int32) <<< (a1 &&& 31))) _ hw) (cwV 1 ht (gi_V mM_X12_136 mI_X12_sumOf mS_X12_sumOf mN_X12 mC_X12_sumOf) rfl rfl rfl (by decide +kernel) ⟨Nat.le_trans (Nat.le_of_ble_eq_true rfl) hfr, Nat.le_trans (Nat.le_of_ble_eq_true rfl) hlc⟩) (gpreV (wc := [(q0, .inr (11, [.int zdogs, .ref q1, u0, u1, u2, u3, u4, u5, u6, u7, u8, u9, u10, u11, u12, u13, u14, u15, u16, u17, u18, u19, u20])), (q1, .inl (ci, 7, .inl zhalves))]) (k := 11) (q0 := 0) hK hZ hP hD hS hA [0, 1] rfl rfl rfl rfl rfl) rfl rfl hl.1 rfl (lv_room (Nat.le_of_ble_eq_true rfl)) dX12_turn_97 ⟨Nat.zero_le _, Nat.zero_le _⟩) hD hS hA [0, 1] rfl (fun r_22 w9 H locs hw hP9 hk9 hS => ?_)
                    obtain ⟨rfl, hw⟩ := hw
                    have hP : va_P D vwCl [(q0, .inr (11, [.int zdogs, .ref q1, u0, u1, u2, u3, u4, u5, u6, u7, u8, u9, u10, u11, u12, u13, u14, u15, u16, u17, u18, u19, u20])), (q1, .inl (ci, 7, .inl zhalves))] H := gjoin3 hP hD [0, 1] hP9 hk9 rfl rfl [some 0, some 1] rfl rfl
                    clear hP9 hk9
                    refine lv_imul hx hb dX12_turn_100 ?_
                    refine lv_aload_n hx hb dX12_turn_101 rfl (lv_at hl 0 rfl) ?_
                    refine gcalli (va_runV (As := []) (rest := [.int ((2 : Int32) * r_22)]) ⟨hx, hb, hml, hown, ht⟩ (c_X12_allHalves l D ci cz tr q0 q1 H.size u0 u1 u2 u3 u4 u5 u6 u7 u8 u9 u10 u11 u12 u13 u14 u15 u16 u17 u18 u19 u20 zdogs zhalves _ hw) (cwV 0 ht (gi_V mM_X12_140 mI_X12_allHalves mS_X12_allHalves mN_X12 mC_X12_allHalves) rfl rfl rfl (by decide +kernel) ⟨Nat.le_trans (Nat.le_of_ble_eq_true rfl) hfr, Nat.le_trans (Nat.le_of_ble_eq_true rfl) hlc⟩) (gpreV (wc := [(q0, .inr (11, [.int zdogs, .ref q1, u0, u1, u2, u3, u4, u5, u6, u7, u8, u9, u10, u11, u12, u13, u14, u15, u16, u17, u18, u19, u20])), (q1, .inl (ci, 7, .inl zhalves))]) (k := 11) (q0 := 0) hK hZ hP hD hS hA [0, 1] rfl rfl rfl rfl rfl) rfl rfl hl.1 rfl (lv_room (Nat.le_of_ble_eq_true rfl)) dX12_turn_102 ⟨Nat.zero_le _, Nat.zero_le _⟩) hD hS hA [0, 1] rfl (fun r_23 w9 H locs hw hP9 hk9 hS => ?_)
                    obtain ⟨rfl, hw⟩ := hw
                    have hP : va_P D vwCl [(q0, .inr (11, [.int zdogs, .ref q1, u0, u1, u2, u3, u4, u5, u6, u7, u8, u9, u10, u11, u12, u13, u14, u15, u16, u17, u18, u19, u20])), (q1, .inl (ci, 7, .inl zhalves))] H := gjoin3 hP hD [0, 1] hP9 hk9 rfl rfl [some 0, some 1] rfl rfl
                    clear hP9 hk9
                    refine lv_icmp_le (tgt := 112) hx hb dX12_turn_105 (by decide) (fun hc => ?_) (fun hc => ?_)
                    · have hw := hw.1 hc
                      exact hJ112  H locs ls hw hP hS (lv_sub hl [0, 1, 2, 3, 4, 5] rfl)
                    · have hw := hw.2 hc
                      refine lv_iconst (v := (1 : Int32)) hx hb dX12_turn_108 (by decide) ?_
                      refine lv_goto (tgt := 113) hx hb dX12_turn_109 (by decide) ?_
                      exact hJ113 _ H locs ls hw hP hS (lv_sub hl [0, 1, 2, 3, 4, 5] rfl)
    · have hw := hw.2 hc
      refine lv_ldc2 hx hb hown (ht _ mD_X12_145) dX12_turn_21 ?_
      exact hret _ _ H locs _ _ ⟨rfl, hw⟩ hP hS dX12_turn_24
  · have hw := hw.2 hc
    refine lv_ldc2 hx hb hown (ht _ mD_X12_143) dX12_turn_8 ?_
    exact hret _ _ H locs _ _ ⟨rfl, hw⟩ hP hS dX12_turn_11

def wp_X12_vote (zdogs : Int32) (zhungry : Int32) (zatLeft : Int32) (zatRight : Int32) (zhalves : Nat → Int32) (zlikes : Nat → Int32) (zfears : Nat → Int32) (zorder : Nat → Int32) (zwent : Nat → Int32) (zfill : Nat → Int32) (a1 : Int32) (a2 : Int32) (a3 : Int32) (post : Int32 → Int32 → Int32 → (Nat → Int32) → (Nat → Int32) → (Nat → Int32) → Prop) : Prop :=
  wp_X12_areLivers a1 a2 (fun (r_1 : Int32) => ((r_1 = 0 → post (-2 : Int32) zatLeft zatRight zorder zwent zfill) ∧ (¬ r_1 = 0 → wp_X12_in a3 (0 : Int32) (2 : Int32) (fun (r_2 : Int32) => ((¬ r_2 = 0 → wp_X12_fresh zdogs zhungry zatLeft zatRight zhalves zlikes zfears zorder zwent zfill a1 a2 (-6 : Int32) (fun (zatLeft_4 : Int32) (zatRight_5 : Int32) (zorder_6 : Nat → Int32) (zwent_7 : Nat → Int32) (zfill_8 : Nat → Int32) => ((¬ a3 = 0 → ((¬ a3 = (1 : Int32) → wp_X12_winner zatLeft_4 zatRight_5 (fun (r_9 : Int32) => post r_9 zatLeft_4 zatRight_5 zorder_6 zwent_7 zfill_8)) ∧ (a3 = (1 : Int32) → post zatRight_5 zatLeft_4 zatRight_5 zorder_6 zwent_7 zfill_8))) ∧ (a3 = 0 → post zatLeft_4 zatLeft_4 zatRight_5 zorder_6 zwent_7 zfill_8)))) ∧ (r_2 = 0 → post (-2 : Int32) zatLeft zatRight zorder zwent zfill))))))
set_option maxHeartbeats 4000000 in
set_option maxRecDepth 100000 in
theorem c_X12_vote (l : Launch) (D : va_G) (ci cz : ClassId) (tr : List (ClassId × FieldType)) (q0 q1 q2 q3 q4 q5 q6 : Nat) (sz : Nat) (u0 u1 u2 u3 u4 u5 u6 u7 u8 u9 u10 u11 u12 : Value) (zdogs : Int32) (zhungry : Int32) (zatLeft : Int32) (zatRight : Int32) (zhalves : Nat → Int32) (zlikes : Nat → Int32) (zfears : Nat → Int32) (zorder : Nat → Int32) (zwent : Nat → Int32) (zfill : Nat → Int32) (a1 : Int32) (a2 : Int32) (a3 : Int32) (post : Int32 → Int32 → Int32 → (Nat → Int32) → (Nat → Int32) → (Nat → Int32) → Prop) (hw : wp_X12_vote zdogs zhungry zatLeft zatRight zhalves zlikes zfears zorder zwent zfill a1 a2 a3 post) : gM l yX12_vote cX12_vote 4 (some .int) 4 95 D ci cz tr [(q0, .inr (11, [.int zdogs, .ref q1, .ref q2, u0, .ref q3, u1, .int zhungry, u2, u3, u4, u5, u6, u7, .ref q4, .ref q5, .ref q6, .int zatLeft, .int zatRight, u8, u9, u10, u11, u12])), (q1, .inl (ci, 7, .inl zhalves)), (q2, .inl (ci, 7, .inl zlikes)), (q3, .inl (ci, 7, .inl zfears)), (q4, .inl (ci, 7, .inl zorder)), (q5, .inl (ci, 7, .inl zwent)), (q6, .inl (ci, 7, .inl zfill))] sz [.ref q0, .int a1, .int a2, .int a3] (gQi D [(q0, .inr (11, [.int zdogs, .ref q1, .ref q2, u0, .ref q3, u1, .int zhungry, u2, u3, u4, u5, u6, u7, .ref q4, .ref q5, .ref q6, .int zatLeft, .int zatRight, u8, u9, u10, u11, u12])), (q1, .inl (ci, 7, .inl zhalves)), (q2, .inl (ci, 7, .inl zlikes)), (q3, .inl (ci, 7, .inl zfears)), (q4, .inl (ci, 7, .inl zorder)), (q5, .inl (ci, 7, .inl zwent)), (q6, .inl (ci, 7, .inl zfill))] sz (fun (r : Int32) w => ∃ (o_zatLeft : Int32) (o_zatRight : Int32) (o_zorder : Nat → Int32) (o_zwent : Nat → Int32) (o_zfill : Nat → Int32), w = [(q0, .inr (11, [.int zdogs, .ref q1, .ref q2, u0, .ref q3, u1, .int zhungry, u2, u3, u4, u5, u6, u7, .ref q4, .ref q5, .ref q6, .int o_zatLeft, .int o_zatRight, u8, u9, u10, u11, u12])), (q1, .inl (ci, 7, .inl zhalves)), (q2, .inl (ci, 7, .inl zlikes)), (q3, .inl (ci, 7, .inl zfears)), (q4, .inl (ci, 7, .inl o_zorder)), (q5, .inl (ci, 7, .inl o_zwent)), (q6, .inl (ci, 7, .inl o_zfill))] ∧ post r o_zatLeft o_zatRight o_zorder o_zwent o_zfill)) := by
  refine gmet_i RX12 (by decide +kernel) rfl (Nat.le_of_ble_eq_true rfl) ?_
  intro p e s m args below meth c A R Q C hfr hlc hP hD hret ls hl
  obtain ⟨hx, hb, hml, hown, ht, hK, hZ, hA⟩ := C
  have hl : lv_has ls 4 [(0, .ref q0), (1, .int a1), (2, .int a2), (3, .int a3)] := hl
  unfold wp_X12_vote at hw
  refine g_in (fun H locs => W p l e R s m args below meth c H locs 0 0 Q (F0 m 0 ls [])) (fun H locs hS0 hP => ?_) hP (va_S.rf (A := A) (H0 := s.heap))
  have hS : va_S A s.heap H locs := hS0
  clear hS0
  refine lv_iload_n hx hb dX12_vote_0 rfl (lv_at hl 1 rfl) ?_
  refine lv_iload_n hx hb dX12_vote_1 rfl (lv_at hl 2 rfl) ?_
  refine gcalli (va_runS (As := [.int a1, .int a2]) (rest := []) ⟨hx, hb, hml, hown, ht⟩ (c_X12_areLivers l D ci cz tr  H.size a1 a2 _ hw) (va_cwS 2 ht (gi_S mM_X12_107 mT_X12_areLivers mN_X12 mC_X12_areLivers) rfl rfl rfl (by decide +kernel) ⟨Nat.le_trans (Nat.le_of_ble_eq_true rfl) hfr, Nat.le_trans (Nat.le_of_ble_eq_true rfl) hlc⟩) (gpre (wc := []) hK hZ hP hD hS hA [] rfl rfl) rfl rfl hl.1 rfl (lv_room (Nat.le_of_ble_eq_true rfl)) dX12_vote_2 ⟨Nat.zero_le _, Nat.zero_le _⟩) hD hS hA [] rfl (fun r_1 w9 H locs hw hP9 hk9 hS => ?_)
  obtain ⟨rfl, hw⟩ := hw
  have hP : va_P D vwCl [(q0, .inr (11, [.int zdogs, .ref q1, .ref q2, u0, .ref q3, u1, .int zhungry, u2, u3, u4, u5, u6, u7, .ref q4, .ref q5, .ref q6, .int zatLeft, .int zatRight, u8, u9, u10, u11, u12])), (q1, .inl (ci, 7, .inl zhalves)), (q2, .inl (ci, 7, .inl zlikes)), (q3, .inl (ci, 7, .inl zfears)), (q4, .inl (ci, 7, .inl zorder)), (q5, .inl (ci, 7, .inl zwent)), (q6, .inl (ci, 7, .inl zfill))] H := gjoin3 hP hD [] hP9 hk9 rfl rfl [none, none, none, none, none, none, none] rfl rfl
  clear hP9 hk9
  refine lv_if_eq (tgt := 17) hx hb dX12_vote_5 (by decide) (fun hc => ?_) (fun hc => ?_)
  · have hw := hw.1 hc
    refine lv_bipush (v := (-2 : Int32)) hx hb dX12_vote_17 (by decide) ?_
    exact hret _ _ H locs _ _ ⟨_, _, _, _, _, rfl, hw⟩ hP hS dX12_vote_19
  · have hw := hw.2 hc
    refine lv_iload_n hx hb dX12_vote_8 rfl (lv_at hl 3 rfl) ?_
    refine lv_iconst (v := (0 : Int32)) hx hb dX12_vote_9 (by decide) ?_
    refine lv_iconst (v := (2 : Int32)) hx hb dX12_vote_10 (by decide) ?_
    refine gcalli (va_runS (As := [.int a3, .int (0 : Int32), .int (2 : Int32)]) (rest := []) ⟨hx, hb, hml, hown, ht⟩ (c_X12_in l D ci cz tr  H.size a3 (0 : Int32) (2 : Int32) _ hw) (va_cwS 3 ht (gi_S mM_X12_66 mT_X12_in mN_X12 mC_X12_in) rfl rfl rfl (by decide +kernel) ⟨Nat.le_trans (Nat.le_of_ble_eq_true rfl) hfr, Nat.le_trans (Nat.le_of_ble_eq_true rfl) hlc⟩) (gpre (wc := []) hK hZ hP hD hS hA [] rfl rfl) rfl rfl hl.1 rfl (lv_room (Nat.le_of_ble_eq_true rfl)) dX12_vote_11 ⟨Nat.zero_le _, Nat.zero_le _⟩) hD hS hA [] rfl (fun r_2 w9 H locs hw hP9 hk9 hS => ?_)
    obtain ⟨rfl, hw⟩ := hw
    have hP : va_P D vwCl [(q0, .inr (11, [.int zdogs, .ref q1, .ref q2, u0, .ref q3, u1, .int zhungry, u2, u3, u4, u5, u6, u7, .ref q4, .ref q5, .ref q6, .int zatLeft, .int zatRight, u8, u9, u10, u11, u12])), (q1, .inl (ci, 7, .inl zhalves)), (q2, .inl (ci, 7, .inl zlikes)), (q3, .inl (ci, 7, .inl zfears)), (q4, .inl (ci, 7, .inl zorder)), (q5, .inl (ci, 7, .inl zwent)), (q6, .inl (ci, 7, .inl zfill))] H := gjoin3 hP hD [] hP9 hk9 rfl rfl [none, none, none, none, none, none, none] rfl rfl
    clear hP9 hk9
    refine lv_if_ne (tgt := 20) hx hb dX12_vote_14 (by decide) (fun hc => ?_) (fun hc => ?_)
    · have hw := hw.1 hc
      refine lv_aload_n hx hb dX12_vote_20 rfl (lv_at hl 0 rfl) ?_
      refine lv_iload_n hx hb dX12_vote_21 rfl (lv_at hl 1 rfl) ?_
      refine lv_iload_n hx hb dX12_vote_22 rfl (lv_at hl 2 rfl) ?_
      refine lv_bipush (v := (-6 : Int32)) hx hb dX12_vote_23 (by decide) ?_
      refine gcallv (va_runV (As := [.int a1, .int a2, .int (-6 : Int32)]) (rest := []) ⟨hx, hb, hml, hown, ht⟩ (c_X12_fresh l D ci cz tr q0 q1 q2 q3 q4 q5 q6 H.size u0 u1 u2 u3 u4 u5 u6 u7 u8 u9 u10 u11 u12 zdogs zhungry zatLeft zatRight zhalves zlikes zfears zorder zwent zfill a1 a2 (-6 : Int32) _ hw) (cwV 3 ht (gi_V mM_X12_110 mI_X12_fresh mS_X12_fresh mN_X12 mC_X12_fresh) rfl rfl rfl (by decide +kernel) ⟨Nat.le_trans (Nat.le_of_ble_eq_true rfl) hfr, Nat.le_trans (Nat.le_of_ble_eq_true rfl) hlc⟩) (gpreV (wc := [(q0, .inr (11, [.int zdogs, .ref q1, .ref q2, u0, .ref q3, u1, .int zhungry, u2, u3, u4, u5, u6, u7, .ref q4, .ref q5, .ref q6, .int zatLeft, .int zatRight, u8, u9, u10, u11, u12])), (q1, .inl (ci, 7, .inl zhalves)), (q2, .inl (ci, 7, .inl zlikes)), (q3, .inl (ci, 7, .inl zfears)), (q4, .inl (ci, 7, .inl zorder)), (q5, .inl (ci, 7, .inl zwent)), (q6, .inl (ci, 7, .inl zfill))]) (k := 11) (q0 := 0) hK hZ hP hD hS hA [0, 1, 2, 3, 4, 5, 6] rfl rfl rfl rfl rfl) rfl rfl hl.1 rfl (lv_room (Nat.le_of_ble_eq_true rfl)) dX12_vote_25 ⟨Nat.zero_le _, Nat.zero_le _⟩) hD hS hA [0, 1, 2, 3, 4, 5, 6] rfl (fun w9 H locs hw hP9 hk9 hS => ?_)
      obtain ⟨zatLeft_4, zatRight_5, zorder_6, zwent_7, zfill_8, rfl, hw⟩ := hw
      have hP : va_P D vwCl [(q0, .inr (11, [.int zdogs, .ref q1, .ref q2, u0, .ref q3, u1, .int zhungry, u2, u3, u4, u5, u6, u7, .ref q4, .ref q5, .ref q6, .int zatLeft_4, .int zatRight_5, u8, u9, u10, u11, u12])), (q1, .inl (ci, 7, .inl zhalves)), (q2, .inl (ci, 7, .inl zlikes)), (q3, .inl (ci, 7, .inl zfears)), (q4, .inl (ci, 7, .inl zorder_6)), (q5, .inl (ci, 7, .inl zwent_7)), (q6, .inl (ci, 7, .inl zfill_8))] H := gjoin3 hP hD [0, 1, 2, 3, 4, 5, 6] hP9 hk9 rfl rfl [some 0, some 1, some 2, some 3, some 4, some 5, some 6] rfl rfl
      have hD : va_D A [(q0, .inr (11, [.int zdogs, .ref q1, .ref q2, u0, .ref q3, u1, .int zhungry, u2, u3, u4, u5, u6, u7, .ref q4, .ref q5, .ref q6, .int zatLeft_4, .int zatRight_5, u8, u9, u10, u11, u12])), (q1, .inl (ci, 7, .inl zhalves)), (q2, .inl (ci, 7, .inl zlikes)), (q3, .inl (ci, 7, .inl zfears)), (q4, .inl (ci, 7, .inl zorder_6)), (q5, .inl (ci, 7, .inl zwent_7)), (q6, .inl (ci, 7, .inl zfill_8))] := gD_re hD rfl
      clear hP9 hk9
      refine lv_iload_n hx hb dX12_vote_28 rfl (lv_at hl 3 rfl) ?_
      refine lv_if_ne (tgt := 39) hx hb dX12_vote_29 (by decide) (fun hc => ?_) (fun hc => ?_)
      · have hw := hw.1 hc
        refine lv_iload_n hx hb dX12_vote_39 rfl (lv_at hl 3 rfl) ?_
        refine lv_iconst (v := (1 : Int32)) hx hb dX12_vote_40 (by decide) ?_
        refine lv_icmp_ne (tgt := 51) hx hb dX12_vote_41 (by decide) (fun hc => ?_) (fun hc => ?_)
        · have hw := hw.1 hc
          refine lv_aload_n hx hb dX12_vote_51 rfl (lv_at hl 0 rfl) ?_
          refine gcalli (va_runV (As := []) (rest := []) ⟨hx, hb, hml, hown, ht⟩ (c_X12_winner l D ci cz tr q0 H.size (.int zdogs) (.ref q1) (.ref q2) u0 (.ref q3) u1 (.int zhungry) u2 u3 u4 u5 u6 u7 (.ref q4) (.ref q5) (.ref q6) u8 u9 u10 u11 u12 zatLeft_4 zatRight_5 _ hw) (cwV 0 ht (gi_V mM_X12_113 mI_X12_winner mS_X12_winner mN_X12 mC_X12_winner) rfl rfl rfl (by decide +kernel) ⟨Nat.le_trans (Nat.le_of_ble_eq_true rfl) hfr, Nat.le_trans (Nat.le_of_ble_eq_true rfl) hlc⟩) (gpreV (wc := [(q0, .inr (11, [.int zdogs, .ref q1, .ref q2, u0, .ref q3, u1, .int zhungry, u2, u3, u4, u5, u6, u7, .ref q4, .ref q5, .ref q6, .int zatLeft_4, .int zatRight_5, u8, u9, u10, u11, u12]))]) (k := 11) (q0 := 0) hK hZ hP hD hS hA [0] rfl rfl rfl rfl rfl) rfl rfl hl.1 rfl (lv_room (Nat.le_of_ble_eq_true rfl)) dX12_vote_52 ⟨Nat.zero_le _, Nat.zero_le _⟩) hD hS hA [0] rfl (fun r_9 w9 H locs hw hP9 hk9 hS => ?_)
          obtain ⟨rfl, hw⟩ := hw
          have hP : va_P D vwCl [(q0, .inr (11, [.int zdogs, .ref q1, .ref q2, u0, .ref q3, u1, .int zhungry, u2, u3, u4, u5, u6, u7, .ref q4, .ref q5, .ref q6, .int zatLeft_4, .int zatRight_5, u8, u9, u10, u11, u12])), (q1, .inl (ci, 7, .inl zhalves)), (q2, .inl (ci, 7, .inl zlikes)), (q3, .inl (ci, 7, .inl zfears)), (q4, .inl (ci, 7, .inl zorder_6)), (q5, .inl (ci, 7, .inl zwent_7)), (q6, .inl (ci, 7, .inl zfill_8))] H := gjoin3 hP hD [0] hP9 hk9 rfl rfl [some 0, none, none, none, none, none, none] rfl rfl
          clear hP9 hk9
          exact hret _ _ H locs _ _ ⟨_, _, _, _, _, rfl, hw⟩ hP hS dX12_vote_55
        · have hw := hw.2 hc
          refine lv_aload_n hx hb dX12_vote_44 rfl (lv_at hl 0 rfl) ?_
          refine va_get (D := D) (ci := 11) (v := .int zatRight_5) (C := RX12) (T := TX12) (N := 23) hx hb ht in_X12 hown hK.1 hP 0 rfl rfl 17 (by decide) (ht _ mF_X12_91) (fun _ h9 => h9) rfl dX12_vote_45 ?_
          refine lv_goto (tgt := 55) hx hb dX12_vote_48 (by decide) ?_
          exact hret _ _ H locs _ _ ⟨_, _, _, _, _, rfl, hw⟩ hP hS dX12_vote_55
      · have hw := hw.2 hc
        refine lv_aload_n hx hb dX12_vote_32 rfl (lv_at hl 0 rfl) ?_
        refine va_get (D := D) (ci := 11) (v := .int zatLeft_4) (C := RX12) (T := TX12) (N := 23) hx hb ht in_X12 hown hK.1 hP 0 rfl rfl 16 (by decide) (ht _ mF_X12_88) (fun _ h9 => h9) rfl dX12_vote_33 ?_
        refine lv_goto (tgt := 55) hx hb dX12_vote_36 (by decide) ?_
        exact hret _ _ H locs _ _ ⟨_, _, _, _, _, rfl, hw⟩ hP hS dX12_vote_55
    · have hw := hw.2 hc
      refine lv_bipush (v := (-2 : Int32)) hx hb dX12_vote_17 (by decide) ?_
      exact hret _ _ H locs _ _ ⟨_, _, _, _, _, rfl, hw⟩ hP hS dX12_vote_19
