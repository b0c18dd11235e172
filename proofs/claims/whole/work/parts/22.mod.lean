def wp_X12_image (zdogs : Int32) (zhungry : Int32) (zcounts : Int32) (zasked : Int32) (zhalves : Nat → Int32) (zlikes : Nat → Int32) (zisTold : Nat → Int32) (zfears : Nat → Int32) (zheirs : Nat → Int32) (zcount : Nat → Int32) (zquestion : Nat → Int32) (zimage : Nat → Int32) (zisKept : Nat → Int32) (a1 : Int32) (post : Int32 → (Nat → Int32) → (Nat → Int32) → Prop) : Prop :=
  wp_X12_in a1 (0 : Int32) (1 : Int32) (fun (r_1 : Int32) => ((¬ r_1 = 0 → jn (fun (zimage_2 : Nat → Int32) => jn (fun (zimage_3 : Nat → Int32) => jn (fun (zimage_4 : Nat → Int32) => (vp_in (((72 : Int32) * a1) + (68 : Int32)) 144 ∧ (vp_in (((72 : Int32) * a1) + (69 : Int32)) 144 ∧ (vp_in (((72 : Int32) * a1) + (70 : Int32)) 144 ∧ (vp_in (((72 : Int32) * a1) + (71 : Int32)) 144 ∧ (vp_in a1 2 ∧ post (1 : Int32) (upd (upd (upd (upd zimage_4 ((((72 : Int32) * a1) + (68 : Int32))).toNatClampNeg zdogs) ((((72 : Int32) * a1) + (69 : Int32))).toNatClampNeg zcounts) ((((72 : Int32) * a1) + (70 : Int32))).toNatClampNeg zasked) ((((72 : Int32) * a1) + (71 : Int32))).toNatClampNeg zhungry) (upd zisKept (a1).toNatClampNeg (vp_nar .boolean (1 : Int32))))))))) (fun (J183 : (Nat → Int32) → Prop) => lo (fun _ _ => False) (fun (G154 : Int32 → (Nat → Int32) → Prop) (x3_5 : Int32) (zimage_6 : Nat → Int32) => (((15 : Int32) ≤ x3_5 → J183 zimage_6) ∧ (¬ (15 : Int32) ≤ x3_5 → (vp_in x3_5 15 ∧ (vp_in ((((72 : Int32) * a1) + (53 : Int32)) + x3_5) 144 ∧ G154 (x3_5 + (1 : Int32)) (upd zimage_6 (((((72 : Int32) * a1) + (53 : Int32)) + x3_5)).toNatClampNeg (zquestion (x3_5).toNatClampNeg))))))) (fun G154 => G154 (0 : Int32) zimage_3))) (fun (J152 : (Nat → Int32) → Prop) => lo (fun _ _ => False) (fun (G123 : Int32 → (Nat → Int32) → Prop) (x3_7 : Int32) (zimage_8 : Nat → Int32) => (((18 : Int32) ≤ x3_7 → J152 zimage_8) ∧ (¬ (18 : Int32) ≤ x3_7 → (vp_in x3_7 18 ∧ (vp_in ((((72 : Int32) * a1) + (35 : Int32)) + x3_7) 144 ∧ G123 (x3_7 + (1 : Int32)) (upd zimage_8 (((((72 : Int32) * a1) + (35 : Int32)) + x3_7)).toNatClampNeg (zcount (x3_7).toNatClampNeg))))))) (fun G123 => G123 (0 : Int32) zimage_2))) (fun (J121 : (Nat → Int32) → Prop) => lo (fun _ _ => False) (fun (G19 : Int32 → (Nat → Int32) → Prop) (x3_9 : Int32) (zimage_10 : Nat → Int32) => (((7 : Int32) ≤ x3_9 → J121 zimage_10) ∧ (¬ (7 : Int32) ≤ x3_9 → (vp_in x3_9 7 ∧ (vp_in (((72 : Int32) * a1) + x3_9) 144 ∧ (vp_in x3_9 7 ∧ (vp_in ((((72 : Int32) * a1) + (7 : Int32)) + x3_9) 144 ∧ (vp_in x3_9 7 ∧ jn (fun (t_11 : Int32) => (vp_in ((((72 : Int32) * a1) + (14 : Int32)) + x3_9) 144 ∧ (vp_in x3_9 7 ∧ (vp_in ((((72 : Int32) * a1) + (21 : Int32)) + x3_9) 144 ∧ (vp_in x3_9 7 ∧ (vp_in ((((72 : Int32) * a1) + (28 : Int32)) + x3_9) 144 ∧ G19 (x3_9 + (1 : Int32)) (upd (upd (upd (upd (upd zimage_10 ((((72 : Int32) * a1) + x3_9)).toNatClampNeg (zhalves (x3_9).toNatClampNeg)) (((((72 : Int32) * a1) + (7 : Int32)) + x3_9)).toNatClampNeg (zlikes (x3_9).toNatClampNeg)) (((((72 : Int32) * a1) + (14 : Int32)) + x3_9)).toNatClampNeg t_11) (((((72 : Int32) * a1) + (21 : Int32)) + x3_9)).toNatClampNeg (zfears (x3_9).toNatClampNeg)) (((((72 : Int32) * a1) + (28 : Int32)) + x3_9)).toNatClampNeg (zheirs (x3_9).toNatClampNeg)))))))) (fun (J80 : Int32 → Prop) => (((zisTold (x3_9).toNatClampNeg) = 0 → J80 (0 : Int32)) ∧ (¬ (zisTold (x3_9).toNatClampNeg) = 0 → J80 (1 : Int32)))))))))))) (fun G19 => G19 (0 : Int32) zimage))) ∧ (r_1 = 0 → post (-2 : Int32) zimage zisKept)))
set_option maxHeartbeats 4000000 in
set_option maxRecDepth 100000 in
theorem c_X12_image (l : Launch) (D : va_G) (ci cz : ClassId) (tr : List (ClassId × FieldType)) (q0 q1 q2 q3 q4 q5 q6 q7 q8 q9 : Nat) (sz : Nat) (u0 u1 u2 u3 u4 u5 u6 u7 u8 u9 : Value) (zdogs : Int32) (zhungry : Int32) (zcounts : Int32) (zasked : Int32) (zhalves : Nat → Int32) (zlikes : Nat → Int32) (zisTold : Nat → Int32) (zfears : Nat → Int32) (zheirs : Nat → Int32) (zcount : Nat → Int32) (zquestion : Nat → Int32) (zimage : Nat → Int32) (zisKept : Nat → Int32) (a1 : Int32) (post : Int32 → (Nat → Int32) → (Nat → Int32) → Prop) (hw : wp_X12_image zdogs zhungry zcounts zasked zhalves zlikes zisTold zfears zheirs zcount zquestion zimage zisKept a1 post) : gM l yX12_image cX12_image 4 (some .int) 1 22 D ci cz tr [(q0, .inr (11, [.int zdogs, .ref q1, .ref q2, .ref q3, .ref q4, .ref q5, .int zhungry, .int zcounts, .ref q6, .int zasked, .ref q7, u0, u1, u2, u3, u4, u5, u6, u7, u8, u9, .ref q8, .ref q9])), (q1, .inl (ci, 7, .inl zhalves)), (q2, .inl (ci, 7, .inl zlikes)), (q3, .inl (cz, 7, .inl zisTold)), (q4, .inl (ci, 7, .inl zfears)), (q5, .inl (ci, 7, .inl zheirs)), (q6, .inl (ci, 18, .inl zcount)), (q7, .inl (ci, 15, .inl zquestion)), (q8, .inl (ci, 144, .inl zimage)), (q9, .inl (cz, 2, .inl zisKept))] sz [.ref q0, .int a1] (gQi D [(q0, .inr (11, [.int zdogs, .ref q1, .ref q2, .ref q3, .ref q4, .ref q5, .int zhungry, .int zcounts, .ref q6, .int zasked, .ref q7, u0, u1, u2, u3, u4, u5, u6, u7, u8, u9, .ref q8, .ref q9])), (q1, .inl (ci, 7, .inl zhalves)), (q2, .inl (ci, 7, .inl zlikes)), (q3, .inl (cz, 7, .inl zisTold)), (q4, .inl (ci, 7, .inl zfears)), (q5, .inl (ci, 7, .inl zheirs)), (q6, .inl (ci, 18, .inl zcount)), (q7, .inl (ci, 15, .inl zquestion)), (q8, .inl (ci, 144, .inl zimage)), (q9, .inl (cz, 2, .inl zisKept))] sz (fun (r : Int32) w => ∃ (o_zimage : Nat → Int32) (o_zisKept : Nat → Int32), w = [(q0, .inr (11, [.int zdogs, .ref q1, .ref q2, .ref q3, .ref q4, .ref q5, .int zhungry, .int zcounts, .ref q6, .int zasked, .ref q7, u0, u1, u2, u3, u4, u5, u6, u7, u8, u9, .ref q8, .ref q9])), (q1, .inl (ci, 7, .inl zhalves)), (q2, .inl (ci, 7, .inl zlikes)), (q3, .inl (cz, 7, .inl zisTold)), (q4, .inl (ci, 7, .inl zfears)), (q5, .inl (ci, 7, .inl zheirs)), (q6, .inl (ci, 18, .inl zcount)), (q7, .inl (ci, 15, .inl zquestion)), (q8, .inl (ci, 144, .inl o_zimage)), (q9, .inl (cz, 2, .inl o_zisKept))] ∧ post r o_zimage o_zisKept)) := by
  refine gmet_i RX12 (by decide +kernel) rfl (Nat.le_of_ble_eq_true rfl) ?_
  intro p e s m args below meth c A R Q C hfr hlc hP hD hret ls hl
  obtain ⟨hx, hb, hml, hown, ht, hK, hZ, hA⟩ := C
  have hl : lv_has ls 4 [(0, .ref q0), (1, .int a1)] := hl
  unfold wp_X12_image at hw
  refine g_in (fun H locs => W p l e R s m args below meth c H locs 0 0 Q (F0 m 0 ls [])) (fun H locs hS0 hP => ?_) hP (va_S.rf (A := A) (H0 := s.heap))
  have hS : va_S A s.heap H locs := hS0
  clear hS0
  refine lv_iload_n hx hb dX12_image_0 rfl (lv_at hl 1 rfl) ?_
  refine lv_iconst (v := (0 : Int32)) hx hb dX12_image_1 (by decide) ?_
  refine lv_iconst (v := (1 : Int32)) hx hb dX12_image_2 (by decide) ?_
  refine gcalli (va_runS (As := [.int a1, .int (0 : Int32), .int (1 : Int32)]) (rest := []) ⟨hx, hb, hml, hown, ht⟩ (c_X12_in l D ci cz tr  H.size a1 (0 : Int32) (1 : Int32) _ hw) (va_cwS 3 ht (gi_S mM_X12_66 mT_X12_in mN_X12 mC_X12_in) rfl rfl rfl (by decide +kernel) ⟨Nat.le_trans (Nat.le_of_ble_eq_true rfl) hfr, Nat.le_trans (Nat.le_of_ble_eq_true rfl) hlc⟩) (gpre (wc := []) hK hZ hP hD hS hA [] rfl rfl) rfl rfl hl.1 rfl (lv_room (Nat.le_of_ble_eq_true rfl)) dX12_image_3 ⟨Nat.zero_le _, Nat.zero_le _⟩) hD hS hA [] rfl (fun r_1 w9 H locs hw hP9 hk9 hS => ?_)
  obtain ⟨rfl, hw⟩ := hw
  have hP : va_P D vwCl [(q0, .inr (11, [.int zdogs, .ref q1, .ref q2, .ref q3, .ref q4, .ref q5, .int zhungry, .int zcounts, .ref q6, .int zasked, .ref q7, u0, u1, u2, u3, u4, u5, u6, u7, u8, u9, .ref q8, .ref q9])), (q1, .inl (ci, 7, .inl zhalves)), (q2, .inl (ci, 7, .inl zlikes)), (q3, .inl (cz, 7, .inl zisTold)), (q4, .inl (ci, 7, .inl zfears)), (q5, .inl (ci, 7, .inl zheirs)), (q6, .inl (ci, 18, .inl zcount)), (q7, .inl (ci, 15, .inl zquestion)), (q8, .inl (ci, 144, .inl zimage)), (q9, .inl (cz, 2, .inl zisKept))] H := gjoin3 hP hD [] hP9 hk9 rfl rfl [none, none, none, none, none, none, none, none, none, none] rfl rfl
  clear hP9 hk9
  refine lv_if_ne (tgt := 12) hx hb dX12_image_6 (by decide) (fun hc => ?_) (fun hc => ?_)
  · have hw := hw.1 hc
    refine lv_bipush (v := (72 : Int32)) hx hb dX12_image_12 (by decide) ?_
    refine lv_iload_n hx hb dX12_image_14 rfl (lv_at hl 1 rfl) ?_
    refine lv_imul hx hb dX12_image_15 ?_
    refine lv_istore_n (lv' := [(2, .int ((72 : Int32) * a1)), (0, .ref q0), (1, .int a1)]) hx hb dX12_image_16 rfl hl (by decide) rfl (fun ls hl => ?_)
    refine lv_iconst (v := (0 : Int32)) hx hb dX12_image_17 (by decide) ?_
    refine lv_istore_n (lv' := [(3, .int (0 : Int32)), (2, .int ((72 : Int32) * a1)), (0, .ref q0), (1, .int a1)]) hx hb dX12_image_18 rfl hl (by decide) rfl (fun ls hl => ?_)
    refine jn_walk hw (fun J121 => ∀ (zimage_2 : Nat → Int32) (H : Heap) (locs : List Loc) (ls : Array Slot), J121 zimage_2 → va_P D vwCl [(q0, .inr (11, [.int zdogs, .ref q1, .ref q2, .ref q3, .ref q4, .ref q5, .int zhungry, .int zcounts, .ref q6, .int zasked, .ref q7, u0, u1, u2, u3, u4, u5, u6, u7, u8, u9, .ref q8, .ref q9])), (q1, .inl (ci, 7, .inl zhalves)), (q2, .inl (ci, 7, .inl zlikes)), (q3, .inl (cz, 7, .inl zisTold)), (q4, .inl (ci, 7, .inl zfears)), (q5, .inl (ci, 7, .inl zheirs)), (q6, .inl (ci, 18, .inl zcount)), (q7, .inl (ci, 15, .inl zquestion)), (q8, .inl (ci, 144, .inl zimage_2)), (q9, .inl (cz, 2, .inl zisKept))] H → va_S A s.heap H locs → lv_has ls 4 [(0, .ref q0), (1, .int a1), (2, .int ((72 : Int32) * a1))] → W p l e R s m args below meth c H locs 0 0 Q (F0 m 121 ls [])) ?_ ?_
    · intro zimage_2 H locs ls hw hP hS hl
      have hD : va_D A [(q0, .inr (11, [.int zdogs, .ref q1, .ref q2, .ref q3, .ref q4, .ref q5, .int zhungry, .int zcounts, .ref q6, .int zasked, .ref q7, u0, u1, u2, u3, u4, u5, u6, u7, u8, u9, .ref q8, .ref q9])), (q1, .inl (ci, 7, .inl zhalves)), (q2, .inl (ci, 7, .inl zlikes)), (q3, .inl (cz, 7, .inl zisTold)), (q4, .inl (ci, 7, .inl zfears)), (q5, .inl (ci, 7, .inl zheirs)), (q6, .inl (ci, 18, .inl zcount)), (q7, .inl (ci, 15, .inl zquestion)), (q8, .inl (ci, 144, .inl zimage_2)), (q9, .inl (cz, 2, .inl zisKept))] := gD_re hD rfl
      refine lv_iconst (v := (0 : Int32)) hx hb dX12_image_121 (by decide) ?_
      refine lv_istore_n (lv' := [(3, .int (0 : Int32)), (0, .ref q0), (1, .int a1), (2, .int ((72 : Int32) * a1))]) hx hb dX12_image_122 rfl hl (by decide) rfl (fun ls hl => ?_)
      refine jn_walk hw (fun J152 => ∀ (zimage_3 : Nat → Int32) (H : Heap) (locs : List Loc) (ls : Array Slot), J152 zimage_3 → va_P D vwCl [(q0, .inr (11, [.int zdogs, .ref q1, .ref q2, .ref q3, .ref q4, .ref q5, .int zhungry, .int zcounts, .ref q6, .int zasked, .ref q7, u0, u1, u2, u3, u4, u5, u6, u7, u8, u9, .ref q8, .ref q9])), (q1, .inl (ci, 7, .inl zhalves)), (q2, .inl (ci, 7, .inl zlikes)), (q3, .inl (cz, 7, .inl zisTold)), (q4, .inl (ci, 7, .inl zfears)), (q5, .inl (ci, 7, .inl zheirs)), (q6, .inl (ci, 18, .inl zcount)), (q7, .inl (ci, 15, .inl zquestion)), (q8, .inl (ci, 144, .inl zimage_3)), (q9, .inl (cz, 2, .inl zisKept))] H → va_S A s.heap H locs → lv_has ls 4 [(0, .ref q0), (1, .int a1), (2, .int ((72 : Int32) * a1))] → W p l e R s m args below meth c H locs 0 0 Q (F0 m 152 ls [])) ?_ ?_
      · intro zimage_3 H locs ls hw hP hS hl
        have hD : va_D A [(q0, .inr (11, [.int zdogs, .ref q1, .ref q2, .ref q3, .ref q4, .ref q5, .int zhungry, .int zcounts, .ref q6, .int zasked, .ref q7, u0, u1, u2, u3, u4, u5, u6, u7, u8, u9, .ref q8, .ref q9])), (q1, .inl (ci, 7, .inl zhalves)), (q2, .inl (ci, 7, .inl zlikes)), (q3, .inl (cz, 7, .inl zisTold)), (q4, .inl (ci, 7, .inl zfears)), (q5, .inl (ci, 7, .inl zheirs)), (q6, .inl (ci, 18, .inl zcount)), (q7, .inl (ci, 15, .inl zquestion)), (q8, .inl (ci, 144, .inl zimage_3)), (q9, .inl (cz, 2, .inl zisKept))] := gD_re hD rfl
        refine lv_iconst (v := (0 : Int32)) hx hb dX12_image_152 (by decide) ?_
        refine lv_istore_n (lv' := [(3, .int (0 : Int32)), (0, .ref q0), (1, .int a1), (2, .int ((72 : Int32) * a1))]) hx hb dX12_image_153 rfl hl (by decide) rfl (fun ls hl => ?_)
        refine jn_walk hw (fun J183 => ∀ (zimage_4 : Nat → Int32) (H : Heap) (locs : List Loc) (ls : Array Slot), J183 zimage_4 → va_P D vwCl [(q0, .inr (11, [.int zdogs, .ref q1, .ref q2, .ref q3, .ref q4, .ref q5, .int zhungry, .int zcounts, .ref q6, .int zasked, .ref q7, u0, u1, u2, u3, u4, u5, u6, u7, u8, u9, .ref q8, .ref q9])), (q1, .inl (ci, 7, .inl zhalves)), (q2, .inl (ci, 7, .inl zlikes)), (q3, .inl (cz, 7, .inl zisTold)), (q4, .inl (ci, 7, .inl zfears)), (q5, .inl (ci, 7, .inl zheirs)), (q6, .inl (ci, 18, .inl zcount)), (q7, .inl (ci, 15, .inl zquestion)), (q8, .inl (ci, 144, .inl zimage_4)), (q9, .inl (cz, 2, .inl zisKept))] H → va_S A s.heap H locs → lv_has ls 4 [(0, .ref q0), (1, .int a1), (2, .int ((72 : Int32) * a1))] → W p l e R s m args below meth c H locs 0 0 Q (F0 m 183 ls [])) ?_ ?_
        · intro zimage_4 H locs ls hw hP hS hl
          have hD : va_D A [(q0, .inr (11, [.int zdogs, .ref q1, .ref q2, .ref q3, .ref q4, .ref q5, .int zhungry, .int zcounts, .ref q6, .int zasked, .ref q7, u0, u1, u2, u3, u4, u5, u6, u7, u8, u9, .ref q8, .ref q9])), (q1, .inl (ci, 7, .inl zhalves)), (q2, .inl (ci, 7, .inl zlikes)), (q3, .inl (cz, 7, .inl zisTold)), (q4, .inl (ci, 7, .inl zfears)), (q5, .inl (ci, 7, .inl zheirs)), (q6, .inl (ci, 18, .inl zcount)), (q7, .inl (ci, 15, .inl zquestion)), (q8, .inl (ci, 144, .inl zimage_4)), (q9, .inl (cz, 2, .inl zisKept))] := gD_re hD rfl
          refine lv_aload_n hx hb dX12_image_183 rfl (lv_at hl 0 rfl) ?_
          refine va_get (D := D) (ci := 11) (v := .ref q8) (C := RX12) (T := TX12) (N := 23) hx hb ht in_X12 hown hK.1 hP 0 rfl rfl 21 (by decide) (ht _ mF_X12_57) (fun _ h9 => h9) rfl dX12_image_184 ?_
          refine lv_iload_n hx hb dX12_image_187 rfl (lv_at hl 2 rfl) ?_
          refine lv_bipush (v := (68 : Int32)) hx hb dX12_image_188 (by decide) ?_
          refine lv_iadd hx hb dX12_image_190 ?_
          refine lv_aload_n hx hb dX12_image_191 rfl (lv_at hl 0 rfl) ?_
          refine va_get (D := D) (ci := 11) (v := .int zdogs) (C := RX12) (T := TX12) (N := 23) hx hb ht in_X12 hown hK.1 hP 0 rfl rfl 0 (by decide) (ht _ mF_X12_63) (fun _ h9 => h9) rfl dX12_image_192 ?_
          obtain ⟨hin, hw⟩ := hw
          refine va_iast (D := D) hx hb hK.1 hP hD hS 8 0 rfl rfl hin dX12_image_195 (fun H locs hP hD hS => ?_)
          have hP : va_P D vwCl [(q0, .inr (11, [.int zdogs, .ref q1, .ref q2, .ref q3, .ref q4, .ref q5, .int zhungry, .int zcounts, .ref q6, .int zasked, .ref q7, u0, u1, u2, u3, u4, u5, u6, u7, u8, u9, .ref q8, .ref q9])), (q1, .inl (ci, 7, .inl zhalves)), (q2, .inl (ci, 7, .inl zlikes)), (q3, .inl (cz, 7, .inl zisTold)), (q4, .inl (ci, 7, .inl zfears)), (q5, .inl (ci, 7, .inl zheirs)), (q6, .inl (ci, 18, .inl zcount)), (q7, .inl (ci, 15, .inl zquestion)), (q8, .inl (ci, 144, .inl (upd zimage_4 ((((72 : Int32) * a1) + (68 : Int32))).toNatClampNeg zdogs))), (q9, .inl (cz, 2, .inl zisKept))] H := hP
          have hD : va_D A [(q0, .inr (11, [.int zdogs, .ref q1, .ref q2, .ref q3, .ref q4, .ref q5, .int zhungry, .int zcounts, .ref q6, .int zasked, .ref q7, u0, u1, u2, u3, u4, u5, u6, u7, u8, u9, .ref q8, .ref q9])), (q1, .inl (ci, 7, .inl zhalves)), (q2, .inl (ci, 7, .inl zlikes)), (q3, .inl (cz, 7, .inl zisTold)), (q4, .inl (ci, 7, .inl zfears)), (q5, .inl (ci, 7, .inl zheirs)), (q6, .inl (ci, 18, .inl zcount)), (q7, .inl (ci, 15, .inl zquestion)), (q8, .inl (ci, 144, .inl (upd zimage_4 ((((72 : Int32) * a1) + (68 : Int32))).toNatClampNeg zdogs))), (q9, .inl (cz, 2, .inl zisKept))] := hD
          refine lv_aload_n hx hb dX12_image_196 rfl (lv_at hl 0 rfl) ?_
          refine va_get (D := D) (ci := 11) (v := .ref q8) (C := RX12) (T := TX12) (N := 23) hx hb ht in_X12 hown hK.1 hP 0 rfl rfl 21 (by decide) (ht _ mF_X12_57) (fun _ h9 => h9) rfl dX12_image_197 ?_
          refine lv_iload_n hx hb dX12_image_200 rfl (lv_at hl 2 rfl) ?_
          refine lv_bipush (v := (69 : Int32)) hx hb dX12_image_201 (by decide) ?_
          refine lv_iadd hx hb dX12_image_203 ?_
          refine lv_aload_n hx hb dX12_image_204 rfl (lv_at hl 0 rfl) ?_
          refine va_get (D := D) (ci := 11) (v := .int zcounts) (C := RX12) (T := TX12) (N := 23) hx hb ht in_X12 hown hK.1 hP 0 rfl rfl 7 (by decide) (ht _ mF_X12_77) (fun _ h9 => h9) rfl dX12_image_205 ?_
          obtain ⟨hin, hw⟩ := hw
          refine va_iast (D := D) hx hb hK.1 hP hD hS 8 0 rfl rfl hin dX12_image_208 (fun H locs hP hD hS => ?_)
          have hP : va_P D vwCl [(q0, .inr (11, [.int zdogs, .ref q1, .ref q2, .ref q3, .ref q4, .ref q5, .int zhungry, .int zcounts, .ref q6, .int zasked, .ref q7, u0, u1, u2, u3, u4, u5, u6, u7, u8, u9, .ref q8, .ref q9])), (q1, .inl (ci, 7, .inl zhalves)), (q2, .inl (ci, 7, .inl zlikes)), (q3, .inl (cz, 7, .inl zisTold)), (q4, .inl (ci, 7, .inl zfears)), (q5, .inl (ci, 7, .inl zheirs)), (q6, .inl (ci, 18, .inl zcount)), (q7, .inl (ci, 15, .inl zquestion)), (q8, .inl (ci, 144, .inl (upd (upd zimage_4 ((((72 : Int32) * a1) + (68 : Int32))).toNatClampNeg zdogs) ((((72 : Int32) * a1) + (69 : Int32))).toNatClampNeg zcounts))), (q9, .inl (cz, 2, .inl zisKept))] H := hP
          have hD : va_D A [(q0, .inr (11, [.int zdogs, .ref q1, .ref q2, .ref q3, .ref q4, .ref q5, .int zhungry, .int zcounts, .ref q6, .int zasked, .ref q7, u0, u1, u2, u3, u4, u5, u6, u7, u8, u9, .ref q8, .ref q9])), (q1, .inl (ci, 7, .inl zhalves)), (q2, .inl (ci, 7, .inl zlikes)), (q3, .inl (cz, 7, .inl zisTold)), (q4, .inl (ci, 7, .inl zfears)), (q5, .inl (ci, 7, .inl zheirs)), (q6, .inl (ci, 18, .inl zcount)), (q7, .inl (ci, 15, .inl zquestion)), (q8, .inl (ci, 144, .inl (upd (upd zimage_4 ((((72 : Int32) * a1) + (68 : Int32))).toNatClampNeg zdogs) ((((72 : Int32) * a1) + (69 : Int32))).toNatClampNeg zcounts))), (q9, .inl (cz, 2, .inl zisKept))] := hD
          refine lv_aload_n hx hb dX12_image_209 rfl (lv_at hl 0 rfl) ?_
          refine va_get (D := D) (ci := 11) (v := .ref q8) (C := RX12) (T := TX12) (N := 23) hx hb ht in_X12 hown hK.1 hP 0 rfl rfl 21 (by decide) (ht _ mF_X12_57) (fun _ h9 => h9) rfl dX12_image_210 ?_
          refine lv_iload_n hx hb dX12_image_213 rfl (lv_at hl 2 rfl) ?_
          refine lv_bipush (v := (70 : Int32)) hx hb dX12_image_214 (by decide) ?_
          refine lv_iadd hx hb dX12_image_216 ?_
          refine lv_aload_n hx hb dX12_image_217 rfl (lv_at hl 0 rfl) ?_
          refine va_get (D := D) (ci := 11) (v := .int zasked) (C := RX12) (T := TX12) (N := 23) hx hb ht in_X12 hown hK.1 hP 0 rfl rfl 9 (by decide) (ht _ mF_X12_165) (fun _ h9 => h9) rfl dX12_image_218 ?_
          obtain ⟨hin, hw⟩ := hw
          refine va_iast (D := D) hx hb hK.1 hP hD hS 8 0 rfl rfl hin dX12_image_221 (fun H locs hP hD hS => ?_)
          have hP : va_P D vwCl [(q0, .inr (11, [.int zdogs, .ref q1, .ref q2, .ref q3, .ref q4, .ref q5, .int zhungry, .int zcounts, .ref q6, .int zasked, .ref q7, u0, u1, u2, u3, u4, u5, u6, u7, u8, u9, .ref q8, .ref q9])), (q1, .inl (ci, 7, .inl zhalves)), (q2, .inl (ci, 7, .inl zlikes)), (q3, .inl (cz, 7, .inl zisTold)), (q4, .inl (ci, 7, .inl zfears)), (q5, .inl (ci, 7, .inl zheirs)), (q6, .inl (ci, 18, .inl zcount)), (q7, .inl (ci, 15, .inl zquestion)), (q8, .inl (ci, 144, .inl (upd (upd (upd zimage_4 ((((72 : Int32) * a1) + (68 : Int32))).toNatClampNeg zdogs) ((((72 : Int32) * a1) + (69 : Int32))).toNatClampNeg zcounts) ((((72 : Int32) * a1) + (70 : Int32))).toNatClampNeg zasked))), (q9, .inl (cz, 2, .inl zisKept))] H := hP
          have hD : va_D A [(q0, .inr (11, [.int zdogs, .ref q1, .ref q2, .ref q3, .ref q4, .ref q5, .int zhungry, .int zcounts, .ref q6, .int zasked, .ref q7, u0, u1, u2, u3, u4, u5, u6, u7, u8, u9, .ref q8, .ref q9])), (q1, .inl (ci, 7, .inl zhalves)), (q2, .inl (ci, 7, .inl zlikes)), (q3, .inl (cz, 7, .inl zisTold)), (q4, .inl (ci, 7, .inl zfears)), (q5, .inl (ci, 7, .inl zheirs)), (q6, .inl (ci, 18, .inl zcount)), (q7, .inl (ci, 15, .inl zquestion)), (q8, .inl (ci, 144, .inl (upd (upd (upd zimage_4 ((((72 : Int32) * a1) + (68 : Int32))).toNatClampNeg zdogs) ((((72 : Int32) * a1) + (69 : Int32))).toNatClampNeg zcounts) ((((72 : Int32) * a1) + (70 : Int32))).toNatClampNeg zasked))), (q9, .inl (cz, 2, .inl zisKept))] := hD
          refine lv_aload_n hx hb dX12_image_222 rfl (lv_at hl 0 rfl) ?_
          refine va_get (D := D) (ci := 11) (v := .ref q8) (C := RX12) (T := TX12) (N := 23) hx hb ht in_X12 hown hK.1 hP 0 rfl rfl 21 (by decide) (ht _ mF_X12_57) (fun _ h9 => h9) rfl dX12_image_223 ?_
          refine lv_iload_n hx hb dX12_image_226 rfl (lv_at hl 2 rfl) ?_
          refine lv_bipush (v := (71 : Int32)) hx hb dX12_image_227 (by decide) ?_
          refine lv_iadd hx hb dX12_image_229 ?_
          refine lv_aload_n hx hb dX12_image_230 rfl (lv_at hl 0 rfl) ?_
          refine va_get (D := D) (ci := 11) (v := .int zhungry) (C := RX12) (T := TX12) (N := 23) hx hb ht in_X12 hown hK.1 hP 0 rfl rfl 6 (by decide) (ht _ mF_X12_26) (fun _ h9 => h9) rfl dX12_image_231 ?_
          obtain ⟨hin, hw⟩ := hw
          refine va_iast (D := D) hx hb hK.1 hP hD hS 8 0 rfl rfl hin dX12_image_234 (fun H locs hP hD hS => ?_)
          have hP : va_P D vwCl [(q0, .inr (11, [.int zdogs, .ref q1, .ref q2, .ref q3, .ref q4, .ref q5, .int zhungry, .int zcounts, .ref q6, .int zasked, .ref q7, u0, u1, u2, u3, u4, u5, u6, u7, u8, u9, .ref q8, .ref q9])), (q1, .inl (ci, 7, .inl zhalves)), (q2, .inl (ci, 7, .inl zlikes)), (q3, .inl (cz, 7, .inl zisTold)), (q4, .inl (ci, 7, .inl zfears)), (q5, .inl (ci, 7, .inl zheirs)), (q6, .inl (ci, 18, .inl zcount)), (q7, .inl (ci, 15, .inl zquestion)), (q8, .inl (ci, 144, .inl (upd (upd (upd (upd zimage_4 ((((72 : Int32) * a1) + (68 : Int32))).toNatClampNeg zdogs) ((((72 : Int32) * a1) + (69 : Int32))).toNatClampNeg zcounts) ((((72 : Int32) * a1) + (70 : Int32))).toNatClampNeg zasked) ((((72 : Int32) * a1) + (71 : Int32))).toNatClampNeg zhungry))), (q9, .inl (cz, 2, .inl zisKept))] H := hP
          have hD : va_D A [(q0, .inr (11, [.int zdogs, .ref q1, .ref q2, .ref q3, .ref q4, .ref q5, .int zhungry, .int zcounts, .ref q6, .int zasked, .ref q7, u0, u1, u2, u3, u4, u5, u6, u7, u8, u9, .ref q8, .ref q9])), (q1, .inl (ci, 7, .inl zhalves)), (q2, .inl (ci, 7, .inl zlikes)), (q3, .inl (cz, 7, .inl zisTold)), (q4, .inl (ci, 7, .inl zfears)), (q5, .inl (ci, 7, .inl zheirs)), (q6, .inl (ci, 18, .inl zcount)), (q7, .inl (ci, 15, .inl zquestion)), (q8, .inl (ci, 144, .inl (upd (upd (upd (upd zimage_4 ((((72 : Int32) * a1) + (68 : Int32))).toNatClampNeg zdogs) ((((72 : Int32) * a1) + (69 : Int32))).toNatClampNeg zcounts) ((((72 : Int32) * a1) + (70 : Int32))).toNatClampNeg zasked) ((((72 : Int32) * a1) + (71 : Int32))).toNatClampNeg zhungry))), (q9, .inl (cz, 2, .inl zisKept))] := hD
          refine lv_aload_n hx hb dX12_image_235 rfl (lv_at hl 0 rfl) ?_
          refine va_get (D := D) (ci := 11) (v := .ref q9) (C := RX12) (T := TX12) (N := 23) hx hb ht in_X12 hown hK.1 hP 0 rfl rfl 22 (by decide) (ht _ mF_X12_60) (fun _ h9 => h9) rfl dX12_image_236 ?_
          refine lv_iload_n hx hb dX12_image_239 rfl (lv_at hl 1 rfl) ?_
          refine lv_iconst (v := (1 : Int32)) hx hb dX12_image_240 (by decide) ?_
          obtain ⟨hin, hw⟩ := hw
          refine va_zast (D := D) hx hb hK.1 hP hD hS 9 1 rfl rfl hin dX12_image_241 (fun H locs hP hD hS => ?_)
          have hP : va_P D vwCl [(q0, .inr (11, [.int zdogs, .ref q1, .ref q2, .ref q3, .ref q4, .ref q5, .int zhungry, .int zcounts, .ref q6, .int zasked, .ref q7, u0, u1, u2, u3, u4, u5, u6, u7, u8, u9, .ref q8, .ref q9])), (q1, .inl (ci, 7, .inl zhalves)), (q2, .inl (ci, 7, .inl zlikes)), (q3, .inl (cz, 7, .inl zisTold)), (q4, .inl (ci, 7, .inl zfears)), (q5, .inl (ci, 7, .inl zheirs)), (q6, .inl (ci, 18, .inl zcount)), (q7, .inl (ci, 15, .inl zquestion)), (q8, .inl (ci, 144, .inl (upd (upd (upd (upd zimage_4 ((((72 : Int32) * a1) + (68 : Int32))).toNatClampNeg zdogs) ((((72 : Int32) * a1) + (69 : Int32))).toNatClampNeg zcounts) ((((72 : Int32) * a1) + (70 : Int32))).toNatClampNeg zasked) ((((72 : Int32) * a1) + (71 : Int32))).toNatClampNeg zhungry))), (q9, .inl (cz, 2, .inl (upd zisKept (a1).toNatClampNeg (vp_nar .boolean (1 : Int32)))))] H := hP
          have hD : va_D A [(q0, .inr (11, [.int zdogs, .ref q1, .ref q2, .ref q3, .ref q4, .ref q5, .int zhungry, .int zcounts, .ref q6, .int zasked, .ref q7, u0, u1, u2, u3, u4, u5, u6, u7, u8, u9, .ref q8, .ref q9])), (q1, .inl (ci, 7, .inl zhalves)), (q2, .inl (ci, 7, .inl zlikes)), (q3, .inl (cz, 7, .inl zisTold)), (q4, .inl (ci, 7, .inl zfears)), (q5, .inl (ci, 7, .inl zheirs)), (q6, .inl (ci, 18, .inl zcount)), (q7, .inl (ci, 15, .inl zquestion)), (q8, .inl (ci, 144, .inl (upd (upd (upd (upd zimage_4 ((((72 : Int32) * a1) + (68 : Int32))).toNatClampNeg zdogs) ((((72 : Int32) * a1) + (69 : Int32))).toNatClampNeg zcounts) ((((72 : Int32) * a1) + (70 : Int32))).toNatClampNeg zasked) ((((72 : Int32) * a1) + (71 : Int32))).toNatClampNeg zhungry))), (q9, .inl (cz, 2, .inl (upd zisKept (a1).toNatClampNeg (vp_nar .boolean (1 : Int32)))))] := hD
          refine lv_iconst (v := (1 : Int32)) hx hb dX12_image_242 (by decide) ?_
          exact hret _ _ H locs _ _ ⟨_, _, rfl, hw⟩ hP hS dX12_image_243
        · intro J183 hJ183 hw
          refine lo_walk hw (fun G154 => ∀ (x3_5 : Int32) (zimage_6 : Nat → Int32) (H : Heap) (locs : List Loc) (ls : Array Slot), G154 x3_5 zimage_6 → va_P D vwCl [(q0, .inr (11, [.int zdogs, .ref q1, .ref q2, .ref q3, .ref q4, .ref q5, .int zhungry, .int zcounts, .ref q6, .int zasked, .ref q7, u0, u1, u2, u3, u4, u5, u6, u7, u8, u9, .ref q8, .ref q9])), (q1, .inl (ci, 7, .inl zhalves)), (q2, .inl (ci, 7, .inl zlikes)), (q3, .inl (cz, 7, .inl zisTold)), (q4, .inl (ci, 7, .inl zfears)), (q5, .inl (ci, 7, .inl zheirs)), (q6, .inl (ci, 18, .inl zcount)), (q7, .inl (ci, 15, .inl zquestion)), (q8, .inl (ci, 144, .inl zimage_6)), (q9, .inl (cz, 2, .inl zisKept))] H → va_S A s.heap H locs → lv_has ls 4 [(0, .ref q0), (1, .int a1), (2, .int ((72 : Int32) * a1)), (3, .int x3_5)] → W p l e R s m args below meth c H locs 0 0 Q (F0 m 154 ls [])) (fun _ _ _ _ _ hw _ _ _ => False.elim hw) (fun G154 hG154 x3_5 zimage_6 H locs ls hw hP hS hl => ?_) (fun G154 hG154 hw => hG154 _ _ H locs ls hw hP hS (lv_sub hl [1, 2, 3, 0] rfl))
          have hD : va_D A [(q0, .inr (11, [.int zdogs, .ref q1, .ref q2, .ref q3, .ref q4, .ref q5, .int zhungry, .int zcounts, .ref q6, .int zasked, .ref q7, u0, u1, u2, u3, u4, u5, u6, u7, u8, u9, .ref q8, .ref q9])), (q1, .inl (ci, 7, .inl zhalves)), (q2, .inl (ci, 7, .inl zlikes)), (q3, .inl (cz, 7, .inl zisTold)), (q4, .inl (ci, 7, .inl zfears)), (q5, .inl (ci, 7, .inl zheirs)), (q6, .inl (ci, 18, .inl zcount)), (q7, .inl (ci, 15, .inl zquestion)), (q8, .inl (ci, 144, .inl zimage_6)), (q9, .inl (cz, 2, .inl zisKept))] := gD_re hD rfl
          refine lv_iload_n hx hb dX12_image_154 rfl (lv_at hl 3 rfl) ?_
          refine lv_bipush (v := (15 : Int32)) hx hb dX12_image_155 (by decide) ?_
          refine lv_icmp_ge (tgt := 183) hx hb dX12_image_157 (by decide) (fun hc => ?_) (fun hc => ?_)
          · have hw := hw.1 hc
            exact hJ183 _ H locs ls hw hP hS (lv_sub hl [0, 1, 2] rfl)
          · have hw := hw.2 hc
            refine lv_aload_n hx hb dX12_image_160 rfl (lv_at hl 0 rfl) ?_
            refine va_get (D := D) (ci := 11) (v := .ref q8) (C := RX12) (T := TX12) (N := 23) hx hb ht in_X12 hown hK.1 hP 0 rfl rfl 21 (by decide) (ht _ mF_X12_57) (fun _ h9 => h9) rfl dX12_image_161 ?_
            refine lv_iload_n hx hb dX12_image_164 rfl (lv_at hl 2 rfl) ?_
            refine lv_bipush (v := (53 : Int32)) hx hb dX12_image_165 (by decide) ?_
            refine lv_iadd hx hb dX12_image_167 ?_
            refine lv_iload_n hx hb dX12_image_168 rfl (lv_at hl 3 rfl) ?_
            refine lv_iadd hx hb dX12_image_169 ?_
            refine lv_aload_n hx hb dX12_image_170 rfl (lv_at hl 0 rfl) ?_
            refine va_get (D := D) (ci := 11) (v := .ref q7) (C := RX12) (T := TX12) (N := 23) hx hb ht in_X12 hown hK.1 hP 0 rfl rfl 10 (by decide) (ht _ mF_X12_33) (fun _ h9 => h9) rfl dX12_image_171 ?_
            refine lv_iload_n hx hb dX12_image_174 rfl (lv_at hl 3 rfl) ?_
            obtain ⟨hin, hw⟩ := hw
            refine va_iald (D := D) hx hb hK.1 hP 7 0 rfl rfl hin dX12_image_175 ?_
            obtain ⟨hin, hw⟩ := hw
            refine va_iast (D := D) hx hb hK.1 hP hD hS 8 0 rfl rfl hin dX12_image_176 (fun H locs hP hD hS => ?_)
            have hP : va_P D vwCl [(q0, .inr (11, [.int zdogs, .ref q1, .ref q2, .ref q3, .ref q4, .ref q5, .int zhungry, .int zcounts, .ref q6, .int zasked, .ref q7, u0, u1, u2, u3, u4, u5, u6, u7, u8, u9, .ref q8, .ref q9])), (q1, .inl (ci, 7, .inl zhalves)), (q2, .inl (ci, 7, .inl zlikes)), (q3, .inl (cz, 7, .inl zisTold)), (q4, .inl (ci, 7, .inl zfears)), (q5, .inl (ci, 7, .inl zheirs)), (q6, .inl (ci, 18, .inl zcount)), (q7, .inl (ci, 15, .inl zquestion)), (q8, .inl (ci, 144, .inl (upd zimage_6 (((((72 : Int32) * a1) + (53 : Int32)) + x3_5)).toNatClampNeg (zquestion (x3_5).toNatClampNeg)))), (q9, .inl (cz, 2, .inl zisKept))] H := hP
            have hD : va_D A [(q0, .inr (11, [.int zdogs, .ref q1, .ref q2, .ref q3, .ref q4, .ref q5, .int zhungry, .int zcounts, .ref q6, .int zasked, .ref q7, u0, u1, u2, u3, u4, u5, u6, u7, u8, u9, .ref q8, .ref q9])), (q1, .inl (ci, 7, .inl zhalves)), (q2, .inl (ci, 7, .inl zlikes)), (q3, .inl (cz, 7, .inl zisTold)), (q4, .inl (ci, 7, .inl zfears)), (q5, .inl (ci, 7, .inl zheirs)), (q6, .inl (ci, 18, .inl zcount)), (q7, .inl (ci, 15, .inl zquestion)), (q8, .inl (ci, 144, .inl (upd zimage_6 (((((72 : Int32) * a1) + (53 : Int32)) + x3_5)).toNatClampNeg (zquestion (x3_5).toNatClampNeg)))), (q9, .inl (cz, 2, .inl zisKept))] := hD
            refine lv_iinc (v := (x3_5 + (1 : Int32))) (lv' := [(3, .int (x3_5 + (1 : Int32))), (0, .ref q0), (1, .int a1), (2, .int ((72 : Int32) * a1))]) hx hb dX12_image_177 hl (k := 3) rfl rfl (by decide) rfl (fun ls hl => ?_)
            refine lv_goto (tgt := 154) hx hb dX12_image_180 (by decide) ?_
            exact hG154 _ _ H locs ls hw hP hS (lv_sub hl [1, 2, 3, 0] rfl)
      · intro J152 hJ152 hw
        refine lo_walk hw (fun G123 => ∀ (x3_7 : Int32) (zimage_8 : Nat → Int32) (H : Heap) (locs : List Loc) (ls : Array Slot), G123 x3_7 zimage_8 → va_P D vwCl [(q0, .inr (11, [.int zdogs, .ref q1, .ref q2, .ref q3, .ref q4, .ref q5, .int zhungry, .int zcounts, .ref q6, .int zasked, .ref q7, u0, u1, u2, u3, u4, u5, u6, u7, u8, u9, .ref q8, .ref q9])), (q1, .inl (ci, 7, .inl zhalves)), (q2, .inl (ci, 7, .inl zlikes)), (q3, .inl (cz, 7, .inl zisTold)), (q4, .inl (ci, 7, .inl zfears)), (q5, .inl (ci, 7, .inl zheirs)), (q6, .inl (ci, 18, .inl zcount)), (q7, .inl (ci, 15, .inl zquestion)), (q8, .inl (ci, 144, .inl zimage_8)), (q9, .inl (cz, 2, .inl zisKept))] H → va_S A s.heap H locs → lv_has ls 4 [(0, .ref q0), (1, .int a1), (2, .int ((72 : Int32) * a1)), (3, .int x3_7)] → W p l e R s m args below meth c H locs 0 0 Q (F0 m 123 ls [])) (fun _ _ _ _ _ hw _ _ _ => False.elim hw) (fun G123 hG123 x3_7 zimage_8 H locs ls hw hP hS hl => ?_) (fun G123 hG123 hw => hG123 _ _ H locs ls hw hP hS (lv_sub hl [1, 2, 3, 0] rfl))
        have hD : va_D A [(q0, .inr (11, [.int zdogs, .ref q1, .ref q2, .ref q3, .ref q4, .ref q5, .int zhungry, .int zcounts, .ref q6, .int zasked, .ref q7, u0, u1, u2, u3, u4, u5, u6, u7, u8, u9, .ref q8, .ref q9])), (q1, .inl (ci, 7, .inl zhalves)), (q2, .inl (ci, 7, .inl zlikes)), (q3, .inl (cz, 7, .inl zisTold)), (q4, .inl (ci, 7, .inl zfears)), (q5, .inl (ci, 7, .inl zheirs)), (q6, .inl (ci, 18, .inl zcount)), (q7, .inl (ci, 15, .inl zquestion)), (q8, .inl (ci, 144, .inl zimage_8)), (q9, .inl (cz, 2, .inl zisKept))] := gD_re hD rfl
        refine lv_iload_n hx hb dX12_image_123 rfl (lv_at hl 3 rfl) ?_
        refine lv_bipush (v := (18 : Int32)) hx hb dX12_image_124 (by decide) ?_
        refine lv_icmp_ge (tgt := 152) hx hb dX12_image_126 (by decide) (fun hc => ?_) (fun hc => ?_)
        · have hw := hw.1 hc
          exact hJ152 _ H locs ls hw hP hS (lv_sub hl [0, 1, 2] rfl)
        · have hw := hw.2 hc
          refine lv_aload_n hx hb dX12_image_129 rfl (lv_at hl 0 rfl) ?_
          refine va_get (D := D) (ci := 11) (v := .ref q8) (C := RX12) (T := TX12) (N := 23) hx hb ht in_X12 hown hK.1 hP 0 rfl rfl 21 (by decide) (ht _ mF_X12_57) (fun _ h9 => h9) rfl dX12_image_130 ?_
          refine lv_iload_n hx hb dX12_image_133 rfl (lv_at hl 2 rfl) ?_
          refine lv_bipush (v := (35 : Int32)) hx hb dX12_image_134 (by decide) ?_
          refine lv_iadd hx hb dX12_image_136 ?_
          refine lv_iload_n hx hb dX12_image_137 rfl (lv_at hl 3 rfl) ?_
          refine lv_iadd hx hb dX12_image_138 ?_
          refine lv_aload_n hx hb dX12_image_139 rfl (lv_at hl 0 rfl) ?_
          refine va_get (D := D) (ci := 11) (v := .ref q6) (C := RX12) (T := TX12) (N := 23) hx hb ht in_X12 hown hK.1 hP 0 rfl rfl 8 (by decide) (ht _ mF_X12_30) (fun _ h9 => h9) rfl dX12_image_140 ?_
          refine lv_iload_n hx hb dX12_image_143 rfl (lv_at hl 3 rfl) ?_
          obtain ⟨hin, hw⟩ := hw
          refine va_iald (D := D) hx hb hK.1 hP 6 0 rfl rfl hin dX12_image_144 ?_
          obtain ⟨hin, hw⟩ := hw
          refine va_iast (D := D) hx hb hK.1 hP hD hS 8 0 rfl rfl hin dX12_image_145 (fun H locs hP hD hS => ?_)
          have hP : va_P D vwCl [(q0, .inr (11, [.int zdogs, .ref q1, .ref q2, .ref q3, .ref q4, .ref q5, .int zhungry, .int zcounts, .ref q6, .int zasked, .ref q7, u0, u1, u2, u3, u4, u5, u6, u7, u8, u9, .ref q8, .ref q9])), (q1, .inl (ci, 7, .inl zhalves)), (q2, .inl (ci, 7, .inl zlikes)), (q3, .inl (cz, 7, .inl zisTold)), (q4, .inl (ci, 7, .inl zfears)), (q5, .inl (ci, 7, .inl zheirs)), (q6, .inl (ci, 18, .inl zcount)), (q7, .inl (ci, 15, .inl zquestion)), (q8, .inl (ci, 144, .inl (upd zimage_8 (((((72 : Int32) * a1) + (35 : Int32)) + x3_7)).toNatClampNeg (zcount (x3_7).toNatClampNeg)))), (q9, .inl (cz, 2, .inl zisKept))] H := hP
          have hD : va_D A [(q0, .inr (11, [.int zdogs, .ref q1, .ref q2, .ref q3, .ref q4, .ref q5, .int zhungry, .int zcounts, .ref q6, .int zasked, .ref q7, u0, u1, u2, u3, u4, u5, u6, u7, u8, u9, .ref q8, .ref q9])), (q1, .inl (ci, 7, .inl zhalves)), (q2, .inl (ci, 7, .inl zlikes)), (q3, .inl (cz, 7, .inl zisTold)), (q4, .inl (ci, 7, .inl zfears)), (q5, .inl (ci, 7, .inl zheirs)), (q6, .inl (ci, 18, .inl zcount)), (q7, .inl (ci, 15, .inl zquestion)), (q8, .inl (ci, 144, .inl (upd zimage_8 (((((72 : Int32) * a1) + (35 : Int32)) + x3_7)).toNatClampNeg (zcount (x3_7).toNatClampNeg)))), (q9, .inl (cz, 2, .inl zisKept))] := hD
          refine lv_iinc (v := (x3_7 + (1 : Int32))) (lv' := [(3, .int (x3_7 + (1 : Int32))), (0, .ref q0), (1, .int a1), (2, .int ((72 : Int32) * a1))]) hx hb dX12_image_146 hl (k := 3) rfl rfl (by decide) rfl (fun ls hl => ?_)
          refine lv_goto (tgt := 123) hx hb dX12_image_149 (by decide) ?_
          exact hG123 _ _ H locs ls hw hP hS (lv_sub hl [1, 2, 3, 0] rfl)
    · intro J121 hJ121 hw
      refine lo_walk hw (fun G19 => ∀ (x3_9 : Int32) (zimage_10 : Nat → Int32) (H : Heap) (locs : List Loc) (ls : Array Slot), G19 x3_9 zimage_10 → va_P D vwCl [(q0, .inr (11, [.int zdogs, .ref q1, .ref q2, .ref q3, .ref q4, .ref q5, .int zhungry, .int zcounts, .ref q6, .int zasked, .ref q7, u0, u1, u2, u3, u4, u5, u6, u7, u8, u9, .ref q8, .ref q9])), (q1, .inl (ci, 7, .inl zhalves)), (q2, .inl (ci, 7, .inl zlikes)), (q3, .inl (cz, 7, .inl zisTold)), (q4, .inl (ci, 7, .inl zfears)), (q5, .inl (ci, 7, .inl zheirs)), (q6, .inl (ci, 18, .inl zcount)), (q7, .inl (ci, 15, .inl zquestion)), (q8, .inl (ci, 144, .inl zimage_10)), (q9, .inl (cz, 2, .inl zisKept))] H → va_S A s.heap H locs → lv_has ls 4 [(0, .ref q0), (1, .int a1), (2, .int ((72 : Int32) * a1)), (3, .int x3_9)] → W p l e R s m args below meth c H locs 0 0 Q (F0 m 19 ls [])) (fun _ _ _ _ _ hw _ _ _ => False.elim hw) (fun G19 hG19 x3_9 zimage_10 H locs ls hw hP hS hl => ?_) (fun G19 hG19 hw => hG19 _ _ H locs ls hw hP hS (lv_sub hl [2, 3, 1, 0] rfl))
      have hD : va_D A [(q0, .inr (11, [.int zdogs, .ref q1, .ref q2, .ref q3, .ref q4, .ref q5, .int zhungry, .int zcounts, .ref q6, .int zasked, .ref q7, u0, u1, u2, u3, u4, u5, u6, u7, u8, u9, .ref q8, .ref q9])), (q1, .inl (ci, 7, .inl zhalves)), (q2, .inl (ci, 7, .inl zlikes)), (q3, .inl (cz, 7, .inl zisTold)), (q4, .inl (ci, 7, .inl zfears)), (q5, .inl (ci, 7, .inl zheirs)), (q6, .inl (ci, 18, .inl zcount)), (q7, .inl (ci, 15, .inl zquestion)), (q8, .inl (ci, 144, .inl zimage_10)), (q9, .inl (cz, 2, .inl zisKept))] := gD_re hD rfl
      refine lv_iload_n hx hb dX12_image_19 rfl (lv_at hl 3 rfl) ?_
      refine lv_bipush (v := (7 : Int32)) hx hb dX12_image_20 (by decide) ?_
      refine lv_icmp_ge (tgt := 121) hx hb dX12_image_22 (by decide) (fun hc => ?_) (fun hc => ?_)
      · have hw := hw.1 hc
        exact hJ121 _ H locs ls hw hP hS (lv_sub hl [0, 1, 2] rfl)
      · have hw := hw.2 hc
        refine lv_aload_n hx hb dX12_image_25 rfl (lv_at hl 0 rfl) ?_
        refine va_get (D := D) (ci := 11) (v := .ref q8) (C := RX12) (T := TX12) (N := 23) hx hb ht in_X12 hown hK.1 hP 0 rfl rfl 21 (by decide) (ht _ mF_X12_57) (fun _ h9 => h9) rfl dX12_image_26 ?_
        refine lv_iload_n hx hb dX12_image_29 rfl (lv_at hl 2 rfl) ?_
        refine lv_iload_n hx hb dX12_image_30 rfl (lv_at hl 3 rfl) ?_
        refine lv_iadd hx hb dX12_image_31 ?_
        refine lv_aload_n hx hb dX12_image_32 rfl (lv_at hl 0 rfl) ?_
        refine va_get (D := D) (ci := 11) (v := .ref q1) (C := RX12) (T := TX12) (N := 23) hx hb ht in_X12 hown hK.1 hP 0 rfl rfl 1 (by decide) (ht _ mF_X12_7) (fun _ h9 => h9) rfl dX12_image_33 ?_
        refine lv_iload_n hx hb dX12_image_36 rfl (lv_at hl 3 rfl) ?_
        obtain ⟨hin, hw⟩ := hw
        refine va_iald (D := D) hx hb hK.1 hP 1 0 rfl rfl hin dX12_image_37 ?_
        obtain ⟨hin, hw⟩ := hw
        refine va_iast (D := D) hx hb hK.1 hP hD hS 8 0 rfl rfl hin dX12_image_38 (fun H locs hP hD hS => ?_)
        have hP : va_P D vwCl [(q0, .inr (11, [.int zdogs, .ref q1, .ref q2, .ref q3, .ref q4, .ref q5, .int zhungry, .int zcounts, .ref q6, .int zasked, .ref q7, u0, u1, u2, u3, u4, u5, u6, u7, u8, u9, .ref q8, .ref q9])), (q1, .inl (ci, 7, .inl zhalves)), (q2, .inl (ci, 7, .inl zlikes)), (q3, .inl (cz, 7, .inl zisTold)), (q4, .inl (ci, 7, .inl zfears)), (q5, .inl (ci, 7, .inl zheirs)), (q6, .inl (ci, 18, .inl zcount)), (q7, .inl (ci, 15, .inl zquestion)), (q8, .inl (ci, 144, .inl (upd zimage_10 ((((72 : Int32) * a1) + x3_9)).toNatClampNeg (zhalves (x3_9).toNatClampNeg)))), (q9, .inl (cz, 2, .inl zisKept))] H := hP
        have hD : va_D A [(q0, .inr (11, [.int zdogs, .ref q1, .ref q2, .ref q3, .ref q4, .ref q5, .int zhungry, .int zcounts, .ref q6, .int zasked, .ref q7, u0, u1, u2, u3, u4, u5, u6, u7, u8, u9, .ref q8, .ref q9])), (q1, .inl (ci, 7, .inl zhalves)), (q2, .inl (ci, 7, .inl zlikes)), (q3, .inl (cz, 7, .inl zisTold)), (q4, .inl (ci, 7, .inl zfears)), (q5, .inl (ci, 7, .inl zheirs)), (q6, .inl (ci, 18, .inl zcount)), (q7, .inl (ci, 15, .inl zquestion)), (q8, .inl (ci, 144, .inl (upd zimage_10 ((((72 : Int32) * a1) + x3_9)).toNatClampNeg (zhalves (x3_9).toNatClampNeg)))), (q9, .inl (cz, 2, .inl zisKept))] := hD
        refine lv_aload_n hx hb dX12_image_39 rfl (lv_at hl 0 rfl) ?_
        refine va_get (D := D) (ci := 11) (v := .ref q8) (C := RX12) (T := TX12) (N := 23) hx hb ht in_X12 hown hK.1 hP 0 rfl rfl 21 (by decide) (ht _ mF_X12_57) (fun _ h9 => h9) rfl dX12_image_40 ?_
        refine lv_iload_n hx hb dX12_image_43 rfl (lv_at hl 2 rfl) ?_
        refine lv_bipush (v := (7 : Int32)) hx hb dX12_image_44 (by decide) ?_
        refine lv_iadd hx hb dX12_image_46 ?_
        refine lv_iload_n hx hb dX12_image_47 rfl (lv_at hl 3 rfl) ?_
        refine lv_iadd hx hb dX12_image_48 ?_
        refine lv_aload_n hx hb dX12_image_49 rfl (lv_at hl 0 rfl) ?_
        refine va_get (D := D) (ci := 11) (v := .ref q2) (C := RX12) (T := TX12) (N := 23) hx hb ht in_X12 hown hK.1 hP 0 rfl rfl 2 (by decide) (ht _ mF_X12_13) (fun _ h9 => h9) rfl dX12_image_50 ?_
        refine lv_iload_n hx hb dX12_image_53 rfl (lv_at hl 3 rfl) ?_
        obtain ⟨hin, hw⟩ := hw
        refine va_iald (D := D) hx hb hK.1 hP 2 0 rfl rfl hin dX12_image_54 ?_
        obtain ⟨hin, hw⟩ := hw
        refine va_iast (D := D) hx hb hK.1 hP hD hS 8 0 rfl rfl hin dX12_image_55 (fun H locs hP hD hS => ?_)
        have hP : va_P D vwCl [(q0, .inr (11, [.int zdogs, .ref q1, .ref q2, .ref q3, .ref q4, .ref q5, .int zhungry, .int zcounts, .ref q6, .int zasked, .ref q7, u0, u1, u2, u3, u4, u5, u6, u7, u8, u9, .ref q8, .ref q9])), (q1, .inl (ci, 7, .inl zhalves)), (q2, .inl (ci, 7, .inl zlikes)), (q3, .inl (cz, 7, .inl zisTold)), (q4, .inl (ci, 7, .inl zfears)), (q5, .inl (ci, 7, .inl zheirs)), (q6, .inl (ci, 18, .inl zcount)), (q7, .inl (ci, 15, .inl zquestion)), (q8, .inl (ci, 144, .inl (upd (upd zimage_10 ((((72 : Int32) * a1) + x3_9)).toNatClampNeg (zhalves (x3_9).toNatClampNeg)) (((((72 : Int32) * a1) + (7 : Int32)) + x3_9)).toNatClampNeg (zlikes (x3_9).toNatClampNeg)))), (q9, .inl (cz, 2, .inl zisKept))] H := hP
        have hD : va_D A [(q0, .inr (11, [.int zdogs, .ref q1, .ref q2, .ref q3, .ref q4, .ref q5, .int zhungry, .int zcounts, .ref q6, .int zasked, .ref q7, u0, u1, u2, u3, u4, u5, u6, u7, u8, u9, .ref q8, .ref q9])), (q1, .inl (ci, 7, .inl zhalves)), (q2, .inl (ci, 7, .inl zlikes)), (q3, .inl (cz, 7, .inl zisTold)), (q4, .inl (ci, 7, .inl zfears)), (q5, .inl (ci, 7, .inl zheirs)), (q6, .inl (ci, 18, .inl zcount)), (q7, .inl (ci, 15, .inl zquestion)), (q8, .inl (ci, 144, .inl (upd (upd zimage_10 ((((72 : Int32) * a1) + x3_9)).toNatClampNeg (zhalves (x3_9).toNatClampNeg)) (((((72 : Int32) * a1) + (7 : Int32)) + x3_9)).toNatClampNeg (zlikes (x3_9).toNatClampNeg)))), (q9, .inl (cz, 2, .inl zisKept))] := hD
        refine lv_aload_n hx hb dX12_image_56 rfl (lv_at hl 0 rfl) ?_
        refine va_get (D := D) (ci := 11) (v := .ref q8) (C := RX12) (T := TX12) (N := 23) hx hb ht in_X12 hown hK.1 hP 0 rfl rfl 21 (by decide) (ht _ mF_X12_57) (fun _ h9 => h9) rfl dX12_image_57 ?_
        refine lv_iload_n hx hb dX12_image_60 rfl (lv_at hl 2 rfl) ?_
        refine lv_bipush (v := (14 : Int32)) hx hb dX12_image_61 (by decide) ?_
        refine lv_iadd hx hb dX12_image_63 ?_
        refine lv_iload_n hx hb dX12_image_64 rfl (lv_at hl 3 rfl) ?_
        refine lv_iadd hx hb dX12_image_65 ?_
        refine lv_aload_n hx hb dX12_image_66 rfl (lv_at hl 0 rfl) ?_
        refine va_get (D := D) (ci := 11) (v := .ref q3) (C := RX12) (T := TX12) (N := 23) hx hb ht in_X12 hown hK.1 hP 0 rfl rfl 3 (by decide) (ht _ mF_X12_16) (fun _ h9 => h9) rfl dX12_image_67 ?_
        refine lv_iload_n hx hb dX12_image_70 rfl (lv_at hl 3 rfl) ?_
        obtain ⟨hin, hw⟩ := hw
        refine va_zald (D := D) hx hb hK.1 hP 3 1 rfl rfl hin dX12_image_71 ?_
        refine jn_walk hw (fun J80 => ∀ (t_11 : Int32) (H : Heap) (locs : List Loc) (ls : Array Slot), J80 t_11 → va_P D vwCl [(q0, .inr (11, [.int zdogs, .ref q1, .ref q2, .ref q3, .ref q4, .ref q5, .int zhungry, .int zcounts, .ref q6, .int zasked, .ref q7, u0, u1, u2, u3, u4, u5, u6, u7, u8, u9, .ref q8, .ref q9])), (q1, .inl (ci, 7, .inl zhalves)), (q2, .inl (ci, 7, .inl zlikes)), (q3, .inl (cz, 7, .inl zisTold)), (q4, .inl (ci, 7, .inl zfears)), (q5, .inl (ci, 7, .inl zheirs)), (q6, .inl (ci, 18, .inl zcount)), (q7, .inl (ci, 15, .inl zquestion)), (q8, .inl (ci, 144, .inl (upd (upd zimage_10 ((((72 : Int32) * a1) + x3_9)).toNatClampNeg (zhalves (x3_9).toNatClampNeg)) (((((72 : Int32) * a1) + (7 : Int32)) + x3_9)).toNatClampNeg (zlikes (x3_9).toNatClampNeg)))), (q9, .inl (cz, 2, .inl zisKept))] H → va_S A s.heap H locs → lv_has ls 4 [(0, .ref q0), (1, .int a1), (2, .int ((72 : Int32) * a1)), (3, .int x3_9)] → W p l e R s m args below meth c H locs 0 0 Q (F0 m 80 ls [.int t_11, .int ((((72 : Int32) * a1) + (14 : Int32)) + x3_9), .ref q8])) ?_ ?_
        · intro t_11 H locs ls hw hP hS hl
          have hD : va_D A [(q0, .inr (11, [.int zdogs, .ref q1, .ref q2, .ref q3, .ref q4, .ref q5, .int zhungry, .int zcounts, .ref q6, .int zasked, .ref q7, u0, u1, u2, u3, u4, u5, u6, u7, u8, u9, .ref q8, .ref q9])), (q1, .inl (ci, 7, .inl zhalves)), (q2, .inl (ci, 7, .inl zlikes)), (q3, .inl (cz, 7, .inl zisTold)), (q4, .inl (ci, 7, .inl zfears)), (q5, .inl (ci, 7, .inl zheirs)), (q6, .inl (ci, 18, .inl zcount)), (q7, .inl (ci, 15, .inl zquestion)), (q8, .inl (ci, 144, .inl (upd (upd zimage_10 ((((72 : Int32) * a1) + x3_9)).toNatClampNeg (zhalves (x3_9).toNatClampNeg)) (((((72 : Int32) * a1) + (7 : Int32)) + x3_9)).toNatClampNeg (zlikes (x3_9).toNatClampNeg)))), (q9, .inl (cz, 2, .inl zisKept))] := gD_re hD rfl
          obtain ⟨hin, hw⟩ := hw
          refine va_iast (D := D) hx hb hK.1 hP hD hS 8 0 rfl rfl hin dX12_image_80 (fun H locs hP hD hS => ?_)
          have hP : va_P D vwCl [(q0, .inr (11, [.int zdogs, .ref q1, .ref q2, .ref q3, .ref q4, .ref q5, .int zhungry, .int zcounts, .ref q6, .int zasked, .ref q7, u0, u1, u2, u3, u4, u5, u6, u7, u8, u9, .ref q8, .ref q9])), (q1, .inl (ci, 7, .inl zhalves)), (q2, .inl (ci, 7, .inl zlikes)), (q3, .inl (cz, 7, .inl zisTold)), (q4, .inl (ci, 7, .inl zfears)), (q5, .inl (ci, 7, .inl zheirs)), (q6, .inl (ci, 18, .inl zcount)), (q7, .inl (ci, 15, .inl zquestion)), (q8, .inl (ci, 144, .inl (upd (upd (upd zimage_10 ((((72 : Int32) * a1) + x3_9)).toNatClampNeg (zhalves (x3_9).toNatClampNeg)) (((((72 : Int32) * a1) + (7 : Int32)) + x3_9)).toNatClampNeg (zlikes (x3_9).toNatClampNeg)) (((((72 : Int32) * a1) + (14 : Int32)) + x3_9)).toNatClampNeg t_11))), (q9, .inl (cz, 2, .inl zisKept))] H := hP
          have hD : va_D A [(q0, .inr (11, [.int zdogs, .ref q1, .ref q2, .ref q3, .ref q4, .ref q5, .int zhungry, .int zcounts, .ref q6, .int zasked, .ref q7, u0, u1, u2, u3, u4, u5, u6, u7, u8, u9, .ref q8, .ref q9])), (q1, .inl (ci, 7, .inl zhalves)), (q2, .inl (ci, 7, .inl zlikes)), (q3, .inl (cz, 7, .inl zisTold)), (q4, .inl (ci, 7, .inl zfears)), (q5, .inl (ci, 7, .inl zheirs)), (q6, .inl (ci, 18, .inl zcount)), (q7, .inl (ci, 15, .inl zquestion)), (q8, .inl (ci, 144, .inl (upd (upd (upd zimage_10 ((((72 : Int32) * a1) + x3_9)).toNatClampNeg (zhalves (x3_9).toNatClampNeg)) (((((72 : Int32) * a1) + (7 : Int32)) + x3_9)).toNatClampNeg (zlikes (x3_9).toNatClampNeg)) (((((72 : Int32) * a1) + (14 : Int32)) + x3_9)).toNatClampNeg t_11))), (q9, .inl (cz, 2, .inl zisKept))] := hD
          refine lv_aload_n hx hb dX12_image_81 rfl (lv_at hl 0 rfl) ?_
          refine va_get (D := D) (ci := 11) (v := .ref q8) (C := RX12) (T := TX12) (N := 23) hx hb ht in_X12 hown hK.1 hP 0 rfl rfl 21 (by decide) (ht _ mF_X12_57) (fun _ h9 => h9) rfl dX12_image_82 ?_
          refine lv_iload_n hx hb dX12_image_85 rfl (lv_at hl 2 rfl) ?_
          refine lv_bipush (v := (21 : Int32)) hx hb dX12_image_86 (by decide) ?_
          refine lv_iadd hx hb dX12_image_88 ?_
          refine lv_iload_n hx hb dX12_image_89 rfl (lv_at hl 3 rfl) ?_
          refine lv_iadd hx hb dX12_image_90 ?_
          refine lv_aload_n hx hb dX12_image_91 rfl (lv_at hl 0 rfl) ?_
          refine va_get (D := D) (ci := 11) (v := .ref q4) (C := RX12) (T := TX12) (N := 23) hx hb ht in_X12 hown hK.1 hP 0 rfl rfl 4 (by decide) (ht _ mF_X12_20) (fun _ h9 => h9) rfl dX12_image_92 ?_
          refine lv_iload_n hx hb dX12_image_95 rfl (lv_at hl 3 rfl) ?_
          obtain ⟨hin, hw⟩ := hw
          refine va_iald (D := D) hx hb hK.1 hP 4 0 rfl rfl hin dX12_image_96 ?_
          obtain ⟨hin, hw⟩ := hw
          refine va_iast (D := D) hx hb hK.1 hP hD hS 8 0 rfl rfl hin dX12_image_97 (fun H locs hP hD hS => ?_)
          have hP : va_P D vwCl [(q0, .inr (11, [.int zdogs, .ref q1, .ref q2, .ref q3, .ref q4, .ref q5, .int zhungry, .int zcounts, .ref q6, .int zasked, .ref q7, u0, u1, u2, u3, u4, u5, u6, u7, u8, u9, .ref q8, .ref q9])), (q1, .inl (ci, 7, .inl zhalves)), (q2, .inl (ci, 7, .inl zlikes)), (q3, .inl (cz, 7, .inl zisTold)), (q4, .inl (ci, 7, .inl zfears)), (q5, .inl (ci, 7, .inl zheirs)), (q6, .inl (ci, 18, .inl zcount)), (q7, .inl (ci, 15, .inl zquestion)), (q8, .inl (ci, 144, .inl (upd (upd (upd (upd zimage_10 ((((72 : Int32) * a1) + x3_9)).toNatClampNeg (zhalves (x3_9).toNatClampNeg)) (((((72 : Int32) * a1) + (7 : Int32)) + x3_9)).toNatClampNeg (zlikes (x3_9).toNatClampNeg)) (((((72 : Int32) * a1) + (14 : Int32)) + x3_9)).toNatClampNeg t_11) (((((72 : Int32) * a1) + (21 : Int32)) + x3_9)).toNatClampNeg (zfears (x3_9).toNatClampNeg)))), (q9, .inl (cz, 2, .inl zisKept))] H := hP
          have hD : va_D A [(q0, .inr (11, [.int zdogs, .ref q1, .ref q2, .ref q3, .ref q4, .ref q5, .int zhungry, .int zcounts, .ref q6, .int zasked, .ref q7, u0, u1, u2, u3, u4, u5, u6, u7, u8, u9, .ref q8, .ref q9])), (q1, .inl (ci, 7, .inl zhalves)), (q2, .inl (ci, 7, .inl zlikes)), (q3, .inl (cz, 7, .inl zisTold)), (q4, .inl (ci, 7, .inl zfears)), (q5, .inl (ci, 7, .inl zheirs)), (q6, .inl (ci, 18, .inl zcount)), (q7, .inl (ci, 15, .inl zquestion)), (q8, .inl (ci, 144, .inl (upd (upd (upd (upd zimage_10 ((((72 : Int32) * a1) + x3_9)).toNatClampNeg (zhalves (x3_9).toNatClampNeg)) (((((72 : Int32) * a1) + (7 : Int32)) + x3_9)).toNatClampNeg (zlikes (x3_9).toNatClampNeg)) (((((72 : Int32) * a1) + (14 : Int32)) + x3_9)).toNatClampNeg t_11) (((((72 : Int32) * a1) + (21 : Int32)) + x3_9)).toNatClampNeg (zfears (x3_9).toNatClampNeg)))), (q9, .inl (cz, 2, .inl zisKept))] := hD
          refine lv_aload_n hx hb dX12_image_98 rfl (lv_at hl 0 rfl) ?_
          refine va_get (D := D) (ci := 11) (v := .ref q8) (C := RX12) (T := TX12) (N := 23) hx hb ht in_X12 hown hK.1 hP 0 rfl rfl 21 (by decide) (ht _ mF_X12_57) (fun _ h9 => h9) rfl dX12_image_99 ?_
          refine lv_iload_n hx hb dX12_image_102 rfl (lv_at hl 2 rfl) ?_
          refine lv_bipush (v := (28 : Int32)) hx hb dX12_image_103 (by decide) ?_
          refine lv_iadd hx hb dX12_image_105 ?_
          refine lv_iload_n hx hb dX12_image_106 rfl (lv_at hl 3 rfl) ?_
          refine lv_iadd hx hb dX12_image_107 ?_
          refine lv_aload_n hx hb dX12_image_108 rfl (lv_at hl 0 rfl) ?_
          refine va_get (D := D) (ci := 11) (v := .ref q5) (C := RX12) (T := TX12) (N := 23) hx hb ht in_X12 hown hK.1 hP 0 rfl rfl 5 (by decide) (ht _ mF_X12_23) (fun _ h9 => h9) rfl dX12_image_109 ?_
          refine lv_iload_n hx hb dX12_image_112 rfl (lv_at hl 3 rfl) ?_
          obtain ⟨hin, hw⟩ := hw
          refine va_iald (D := D) hx hb hK.1 hP 5 0 rfl rfl hin dX12_image_113 ?_
          obtain ⟨hin, hw⟩ := hw
          refine va_iast (D := D) hx hb hK.1 hP hD hS 8 0 rfl rfl hin dX12_image_114 (fun H locs hP hD hS => ?_)
          have hP : va_P D vwCl [(q0, .inr (11, [.int zdogs, .ref q1, .ref q2, .ref q3, .ref q4, .ref q5, .int zhungry, .int zcounts, .ref q6, .int zasked, .ref q7, u0, u1, u2, u3, u4, u5, u6, u7, u8, u9, .ref q8, .ref q9])), (q1, .inl (ci, 7, .inl zhalves)), (q2, .inl (ci, 7, .inl zlikes)), (q3, .inl (cz, 7, .inl zisTold)), (q4, .inl (ci, 7, .inl zfears)), (q5, .inl (ci, 7, .inl zheirs)), (q6, .inl (ci, 18, .inl zcount)), (q7, .inl (ci, 15, .inl zquestion)), (q8, .inl (ci, 144, .inl (upd (upd (upd (upd (upd zimage_10 ((((72 : Int32) * a1) + x3_9)).toNatClampNeg (zhalves (x3_9).toNatClampNeg)) (((((72 : Int32) * a1) + (7 : Int32)) + x3_9)).toNatClampNeg (zlikes (x3_9).toNatClampNeg)) (((((72 : Int32) * a1) + (14 : Int32)) + x3_9)).toNatClampNeg t_11) (((((72 : Int32) * a1) + (21 : Int32)) + x3_9)).toNatClampNeg (zfears (x3_9).toNatClampNeg)) (((((72 : Int32) * a1) + (28 : Int32)) + x3_9)).toNatClampNeg (zheirs (x3_9).toNatClampNeg)))), (q9, .inl (cz, 2, .inl zisKept))] H := hP
          have hD : va_D A [(q0, .inr (11, [.int zdogs, .ref q1, .ref q2, .ref q3, .ref q4, .ref q5, .int zhungry, .int zcounts, .ref q6, .int zasked, .ref q7, u0, u1, u2, u3, u4, u5, u6, u7, u8, u9, .ref q8, .ref q9])), (q1, .inl (ci, 7, .inl zhalves)), (q2, .inl (ci, 7, .inl zlikes)), (q3, .inl (cz, 7, .inl zisTold)), (q4, .inl (ci, 7, .inl zfears)), (q5, .inl (ci, 7, .inl zheirs)), (q6, .inl (ci, 18, .inl zcount)), (q7, .inl (ci, 15, .inl zquestion)), (q8, .inl (ci, 144, .inl (upd (upd (upd (upd (upd zimage_10 ((((72 : Int32) * a1) + x3_9)).toNatClampNeg (zhalves (x3_9).toNatClampNeg)) (((((72 : Int32) * a1) + (7 : Int32)) + x3_9)).toNatClampNeg (zlikes (x3_9).toNatClampNeg)) (((((72 : Int32) * a1) + (14 : Int32)) + x3_9)).toNatClampNeg t_11) (((((72 : Int32) * a1) + (21 : Int32)) + x3_9)).toNatClampNeg (zfears (x3_9).toNatClampNeg)) (((((72 : Int32) * a1) + (28 : Int32)) + x3_9)).toNatClampNeg (zheirs (x3_9).toNatClampNeg)))), (q9, .inl (cz, 2, .inl zisKept))] := hD
          refine lv_iinc (v := (x3_9 + (1 : Int32))) (lv' := [(3, .int (x3_9 + (1 : Int32))), (0, .ref q0), (1, .int a1), (2, .int ((72 : Int32) * a1))]) hx hb dX12_image_115 hl (k := 3) rfl rfl (by decide) rfl (fun ls hl => ?_)
          refine lv_goto (tgt := 19) hx hb dX12_image_118 (by decide) ?_
          exact hG19 _ _ H locs ls hw hP hS (lv_sub hl [1, 2, 3, 0] rfl)
        · intro J80 hJ80 hw
          refine lv_if_eq (tgt := 79) hx hb dX12_image_72 (by decide) (fun hc => ?_) (fun hc => ?_)
          · have hw := hw.1 hc
            refine lv_iconst (v := (0 : Int32)) hx hb dX12_image_79 (by decide) ?_
            exact hJ80 _ H locs ls hw hP hS (lv_sub hl [0, 1, 2, 3] rfl)
          · have hw := hw.2 hc
            refine lv_iconst (v := (1 : Int32)) hx hb dX12_image_75 (by decide) ?_
            refine lv_goto (tgt := 80) hx hb dX12_image_76 (by decide) ?_
            exact hJ80 _ H locs ls hw hP hS (lv_sub hl [0, 1, 2, 3] rfl)
  · have hw := hw.2 hc
    refine lv_bipush (v := (-2 : Int32)) hx hb dX12_image_9 (by decide) ?_
    exact hret _ _ H locs _ _ ⟨_, _, rfl, hw⟩ hP hS dX12_image_11

def wp_X12_keepOrder (zorder : Nat → Int32) (zbest : Nat → Int32)  (post : (Nat → Int32) → Prop) : Prop :=
  lo (fun _ _ => False) (fun (G2 : Int32 → (Nat → Int32) → Prop) (x1_1 : Int32) (zbest_2 : Nat → Int32) => (((7 : Int32) ≤ x1_1 → post zbest_2) ∧ (¬ (7 : Int32) ≤ x1_1 → (vp_in x1_1 7 ∧ (vp_in x1_1 7 ∧ G2 (x1_1 + (1 : Int32)) (upd zbest_2 (x1_1).toNatClampNeg (zorder (x1_1).toNatClampNeg))))))) (fun G2 => G2 (0 : Int32) zbest)
set_option maxHeartbeats 4000000 in
set_option maxRecDepth 100000 in
theorem c_X12_keepOrder (l : Launch) (D : va_G) (ci cz : ClassId) (tr : List (ClassId × FieldType)) (q0 q1 q2 : Nat) (sz : Nat) (u0 u1 u2 u3 u4 u5 u6 u7 u8 u9 u10 u11 u12 u13 u14 u15 u16 u17 u18 u19 u20 : Value) (zorder : Nat → Int32) (zbest : Nat → Int32)  (post : (Nat → Int32) → Prop) (hw : wp_X12_keepOrder zorder zbest post) : gM l yX12_keepOrder cX12_keepOrder 2 none 0 0 D ci cz tr [(q0, .inr (11, [u0, u1, u2, u3, u4, u5, u6, u7, u8, u9, u10, u11, u12, .ref q1, u13, u14, u15, u16, u17, .ref q2, u18, u19, u20])), (q1, .inl (ci, 7, .inl zorder)), (q2, .inl (ci, 7, .inl zbest))] sz [.ref q0] (gQv D [(q0, .inr (11, [u0, u1, u2, u3, u4, u5, u6, u7, u8, u9, u10, u11, u12, .ref q1, u13, u14, u15, u16, u17, .ref q2, u18, u19, u20])), (q1, .inl (ci, 7, .inl zorder)), (q2, .inl (ci, 7, .inl zbest))] sz (fun w => ∃ (o_zbest : Nat → Int32), w = [(q0, .inr (11, [u0, u1, u2, u3, u4, u5, u6, u7, u8, u9, u10, u11, u12, .ref q1, u13, u14, u15, u16, u17, .ref q2, u18, u19, u20])), (q1, .inl (ci, 7, .inl zorder)), (q2, .inl (ci, 7, .inl o_zbest))] ∧ post o_zbest)) := by
  refine gmet_v RX12 (by decide +kernel) rfl (Nat.le_of_ble_eq_true rfl) ?_
  intro p e s m args below meth c A R Q C hfr hlc hP hD hret ls hl
  obtain ⟨hx, hb, hml, hown, ht, hK, hZ, hA⟩ := C
  have hl : lv_has ls 2 [(0, .ref q0)] := hl
  unfold wp_X12_keepOrder at hw
  refine g_in (fun H locs => W p l e R s m args below meth c H locs 0 0 Q (F0 m 0 ls [])) (fun H locs hS0 hP => ?_) hP (va_S.rf (A := A) (H0 := s.heap))
  have hS : va_S A s.heap H locs := hS0
  clear hS0
  refine lv_iconst (v := (0 : Int32)) hx hb dX12_keepOrder_0 (by decide) ?_
  refine lv_istore_n (lv' := [(1, .int (0 : Int32)), (0, .ref q0)]) hx hb dX12_keepOrder_1 rfl hl (by decide) rfl (fun ls hl => ?_)
  refine lo_walk hw (fun G2 => ∀ (x1_1 : Int32) (zbest_2 : Nat → Int32) (H : Heap) (locs : List Loc) (ls : Array Slot), G2 x1_1 zbest_2 → va_P D vwCl [(q0, .inr (11, [u0, u1, u2, u3, u4, u5, u6, u7, u8, u9, u10, u11, u12, .ref q1, u13, u14, u15, u16, u17, .ref q2, u18, u19, u20])), (q1, .inl (ci, 7, .inl zorder)), (q2, .inl (ci, 7, .inl zbest_2))] H → va_S A s.heap H locs → lv_has ls 2 [(0, .ref q0), (1, .int x1_1)] → W p l e R s m args below meth c H locs 0 0 Q (F0 m 2 ls [])) (fun _ _ _ _ _ hw _ _ _ => False.elim hw) (fun G2 hG2 x1_1 zbest_2 H locs ls hw hP hS hl => ?_) (fun G2 hG2 hw => hG2 _ _ H locs ls hw hP hS (lv_sub hl [1, 0] rfl))
  have hD : va_D A [(q0, .inr (11, [u0, u1, u2, u3, u4, u5, u6, u7, u8, u9, u10, u11, u12, .ref q1, u13, u14, u15, u16, u17, .ref q2, u18, u19, u20])), (q1, .inl (ci, 7, .inl zorder)), (q2, .inl (ci, 7, .inl zbest_2))] := gD_re hD rfl
  refine lv_iload_n hx hb dX12_keepOrder_2 rfl (lv_at hl 1 rfl) ?_
  refine lv_bipush (v := (7 : Int32)) hx hb dX12_keepOrder_3 (by decide) ?_
  refine lv_icmp_ge (tgt := 26) hx hb dX12_keepOrder_5 (by decide) (fun hc => ?_) (fun hc => ?_)
  · have hw := hw.1 hc
    exact hret _ H locs _ _ ⟨_, rfl, hw⟩ hP hS dX12_keepOrder_26
  · have hw := hw.2 hc
    refine lv_aload_n hx hb dX12_keepOrder_8 rfl (lv_at hl 0 rfl) ?_
    refine va_get (D := D) (ci := 11) (v := .ref q2) (C := RX12) (T := TX12) (N := 23) hx hb ht in_X12 hown hK.1 hP 0 rfl rfl 19 (by decide) (ht _ mF_X12_51) (fun _ h9 => h9) rfl dX12_keepOrder_9 ?_
    refine lv_iload_n hx hb dX12_keepOrder_12 rfl (lv_at hl 1 rfl) ?_
    refine lv_aload_n hx hb dX12_keepOrder_13 rfl (lv_at hl 0 rfl) ?_
    refine va_get (D := D) (ci := 11) (v := .ref q1) (C := RX12) (T := TX12) (N := 23) hx hb ht in_X12 hown hK.1 hP 0 rfl rfl 13 (by decide) (ht _ mF_X12_39) (fun _ h9 => h9) rfl dX12_keepOrder_14 ?_
    refine lv_iload_n hx hb dX12_keepOrder_17 rfl (lv_at hl 1 rfl) ?_
    obtain ⟨hin, hw⟩ := hw
    refine va_iald (D := D) hx hb hK.1 hP 1 0 rfl rfl hin dX12_keepOrder_18 ?_
    obtain ⟨hin, hw⟩ := hw
    refine va_iast (D := D) hx hb hK.1 hP hD hS 2 0 rfl rfl hin dX12_keepOrder_19 (fun H locs hP hD hS => ?_)
    have hP : va_P D vwCl [(q0, .inr (11, [u0, u1, u2, u3, u4, u5, u6, u7, u8, u9, u10, u11, u12, .ref q1, u13, u14, u15, u16, u17, .ref q2, u18, u19, u20])), (q1, .inl (ci, 7, .inl zorder)), (q2, .inl (ci, 7, .inl (upd zbest_2 (x1_1).toNatClampNeg (zorder (x1_1).toNatClampNeg))))] H := hP
    have hD : va_D A [(q0, .inr (11, [u0, u1, u2, u3, u4, u5, u6, u7, u8, u9, u10, u11, u12, .ref q1, u13, u14, u15, u16, u17, .ref q2, u18, u19, u20])), (q1, .inl (ci, 7, .inl zorder)), (q2, .inl (ci, 7, .inl (upd zbest_2 (x1_1).toNatClampNeg (zorder (x1_1).toNatClampNeg))))] := hD
    refine lv_iinc (v := (x1_1 + (1 : Int32))) (lv' := [(1, .int (x1_1 + (1 : Int32))), (0, .ref q0)]) hx hb dX12_keepOrder_20 hl (k := 1) rfl rfl (by decide) rfl (fun ls hl => ?_)
    refine lv_goto (tgt := 2) hx hb dX12_keepOrder_23 (by decide) ?_
    exact hG2 _ _ H locs ls hw hP hS (lv_sub hl [1, 0] rfl)

def wp_X12_nextOrder (zorder : Nat → Int32) (a1 : Int32) (post : Int32 → (Nat → Int32) → Prop) : Prop :=
  jn (fun (x2_1 : Int32) => ((0 ≤ x2_1 → jn (fun (x3_2 : Int32) => wp_X12_change zorder x2_1 x3_2 (fun (zorder_4 : Nat → Int32) => lo (fun _ _ _ => False) (fun (G78 : Int32 → Int32 → (Nat → Int32) → Prop) (x4_5 : Int32) (x5_6 : Int32) (zorder_7 : Nat → Int32) => ((x5_6 ≤ x4_5 → post (1 : Int32) zorder_7) ∧ (¬ x5_6 ≤ x4_5 → wp_X12_change zorder_7 x4_5 x5_6 (fun (zorder_9 : Nat → Int32) => G78 (x4_5 + (1 : Int32)) (x5_6 + (-1 : Int32)) zorder_9)))) (fun G78 => G78 (x2_1 + (1 : Int32)) (a1 - (1 : Int32)) zorder_4))) (fun (J62 : Int32 → Prop) => lo (fun _ => False) (fun (G41 : Int32 → Prop) (x3_10 : Int32) => (vp_in x3_10 7 ∧ (vp_in x2_1 7 ∧ (((zorder (x2_1).toNatClampNeg) ≤ (zorder (x3_10).toNatClampNeg) → J62 x3_10) ∧ (¬ (zorder (x2_1).toNatClampNeg) ≤ (zorder (x3_10).toNatClampNeg) → G41 (x3_10 + (-1 : Int32))))))) (fun G41 => G41 (a1 - (1 : Int32))))) ∧ (¬ 0 ≤ x2_1 → post (0 : Int32) zorder))) (fun (J31 : Int32 → Prop) => lo (fun _ => False) (fun (G4 : Int32 → Prop) (x2_11 : Int32) => ((x2_11 < 0 → J31 x2_11) ∧ (¬ x2_11 < 0 → (vp_in x2_11 7 ∧ (vp_in (x2_11 + (1 : Int32)) 7 ∧ (((zorder (x2_11).toNatClampNeg) ≤ (zorder ((x2_11 + (1 : Int32))).toNatClampNeg) → J31 x2_11) ∧ (¬ (zorder (x2_11).toNatClampNeg) ≤ (zorder ((x2_11 + (1 : Int32))).toNatClampNeg) → G4 (x2_11 + (-1 : Int32))))))))) (fun G4 => G4 (a1 - (2 : Int32))))
set_option maxHeartbeats 4000000 in
set_option maxRecDepth 100000 in
theorem c_X12_nextOrder (l : Launch) (D : va_G) (ci cz : ClassId) (tr : List (ClassId × FieldType)) (q0 q1 : Nat) (sz : Nat) (u0 u1 u2 u3 u4 u5 u6 u7 u8 u9 u10 u11 u12 u13 u14 u15 u16 u17 u18 u19 u20 u21 : Value) (zorder : Nat → Int32) (a1 : Int32) (post : Int32 → (Nat → Int32) → Prop) (hw : wp_X12_nextOrder zorder a1 post) : gM l yX12_nextOrder cX12_nextOrder 6 (some .boolean) 1 23 D ci cz tr [(q0, .inr (11, [u0, u1, u2, u3, u4, u5, u6, u7, u8, u9, u10, u11, u12, .ref q1, u13, u14, u15, u16, u17, u18, u19, u20, u21])), (q1, .inl (ci, 7, .inl zorder))] sz [.ref q0, .int a1] (gQi D [(q0, .inr (11, [u0, u1, u2, u3, u4, u5, u6, u7, u8, u9, u10, u11, u12, .ref q1, u13, u14, u15, u16, u17, u18, u19, u20, u21])), (q1, .inl (ci, 7, .inl zorder))] sz (fun (r : Int32) w => ∃ (o_zorder : Nat → Int32), w = [(q0, .inr (11, [u0, u1, u2, u3, u4, u5, u6, u7, u8, u9, u10, u11, u12, .ref q1, u13, u14, u15, u16, u17, u18, u19, u20, u21])), (q1, .inl (ci, 7, .inl o_zorder))] ∧ post r o_zorder)) := by
  refine gmet_z RX12 (by decide +kernel) rfl (Nat.le_of_ble_eq_true rfl) ?_
  intro p e s m args below meth c A R Q C hfr hlc hP hD hret ls hl
  obtain ⟨hx, hb, hml, hown, ht, hK, hZ, hA⟩ := C
  have hl : lv_has ls 6 [(0, .ref q0), (1, .int a1)] := hl
  unfold wp_X12_nextOrder at hw
  refine g_in (fun H locs => W p l e R s m args below meth c H locs 0 0 Q (F0 m 0 ls [])) (fun H locs hS0 hP => ?_) hP (va_S.rf (A := A) (H0 := s.heap))
  have hS : va_S A s.heap H locs := hS0
  clear hS0
  refine lv_iload_n hx hb dX12_nextOrder_0 rfl (lv_at hl 1 rfl) ?_
  refine lv_iconst (v := (2 : Int32)) hx hb dX12_nextOrder_1 (by decide) ?_
  refine lv_isub hx hb dX12_nextOrder_2 ?_
  refine lv_istore_n (lv' := [(2, .int (a1 - (2 : Int32))), (0, .ref q0), (1, .int a1)]) hx hb dX12_nextOrder_3 rfl hl (by decide) rfl (fun ls hl => ?_)
  refine jn_walk hw (fun J31 => ∀ (x2_1 : Int32) (H : Heap) (locs : List Loc) (ls : Array Slot), J31 x2_1 → va_P D vwCl [(q0, .inr (11, [u0, u1, u2, u3, u4, u5, u6, u7, u8, u9, u10, u11, u12, .ref q1, u13, u14, u15, u16, u17, u18, u19, u20, u21])), (q1, .inl (ci, 7, .inl zorder))] H → va_S A s.heap H locs → lv_has ls 6 [(0, .ref q0), (1, .int a1), (2, .int x2_1)] → W p l e R s m args below meth c H locs 0 0 Q (F0 m 31 ls [])) ?_ ?_
  · intro x2_1 H locs ls hw hP hS hl
    have hD : va_D A [(q0, .inr (11, [u0, u1, u2, u3, u4, u5, u6, u7, u8, u9, u10, u11, u12, .ref q1, u13, u14, u15, u16, u17, u18, u19, u20, u21])), (q1, .inl (ci, 7, .inl zorder))] := gD_re hD rfl
    refine lv_iload_n hx hb dX12_nextOrder_31 rfl (lv_at hl 2 rfl) ?_
    refine lv_if_ge (tgt := 37) hx hb dX12_nextOrder_32 (by decide) (fun hc => ?_) (fun hc => ?_)
    · have hw := hw.1 hc
      refine lv_iload_n hx hb dX12_nextOrder_37 rfl (lv_at hl 1 rfl) ?_
      refine lv_iconst (v := (1 : Int32)) hx hb dX12_nextOrder_38 (by decide) ?_
      refine lv_isub hx hb dX12_nextOrder_39 ?_
      refine lv_istore_n (lv' := [(3, .int (a1 - (1 : Int32))), (0, .ref q0), (1, .int a1), (2, .int x2_1)]) hx hb dX12_nextOrder_40 rfl hl (by decide) rfl (fun ls hl => ?_)
      refine jn_walk hw (fun J62 => ∀ (x3_2 : Int32) (H : Heap) (locs : List Loc) (ls : Array Slot), J62 x3_2 → va_P D vwCl [(q0, .inr (11, [u0, u1, u2, u3, u4, u5, u6, u7, u8, u9, u10, u11, u12, .ref q1, u13, u14, u15, u16, u17, u18, u19, u20, u21])), (q1, .inl (ci, 7, .inl zorder))] H → va_S A s.heap H locs → lv_has ls 6 [(0, .ref q0), (1, .int a1), (2, .int x2_1), (3, .int x3_2)] → W p l e R s m args below meth c H locs 0 0 Q (F0 m 62 ls [])) ?_ ?_
      · intro x3_2 H locs ls hw hP hS hl
        have hD : va_D A [(q0, .inr (11, [u0, u1, u2, u3, u4, u5, u6, u7, u8, u9, u10, u11, u12, .ref q1, u13, u14, u15, u16, u17, u18, u19, u20, u21])), (q1, .inl (ci, 7, .inl zorder))] := gD_re hD rfl
        refine lv_aload_n hx hb dX12_nextOrder_62 rfl (lv_at hl 0 rfl) ?_
        refine lv_iload_n hx hb dX12_nextOrder_63 rfl (lv_at hl 2 rfl) ?_
        refine lv_iload_n hx hb dX12_nextOrder_64 rfl (lv_at hl 3 rfl) ?_
        refine gcallv (va_runV (As := [.int x2_1, .int x3_2]) (rest := []) ⟨hx, hb, hml, hown, ht⟩ (c_X12_change l D ci cz tr q0 q1 H.size u0 u1 u2 u3 u4 u5 u6 u7 u8 u9 u10 u11 u12 u13 u14 u15 u16 u17 u18 u19 u20 u21 zorder x2_1 x3_2 _ hw) (cwV 2 ht (gi_V mM_X12_123 mI_X12_change mS_X12_change mN_X12 mC_X12_change) rfl rfl rfl (by decide +kernel) ⟨Nat.le_trans (Nat.le_of_ble_eq_true rfl) hfr, Nat.le_trans (Nat.le_of_ble_eq_true rfl) hlc⟩) (gpreV (wc := [(q0, .inr (11, [u0, u1, u2, u3, u4, u5, u6, u7, u8, u9, u10, u11, u12, .ref q1, u13, u14, u15, u16, u17, u18, u19, u20, u21])), (q1, .inl (ci, 7, .inl zorder))]) (k := 11) (q0 := 0) hK hZ hP hD hS hA [0, 1] rfl rfl rfl rfl rfl) rfl rfl hl.1 rfl (lv_room (Nat.le_of_ble_eq_true rfl)) dX12_nextOrder_65 ⟨Nat.zero_le _, Nat.zero_le _⟩) hD hS hA [0, 1] rfl (fun w9 H locs hw hP9 hk9 hS => ?_)
        obtain ⟨zorder_4, rfl, hw⟩ := hw
        have hP : va_P D vwCl [(q0, .inr (11, [u0, u1, u2, u3, u4, u5, u6, u7, u8, u9, u10, u11, u12, .ref q1, u13, u14, u15, u16, u17, u18, u19, u20, u21])), (q1, .inl (ci, 7, .inl zorder_4))] H := gjoin3 hP hD [0, 1] hP9 hk9 rfl rfl [some 0, some 1] rfl rfl
        have hD : va_D A [(q0, .inr (11, [u0, u1, u2, u3, u4, u5, u6, u7, u8, u9, u10, u11, u12, .ref q1, u13, u14, u15, u16, u17, u18, u19, u20, u21])), (q1, .inl (ci, 7, .inl zorder_4))] := gD_re hD rfl
        clear hP9 hk9
        refine lv_iload_n hx hb dX12_nextOrder_68 rfl (lv_at hl 2 rfl) ?_
        refine lv_iconst (v := (1 : Int32)) hx hb dX12_nextOrder_69 (by decide) ?_
        refine lv_iadd hx hb dX12_nextOrder_70 ?_
        refine lv_istore (lv' := [(4, .int (x2_1 + (1 : Int32))), (0, .ref q0), (1, .int a1), (2, .int x2_1), (3, .int x3_2)]) hx hb dX12_nextOrder_71 hl (by decide) rfl (fun ls hl => ?_)
        refine lv_iload_n hx hb dX12_nextOrder_73 rfl (lv_at hl 2 rfl) ?_
        refine lv_iconst (v := (1 : Int32)) hx hb dX12_nextOrder_74 (by decide) ?_
        refine lv_isub hx hb dX12_nextOrder_75 ?_
        refine lv_istore (lv' := [(5, .int (a1 - (1 : Int32))), (4, .int (x2_1 + (1 : Int32))), (0, .ref q0), (1, .int a1), (2, .int x2_1), (3, .int x3_2)]) hx hb dX12_nextOrder_76 hl (by decide) rfl (fun ls hl => ?_)
        refine lo_walk hw (fun G78 => ∀ (x4_5 : Int32) (x5_6 : Int32) (zorder_7 : Nat → Int32) (H : Heap) (locs : List Loc) (ls : Array Slot), G78 x4_5 x5_6 zorder_7 → va_P D vwCl [(q0, .inr (11, [u0, u1, u2, u3, u4, u5, u6, u7, u8, u9, u10, u11, u12, .ref q1, u13, u14, u15, u16, u17, u18, u19, u20, u21])), (q1, .inl (ci, 7, .inl zorder_7))] H → va_S A s.heap H locs → lv_has ls 6 [(0, .ref q0), (4, .int x4_5), (5, .int x5_6)] → W p l e R s m args below meth c H locs 0 0 Q (F0 m 78 ls [])) (fun _ _ _ _ _ _ hw _ _ _ => False.elim hw) (fun G78 hG78 x4_5 x5_6 zorder_7 H locs ls hw hP hS hl => ?_) (fun G78 hG78 hw => hG78 _ _ _ H locs ls hw hP hS (lv_sub hl [2, 1, 0] rfl))
        have hD : va_D A [(q0, .inr (11, [u0, u1, u2, u3, u4, u5, u6, u7, u8, u9, u10, u11, u12, .ref q1, u13, u14, u15, u16, u17, u18, u19, u20, u21])), (q1, .inl (ci, 7, .inl zorder_7))] := gD_re hD rfl
        refine lv_iload hx hb dX12_nextOrder_78 (lv_at hl 1 rfl) ?_
        refine lv_iload hx hb dX12_nextOrder_80 (lv_at hl 2 rfl) ?_
        refine lv_icmp_ge (tgt := 102) hx hb dX12_nextOrder_82 (by decide) (fun hc => ?_) (fun hc => ?_)
        · have hw := hw.1 hc
          refine lv_iconst (v := (1 : Int32)) hx hb dX12_nextOrder_102 (by decide) ?_
          exact hret _ _ H locs _ _ (by decide) ⟨_, rfl, hw⟩ hP hS dX12_nextOrder_103
        · have hw := hw.2 hc
          refine lv_aload_n hx hb dX12_nextOrder_85 rfl (lv_at hl 0 rfl) ?_
          refine lv_iload hx hb dX12_nextOrder_86 (lv_at hl 1 rfl) ?_
          refine lv_iload hx hb dX12_nextOrder_88 (lv_at hl 2 rfl) ?_
          refine gcallv (va_runV (As := [.int x4_5, .int x5_6]) (rest := []) ⟨hx, hb, hml, hown, ht⟩ (c_X12_change l D ci cz tr q0 q1 H.size u0 u1 u2 u3 u4 u5 u6 u7 u8 u9 u10 u11 u12 u13 u14 u15 u16 u17 u18 u19 u20 u21 zorder_7 x4_5 x5_6 _ hw) (cwV 2 ht (gi_V mM_X12_123 mI_X12_change mS_X12_change mN_X12 mC_X12_change) rfl rfl rfl (by decide +kernel) ⟨Nat.le_trans (Nat.le_of_ble_eq_true rfl) hfr, Nat.le_trans (Nat.le_of_ble_eq_true rfl) hlc⟩) (gpreV (wc := [(q0, .inr (11, [u0, u1, u2, u3, u4, u5, u6, u7, u8, u9, u10, u11, u12, .ref q1, u13, u14, u15, u16, u17, u18, u19, u20, u21])), (q1, .inl (ci, 7, .inl zorder_7))]) (k := 11) (q0 := 0) hK hZ hP hD hS hA [0, 1] rfl rfl rfl rfl rfl) rfl rfl hl.1 rfl (lv_room (Nat.le_of_ble_eq_true rfl)) dX12_nextOrder_90 ⟨Nat.zero_le _, Nat.zero_le _⟩) hD hS hA [0, 1] rfl (fun w9 H locs hw hP9 hk9 hS => ?_)
          obtain ⟨zorder_9, rfl, hw⟩ := hw
          have hP : va_P D vwCl [(q0, .inr (11, [u0, u1, u2, u3, u4, u5, u6, u7, u8, u9, u10, u11, u12, .ref q1, u13, u14, u15, u16, u17, u18, u19, u20, u21])), (q1, .inl (ci, 7, .inl zorder_9))] H := gjoin3 hP hD [0, 1] hP9 hk9 rfl rfl [some 0, some 1] rfl rfl
          have hD : va_D A [(q0, .inr (11, [u0, u1, u2, u3, u4, u5, u6, u7, u8, u9, u10, u11, u12, .ref q1, u13, u14, u15, u16, u17, u18, u19, u20, u21])), (q1, .inl (ci, 7, .inl zorder_9))] := gD_re hD rfl
          clear hP9 hk9
          refine lv_iinc (v := (x4_5 + (1 : Int32))) (lv' := [(4, .int (x4_5 + (1 : Int32))), (0, .ref q0), (5, .int x5_6)]) hx hb dX12_nextOrder_93 hl (k := 1) rfl rfl (by decide) rfl (fun ls hl => ?_)
          refine lv_iinc (v := (x5_6 + (-1 : Int32))) (lv' := [(5, .int (x5_6 + (-1 : Int32))), (4, .int (x4_5 + (1 : Int32))), (0, .ref q0)]) hx hb dX12_nextOrder_96 hl (k := 2) rfl rfl (by decide) rfl (fun ls hl => ?_)
          refine lv_goto (tgt := 78) hx hb dX12_nextOrder_99 (by decide) ?_
          exact hG78 _ _ _ H locs ls hw hP hS (lv_sub hl [2, 1, 0] rfl)
      · intro J62 hJ62 hw
        refine lo_walk hw (fun G41 => ∀ (x3_10 : Int32) (H : Heap) (locs : List Loc) (ls : Array Slot), G41 x3_10 → va_P D vwCl [(q0, .inr (11, [u0, u1, u2, u3, u4, u5, u6, u7, u8, u9, u10, u11, u12, .ref q1, u13, u14, u15, u16, u17, u18, u19, u20, u21])), (q1, .inl (ci, 7, .inl zorder))] H → va_S A s.heap H locs → lv_has ls 6 [(0, .ref q0), (1, .int a1), (2, .int x2_1), (3, .int x3_10)] → W p l e R s m args below meth c H locs 0 0 Q (F0 m 41 ls [])) (fun _ _ _ _ hw _ _ _ => False.elim hw) (fun G41 hG41 x3_10 H locs ls hw hP hS hl => ?_) (fun G41 hG41 hw => hG41 _ H locs ls hw hP hS (lv_sub hl [1, 2, 3, 0] rfl))
        have hD : va_D A [(q0, .inr (11, [u0, u1, u2, u3, u4, u5, u6, u7, u8, u9, u10, u11, u12, .ref q1, u13, u14, u15, u16, u17, u18, u19, u20, u21])), (q1, .inl (ci, 7, .inl zorder))] := gD_re hD rfl
        refine lv_aload_n hx hb dX12_nextOrder_41 rfl (lv_at hl 0 rfl) ?_
        refine va_get (D := D) (ci := 11) (v := .ref q1) (C := RX12) (T := TX12) (N := 23) hx hb ht in_X12 hown hK.1 hP 0 rfl rfl 13 (by decide) (ht _ mF_X12_39) (fun _ h9 => h9) rfl dX12_nextOrder_42 ?_
        refine lv_iload_n hx hb dX12_nextOrder_45 rfl (lv_at hl 3 rfl) ?_
        obtain ⟨hin, hw⟩ := hw
        refine va_iald (D := D) hx hb hK.1 hP 1 0 rfl rfl hin dX12_nextOrder_46 ?_
        refine lv_aload_n hx hb dX12_nextOrder_47 rfl (lv_at hl 0 rfl) ?_
        refine va_get (D := D) (ci := 11) (v := .ref q1) (C := RX12) (T := TX12) (N := 23) hx hb ht in_X12 hown hK.1 hP 0 rfl rfl 13 (by decide) (ht _ mF_X12_39) (fun _ h9 => h9) rfl dX12_nextOrder_48 ?_
        refine lv_iload_n hx hb dX12_nextOrder_51 rfl (lv_at hl 2 rfl) ?_
        obtain ⟨hin, hw⟩ := hw
        refine va_iald (D := D) hx hb hK.1 hP 1 0 rfl rfl hin dX12_nextOrder_52 ?_
        refine lv_icmp_ge (tgt := 62) hx hb dX12_nextOrder_53 (by decide) (fun hc => ?_) (fun hc => ?_)
        · have hw := hw.1 hc
          exact hJ62 _ H locs ls hw hP hS (lv_sub hl [0, 1, 2, 3] rfl)
        · have hw := hw.2 hc
          refine lv_iinc (v := (x3_10 + (-1 : Int32))) (lv' := [(3, .int (x3_10 + (-1 : Int32))), (0, .ref q0), (1, .int a1), (2, .int x2_1)]) hx hb dX12_nextOrder_56 hl (k := 3) rfl rfl (by decide) rfl (fun ls hl => ?_)
          refine lv_goto (tgt := 41) hx hb dX12_nextOrder_59 (by decide) ?_
          exact hG41 _ H locs ls hw hP hS (lv_sub hl [1, 2, 3, 0] rfl)
    · have hw := hw.2 hc
      refine lv_iconst (v := (0 : Int32)) hx hb dX12_nextOrder_35 (by decide) ?_
      exact hret _ _ H locs _ _ (by decide) ⟨_, rfl, hw⟩ hP hS dX12_nextOrder_36
  · intro J31 hJ31 hw
    refine lo_walk hw (fun G4 => ∀ (x2_11 : Int32) (H : Heap) (locs : List Loc) (ls : Array Slot), G4 x2_11 → va_P D vwCl [(q0, .inr (11, [u0, u1, u2, u3, u4, u5, u6, u7, u8, u9, u10, u11, u12, .ref q1, u13, u14, u15, u16, u17, u18, u19, u20, u21])), (q1, .inl (ci, 7, .inl zorder))] H → va_S A s.heap H locs → lv_has ls 6 [(0, .ref q0), (1, .int a1), (2, .int x2_11)] → W p l e R s m args below meth c H locs 0 0 Q (F0 m 4 ls [])) (fun _ _ _ _ hw _ _ _ => False.elim hw) (fun G4 hG4 x2_11 H locs ls hw hP hS hl => ?_) (fun G4 hG4 hw => hG4 _ H locs ls hw hP hS (lv_sub hl [1, 2, 0] rfl))
    have hD : va_D A [(q0, .inr (11, [u0, u1, u2, u3, u4, u5, u6, u7, u8, u9, u10, u11, u12, .ref q1, u13, u14, u15, u16, u17, u18, u19, u20, u21])), (q1, .inl (ci, 7, .inl zorder))] := gD_re hD rfl
    refine lv_iload_n hx hb dX12_nextOrder_4 rfl (lv_at hl 2 rfl) ?_
    refine lv_if_lt (tgt := 31) hx hb dX12_nextOrder_5 (by decide) (fun hc => ?_) (fun hc => ?_)
    · have hw := hw.1 hc
      exact hJ31 _ H locs ls hw hP hS (lv_sub hl [0, 1, 2] rfl)
    · have hw := hw.2 hc
      refine lv_aload_n hx hb dX12_nextOrder_8 rfl (lv_at hl 0 rfl) ?_
      refine va_get (D := D) (ci := 11) (v := .ref q1) (C := RX12) (T := TX12) (N := 23) hx hb ht in_X12 hown hK.1 hP 0 rfl rfl 13 (by decide) (ht _ mF_X12_39) (fun _ h9 => h9) rfl dX12_nextOrder_9 ?_
      refine lv_iload_n hx hb dX12_nextOrder_12 rfl (lv_at hl 2 rfl) ?_
      obtain ⟨hin, hw⟩ := hw
      refine va_iald (D := D) hx hb hK.1 hP 1 0 rfl rfl hin dX12_nextOrder_13 ?_
      refine lv_aload_n hx hb dX12_nextOrder_14 rfl (lv_at hl 0 rfl) ?_
      refine va_get (D := D) (ci := 11) (v := .ref q1) (C := RX12) (T := TX12) (N := 23) hx hb ht in_X12 hown hK.1 hP 0 rfl rfl 13 (by decide) (ht _ mF_X12_39) (fun _ h9 => h9) rfl dX12_nextOrder_15 ?_
      refine lv_iload_n hx hb dX12_nextOrder_18 rfl (lv_at hl 2 rfl) ?_
      refine lv_iconst (v := (1 : Int32)) hx hb dX12_nextOrder_19 (by decide) ?_
      refine lv_iadd hx hb dX12_nextOrder_20 ?_
      obtain ⟨hin, hw⟩ := hw
      refine va_iald (D := D) hx hb hK.1 hP 1 0 rfl rfl hin dX12_nextOrder_21 ?_
      refine lv_icmp_le (tgt := 31) hx hb dX12_nextOrder_22 (by decide) (fun hc => ?_) (fun hc => ?_)
      · have hw := hw.1 hc
        exact hJ31 _ H locs ls hw hP hS (lv_sub hl [0, 1, 2] rfl)
      · have hw := hw.2 hc
        refine lv_iinc (v := (x2_11 + (-1 : Int32))) (lv' := [(2, .int (x2_11 + (-1 : Int32))), (0, .ref q0), (1, .int a1)]) hx hb dX12_nextOrder_25 hl (k := 2) rfl rfl (by decide) rfl (fun ls hl => ?_)
        refine lv_goto (tgt := 4) hx hb dX12_nextOrder_28 (by decide) ?_
        exact hG4 _ H locs ls hw hP hS (lv_sub hl [1, 2, 0] rfl)

def wp_X12_letOut (zdogs : Int32) (zhungry : Int32) (zatLeft : Int32) (zatRight : Int32) (zhalves : Nat → Int32) (zlikes : Nat → Int32) (zfears : Nat → Int32) (zorder : Nat → Int32) (zwent : Nat → Int32) (zfill : Nat → Int32) (zbest : Nat → Int32) (a1 : Int32) (a2 : Int32) (a3 : Int32) (post : Int32 → Int32 → Int32 → (Nat → Int32) → (Nat → Int32) → (Nat → Int32) → (Nat → Int32) → Prop) : Prop :=
  wp_X12_areLivers a1 a2 (fun (r_1 : Int32) => ((¬ r_1 = 0 → wp_X12_byLetters zorder (fun (zorder_3 : Nat → Int32) => jn (fun (x4_4 : Int32) (zatLeft_5 : Int32) (zatRight_6 : Int32) (zorder_7 : Nat → Int32) (zwent_8 : Nat → Int32) (zfill_9 : Nat → Int32) (zbest_10 : Nat → Int32) => ((¬ a3 = (-1 : Int32) → wp_X12_isDog zdogs a3 (fun (r_11 : Int32) => ((r_11 = 0 → post (-6 : Int32) zatLeft_5 zatRight_6 zorder_7 zwent_8 zfill_9 zbest_10) ∧ (¬ r_11 = 0 → (vp_in a3 7 ∧ post (zbest_10 (a3).toNatClampNeg) zatLeft_5 zatRight_6 zorder_7 zwent_8 zfill_9 zbest_10))))) ∧ (a3 = (-1 : Int32) → post x4_4 zatLeft_5 zatRight_6 zorder_7 zwent_8 zfill_9 zbest_10))) (fun (J71 : Int32 → Int32 → Int32 → (Nat → Int32) → (Nat → Int32) → (Nat → Int32) → (Nat → Int32) → Prop) => lo (fun _ _ _ _ _ _ _ _ => False) (fun (G22 : Int32 → Int32 → Int32 → Int32 → (Nat → Int32) → (Nat → Int32) → (Nat → Int32) → (Nat → Int32) → Prop) (x4_12 : Int32) (x5_13 : Int32) (zatLeft_14 : Int32) (zatRight_15 : Int32) (zorder_16 : Nat → Int32) (zwent_17 : Nat → Int32) (zfill_18 : Nat → Int32) (zbest_19 : Nat → Int32) => ((x5_13 = 0 → J71 x4_12 zatLeft_14 zatRight_15 zorder_16 zwent_17 zfill_18 zbest_19) ∧ (¬ x5_13 = 0 → wp_X12_nobodyFull zfill_18 (fun (zfill_21 : Nat → Int32) => wp_X12_letGo zdogs zhungry zatLeft_14 zatRight_15 zhalves zlikes zfears zorder_16 zwent_17 zfill_21 a1 a2 (-6 : Int32) (fun (zatLeft_23 : Int32) (zatRight_24 : Int32) (zwent_25 : Nat → Int32) (zfill_26 : Nat → Int32) => jn (fun (x4_27 : Int32) (zbest_28 : Nat → Int32) => wp_X12_nextOrder zorder_16 zdogs (fun (r_29 : Int32) (zorder_30 : Nat → Int32) => G22 x4_27 r_29 zatLeft_23 zatRight_24 zorder_30 zwent_25 zfill_26 zbest_28)) (fun (J58 : Int32 → (Nat → Int32) → Prop) => ((zatLeft_23 ≤ x4_12 → J58 x4_12 zbest_19) ∧ (¬ zatLeft_23 ≤ x4_12 → wp_X12_keepOrder zorder_16 zbest_19 (fun (zbest_32 : Nat → Int32) => J58 zatLeft_23 zbest_32))))))))) (fun G22 => G22 (-6 : Int32) (1 : Int32) zatLeft zatRight zorder_3 zwent zfill zbest)))) ∧ (r_1 = 0 → post (-2 : Int32) zatLeft zatRight zorder zwent zfill zbest)))
set_option maxHeartbeats 4000000 in
set_option maxRecDepth 100000 in
theorem c_X12_letOut (l : Launch) (D : va_G) (ci cz : ClassId) (tr : List (ClassId × FieldType)) (q0 q1 q2 q3 q4 q5 q6 q7 : Nat) (sz : Nat) (u0 u1 u2 u3 u4 u5 u6 u7 u8 u9 u10 u11 : Value) (zdogs : Int32) (zhungry : Int32) (zatLeft : Int32) (zatRight : Int32) (zhalves : Nat → Int32) (zlikes : Nat → Int32) (zfears : Nat → Int32) (zorder : Nat → Int32) (zwent : Nat → Int32) (zfill : Nat → Int32) (zbest : Nat → Int32) (a1 : Int32) (a2 : Int32) (a3 : Int32) (post : Int32 → Int32 → Int32 → (Nat → Int32) → (Nat → Int32) → (Nat → Int32) → (Nat → Int32) → Prop) (hw : wp_X12_letOut zdogs zhungry zatLeft zatRight zhalves zlikes zfears zorder zwent zfill zbest a1 a2 a3 post) : gM l yX12_letOut cX12_letOut 6 (some .int) 3 72 D ci cz tr [(q0, .inr (11, [.int zdogs, .ref q1, .ref q2, u0, .ref q3, u1, .int zhungry, u2, u3, u4, u5, u6, u7, .ref q4, .ref q5, .ref q6, .int zatLeft, .int zatRight, u8, .ref q7, u9, u10, u11])), (q1, .inl (ci, 7, .inl zhalves)), (q2, .inl (ci, 7, .inl zlikes)), (q3, .inl (ci, 7, .inl zfears)), (q4, .inl (ci, 7, .inl zorder)), (q5, .inl (ci, 7, .inl zwent)), (q6, .inl (ci, 7, .inl zfill)), (q7, .inl (ci, 7, .inl zbest))] sz [.ref q0, .int a1, .int a2, .int a3] (gQi D [(q0, .inr (11, [.int zdogs, .ref q1, .ref q2, u0, .ref q3, u1, .int zhungry, u2, u3, u4, u5, u6, u7, .ref q4, .ref q5, .ref q6, .int zatLeft, .int zatRight, u8, .ref q7, u9, u10, u11])), (q1, .inl (ci, 7, .inl zhalves)), (q2, .inl (ci, 7, .inl zlikes)), (q3, .inl (ci, 7, .inl zfears)), (q4, .inl (ci, 7, .inl zorder)), (q5, .inl (ci, 7, .inl zwent)), (q6, .inl (ci, 7, .inl zfill)), (q7, .inl (ci, 7, .inl zbest))] sz (fun (r : Int32) w => ∃ (o_zatLeft : Int32) (o_zatRight : Int32) (o_zorder : Nat → Int32) (o_zwent : Nat → Int32) (o_zfill : Nat → Int32) (o_zbest : Nat → Int32), w = [(q0, .inr (11, [.int zdogs, .ref q1, .ref q2, u0, .ref q3, u1, .int zhungry, u2, u3, u4, u5, u6, u7, .ref q4, .ref q5, .ref q6, .int o_zatLeft, .int o_zatRight, u8, .ref q7, u9, u10, u11])), (q1, .inl (ci, 7, .inl zhalves)), (q2, .inl (ci, 7, .inl zlikes)), (q3, .inl (ci, 7, .inl zfears)), (q4, .inl (ci, 7, .inl o_zorder)), (q5, .inl (ci, 7, .inl o_zwent)), (q6, .inl (ci, 7, .inl o_zfill)), (q7, .inl (ci, 7, .inl o_zbest))] ∧ post r o_zatLeft o_zatRight o_zorder o_zwent o_zfill o_zbest)) := by
  refine gmet_i RX12 (by decide +kernel) rfl (Nat.le_of_ble_eq_true rfl) ?_
  intro p e s m args below meth c A R Q C hfr hlc hP hD hret ls hl
  obtain ⟨hx, hb, hml, hown, ht, hK, hZ, hA⟩ := C
  have hl : lv_has ls 6 [(0, .ref q0), (1, .int a1), (2, .int a2), (3, .int a3)] := hl
  unfold wp_X12_letOut at hw
  refine g_in (fun H locs => W p l e R s m args below meth c H locs 0 0 Q (F0 m 0 ls [])) (fun H locs hS0 hP => ?_) hP (va_S.rf (A := A) (H0 := s.heap))
  have hS : va_S A s.heap H locs := hS0
  clear hS0
  refine lv_iload_n hx hb dX12_letOut_0 rfl (lv_at hl 1 rfl) ?_
  refine lv_iload_n hx hb dX12_letOut_1 rfl (lv_at hl 2 rfl) ?_
  refine gcalli (va_runS (As := [.int a1, .int a2]) (rest := []) ⟨hx, hb, hml, hown, ht⟩ (c_X12_areLivers l D ci cz tr  H.size a1 a2 _ hw) (va_cwS 2 ht (gi_S mM_X12_107 mT_X12_areLivers mN_X12 mC_X12_areLivers) rfl rfl rfl (by decide +kernel) ⟨Nat.le_trans (Nat.le_of_ble_eq_true rfl) hfr, Nat.le_trans (Nat.le_of_ble_eq_true rfl) hlc⟩) (gpre (wc := []) hK hZ hP hD hS hA [] rfl rfl) rfl rfl hl.1 rfl (lv_room (Nat.le_of_ble_eq_true rfl)) dX12_letOut_2 ⟨Nat.zero_le _, Nat.zero_le _⟩) hD hS hA [] rfl (fun r_1 w9 H locs hw hP9 hk9 hS => ?_)
  obtain ⟨rfl, hw⟩ := hw
  have hP : va_P D vwCl [(q0, .inr (11, [.int zdogs, .ref q1, .ref q2, u0, .ref q3, u1, .int zhungry, u2, u3, u4, u5, u6, u7, .ref q4, .ref q5, .ref q6, .int zatLeft, .int zatRight, u8, .ref q7, u9, u10, u11])), (q1, .inl (ci, 7, .inl zhalves)), (q2, .inl (ci, 7, .inl zlikes)), (q3, .inl (ci, 7, .inl zfears)), (q4, .inl (ci, 7, .inl zorder)), (q5, .inl (ci, 7, .inl zwent)), (q6, .inl (ci, 7, .inl zfill)), (q7, .inl (ci, 7, .inl zbest))] H := gjoin3 hP hD [] hP9 hk9 rfl rfl [none, none, none, none, none, none, none, none] rfl rfl
  clear hP9 hk9
  refine lv_if_ne (tgt := 11) hx hb dX12_letOut_5 (by decide) (fun hc => ?_) (fun hc => ?_)
  · have hw := hw.1 hc
    refine lv_aload_n hx hb dX12_letOut_11 rfl (lv_at hl 0 rfl) ?_
    refine gcallv (va_runV (As := []) (rest := []) ⟨hx, hb, hml, hown, ht⟩ (c_X12_byLetters l D ci cz tr q0 q4 H.size (.int zdogs) (.ref q1) (.ref q2) u0 (.ref q3) u1 (.int zhungry) u2 u3 u4 u5 u6 u7 (.ref q5) (.ref q6) (.int zatLeft) (.int zatRight) u8 (.ref q7) u9 u10 u11 zorder _ hw) (cwV 0 ht (gi_V mM_X12_97 mI_X12_byLetters mS_X12_byLetters mN_X12 mC_X12_byLetters) rfl rfl rfl (by decide +kernel) ⟨Nat.le_trans (Nat.le_of_ble_eq_true rfl) hfr, Nat.le_trans (Nat.le_of_ble_eq_true rfl) hlc⟩) (gpreV (wc := [(q0, .inr (11, [.int zdogs, .ref q1, .ref q2, u0, .ref q3, u1, .int zhungry, u2, u3, u4, u5, u6, u7, .ref q4, .ref q5, .ref q6, .int zatLeft, .int zatRight, u8, .ref q7, u9, u10, u11])), (q4, .inl (ci, 7, .inl zorder))]) (k := 11) (q0 := 0) hK hZ hP hD hS hA [0, 4] rfl rfl rfl rfl rfl) rfl rfl hl.1 rfl (lv_room (Nat.le_of_ble_eq_true rfl)) dX12_letOut_12 ⟨Nat.zero_le _, Nat.zero_le _⟩) hD hS hA [0, 4] rfl (fun w9 H locs hw hP9 hk9 hS => ?_)
    obtain ⟨zorder_3, rfl, hw⟩ := hw
    have hP : va_P D vwCl [(q0, .inr (11, [.int zdogs, .ref q1, .ref q2, u0, .ref q3, u1, .int zhungry, u2, u3, u4, u5, u6, u7, .ref q4, .ref q5, .ref q6, .int zatLeft, .int zatRight, u8, .ref q7, u9, u10, u11])), (q1, .inl (ci, 7, .inl zhalves)), (q2, .inl (ci, 7, .inl zlikes)), (q3, .inl (ci, 7, .inl zfears)), (q4, .inl (ci, 7, .inl zorder_3)), (q5, .inl (ci, 7, .inl zwent)), (q6, .inl (ci, 7, .inl zfill)), (q7, .inl (ci, 7, .inl zbest))] H := gjoin3 hP hD [0, 4] hP9 hk9 rfl rfl [some 0, none, none, none, some 1, none, none, none] rfl rfl
    have hD : va_D A [(q0, .inr (11, [.int zdogs, .ref q1, .ref q2, u0, .ref q3, u1, .int zhungry, u2, u3, u4, u5, u6, u7, .ref q4, .ref q5, .ref q6, .int zatLeft, .int zatRight, u8, .ref q7, u9, u10, u11])), (q1, .inl (ci, 7, .inl zhalves)), (q2, .inl (ci, 7, .inl zlikes)), (q3, .inl (ci, 7, .inl zfears)), (q4, .inl (ci, 7, .inl zorder_3)), (q5, .inl (ci, 7, .inl zwent)), (q6, .inl (ci, 7, .inl zfill)), (q7, .inl (ci, 7, .inl zbest))] := gD_re hD rfl
    clear hP9 hk9
    refine lv_bipush (v := (-6 : Int32)) hx hb dX12_letOut_15 (by decide) ?_
    refine lv_istore (lv' := [(4, .int (-6 : Int32)), (0, .ref q0), (1, .int a1), (2, .int a2), (3, .int a3)]) hx hb dX12_letOut_17 hl (by decide) rfl (fun ls hl => ?_)
    refine lv_iconst (v := (1 : Int32)) hx hb dX12_letOut_19 (by decide) ?_
    refine lv_istore (lv' := [(5, .int (1 : Int32)), (4, .int (-6 : Int32)), (0, .ref q0), (1, .int a1), (2, .int a2), (3, .int a3)]) hx hb dX12_letOut_20 hl (by decide) rfl (fun ls hl => ?_)
    refine jn_walk hw (fun J71 => ∀ (x4_4 : Int32) (zatLeft_5 : Int32) (zatRight_6 : Int32) (zorder_7 : Nat → Int32) (zwent_8 : Nat → Int32) (zfill_9 : Nat → Int32) (zbest_10 : Nat → Int32) (H : Heap) (locs : List Loc) (ls : Array Slot), J71 x4_4 zatLeft_5 zatRight_6 zorder_7 zwent_8 zfill_9 zbest_10 → va_P D vwCl [(q0, .inr (11, [.int zdogs, .ref q1, .ref q2, u0, .ref q3, u1, .int zhungry, u2, u3, u4, u5, u6, u7, .ref q4, .ref q5, .ref q6, .int zatLeft_5, .int zatRight_6, u8, .ref q7, u9, u10, u11])), (q1, .inl (ci, 7, .inl zhalves)), (q2, .inl (ci, 7, .inl zlikes)), (q3, .inl (ci, 7, .inl zfears)), (q4, .inl (ci, 7, .inl zorder_7)), (q5, .inl (ci, 7, .inl zwent_8)), (q6, .inl (ci, 7, .inl zfill_9)), (q7, .inl (ci, 7, .inl zbest_10))] H → va_S A s.heap H locs → lv_has ls 6 [(0, .ref q0), (3, .int a3), (4, .int x4_4)] → W p l e R s m args below meth c H locs 0 0 Q (F0 m 71 ls [])) ?_ ?_
    · intro x4_4 zatLeft_5 zatRight_6 zorder_7 zwent_8 zfill_9 zbest_10 H locs ls hw hP hS hl
      have hD : va_D A [(q0, .inr (11, [.int zdogs, .ref q1, .ref q2, u0, .ref q3, u1, .int zhungry, u2, u3, u4, u5, u6, u7, .ref q4, .ref q5, .ref q6, .int zatLeft_5, .int zatRight_6, u8, .ref q7, u9, u10, u11])), (q1, .inl (ci, 7, .inl zhalves)), (q2, .inl (ci, 7, .inl zlikes)), (q3, .inl (ci, 7, .inl zfears)), (q4, .inl (ci, 7, .inl zorder_7)), (q5, .inl (ci, 7, .inl zwent_8)), (q6, .inl (ci, 7, .inl zfill_9)), (q7, .inl (ci, 7, .inl zbest_10))] := gD_re hD rfl
      refine lv_iload_n hx hb dX12_letOut_71 rfl (lv_at hl 1 rfl) ?_
      refine lv_iconst (v := (-1 : Int32)) hx hb dX12_letOut_72 (by decide) ?_
      refine lv_icmp_ne (tgt := 81) hx hb dX12_letOut_73 (by decide) (fun hc => ?_) (fun hc => ?_)
      · have hw := hw.1 hc
        refine lv_aload_n hx hb dX12_letOut_81 rfl (lv_at hl 0 rfl) ?_
        refine lv_iload_n hx hb dX12_letOut_82 rfl (lv_at hl 1 rfl) ?_
        refine gcalli (va_runV (As := [.int a3]) (rest := []) ⟨hx, hb, hml, hown, ht⟩ (c_X12_isDog l D ci cz tr q0 H.size (.ref q1) (.ref q2) u0 (.ref q3) u1 (.int zhungry) u2 u3 u4 u5 u6 u7 (.ref q4) (.ref q5) (.ref q6) (.int zatLeft_5) (.int zatRight_6) u8 (.ref q7) u9 u10 u11 zdogs a3 _ hw) (cwV 1 ht (gi_V mM_X12_80 mI_X12_isDog mS_X12_isDog mN_X12 mC_X12_isDog) rfl rfl rfl (by decide +kernel) ⟨Nat.le_trans (Nat.le_of_ble_eq_true rfl) hfr, Nat.le_trans (Nat.le_of_ble_eq_true rfl) hlc⟩) (gpreV (wc := [(q0, .inr (11, [.int zdogs, .ref q1, .ref q2, u0, .ref q3, u1, .int zhungry, u2, u3, u4, u5, u6, u7, .ref q4, .ref q5, .ref q6, .int zatLeft_5, .int zatRight_6, u8, .ref q7, u9, u10, u11]))]) (k := 11) (q0 := 0) hK hZ hP hD hS hA [0] rfl rfl rfl rfl rfl) rfl rfl hl.1 rfl (lv_room (Nat.le_of_ble_eq_true rfl)) dX12_letOut_83 ⟨Nat.zero_le _, Nat.zero_le _⟩) hD hS hA [0] rfl (fun r_11 w9 H locs hw hP9 hk9 hS => ?_)
        obtain ⟨rfl, hw⟩ := hw
        have hP : va_P D vwCl [(q0, .inr (11, [.int zdogs, .ref q1, .ref q2, u0, .ref q3, u1, .int zhungry, u2, u3, u4, u5, u6, u7, .ref q4, .ref q5, .ref q6, .int zatLeft_5, .int zatRight_6, u8, .ref q7, u9, u10, u11])), (q1, .inl (ci, 7, .inl zhalves)), (q2, .inl (ci, 7, .inl zlikes)), (q3, .inl (ci, 7, .inl zfears)), (q4, .inl (ci, 7, .inl zorder_7)), (q5, .inl (ci, 7, .inl zwent_8)), (q6, .inl (ci, 7, .inl zfill_9)), (q7, .inl (ci, 7, .inl zbest_10))] H := gjoin3 hP hD [0] hP9 hk9 rfl rfl [some 0, none, none, none, none, none, none, none] rfl rfl
        clear hP9 hk9
        refine lv_if_eq (tgt := 98) hx hb dX12_letOut_86 (by decide) (fun hc => ?_) (fun hc => ?_)
        · have hw := hw.1 hc
          refine lv_bipush (v := (-6 : Int32)) hx hb dX12_letOut_98 (by decide) ?_
          exact hret _ _ H locs _ _ ⟨_, _, _, _, _, _, rfl, hw⟩ hP hS dX12_letOut_100
        · have hw := hw.2 hc
          refine lv_aload_n hx hb dX12_letOut_89 rfl (lv_at hl 0 rfl) ?_
          refine va_get (D := D) (ci := 11) (v := .ref q7) (C := RX12) (T := TX12) (N := 23) hx hb ht in_X12 hown hK.1 hP 0 rfl rfl 19 (by decide) (ht _ mF_X12_51) (fun _ h9 => h9) rfl dX12_letOut_90 ?_
          refine lv_iload_n hx hb dX12_letOut_93 rfl (lv_at hl 1 rfl) ?_
          obtain ⟨hin, hw⟩ := hw
          refine va_iald (D := D) hx hb hK.1 hP 7 0 rfl rfl hin dX12_letOut_94 ?_
          refine lv_goto (tgt := 100) hx hb dX12_letOut_95 (by decide) ?_
          exact hret _ _ H locs _ _ ⟨_, _, _, _, _, _, rfl, hw⟩ hP hS dX12_letOut_100
      · have hw := hw.2 hc
        refine lv_iload hx hb dX12_letOut_76 (lv_at hl 2 rfl) ?_
        refine lv_goto (tgt := 100) hx hb dX12_letOut_78 (by decide) ?_
        exact hret _ _ H locs _ _ ⟨_, _, _, _, _, _, rfl, hw⟩ hP hS dX12_letOut_100
    · intro J71 hJ71 hw
      refine lo_walk hw (fun G22 => ∀ (x4_12 : Int32) (x5_13 : Int32) (zatLeft_14 : Int32) (zatRight_15 : Int32) (zorder_16 : Nat → Int32) (zwent_17 : Nat → Int32) (zfill_18 : Nat → Int32) (zbest_19 : Nat → Int32) (H : Heap) (locs : List Loc) (ls : Array Slot), G22 x4_12 x5_13 zatLeft_14 zatRight_15 zorder_16 zwent_17 zfill_18 zbest_19 → va_P D vwCl [(q0, .inr (11, [.int zdogs, .ref q1, .ref q2, u0, .ref q3, u1, .int zhungry, u2, u3, u4, u5, u6, u7, .ref q4, .ref q5, .ref q6, .int zatLeft_14, .int zatRight_15, u8, .ref q7, u9, u10, u11])), (q1, .inl (ci, 7, .inl zhalves)), (q2, .inl (ci, 7, .inl zlikes)), (q3, .inl (ci, 7, .inl zfears)), (q4, .inl (ci, 7, .inl zorder_16)), (q5, .inl (ci, 7, .inl zwent_17)), (q6, .inl (ci, 7, .inl zfill_18)), (q7, .inl (ci, 7, .inl zbest_19))] H → va_S A s.heap H locs → lv_has ls 6 [(0, .ref q0), (1, .int a1), (2, .int a2), (3, .int a3), (4, .int x4_12), (5, .int x5_13)] → W p l e R s m args below meth c H locs 0 0 Q (F0 m 22 ls [])) (fun _ _ _ _ _ _ _ _ _ _ _ hw _ _ _ => False.elim hw) (fun G22 hG22 x4_12 x5_13 zatLeft_14 zatRight_15 zorder_16 zwent_17 zfill_18 zbest_19 H locs ls hw hP hS hl => ?_) (fun G22 hG22 hw => hG22 _ _ _ _ _ _ _ _ H locs ls hw hP hS (lv_sub hl [2, 3, 4, 5, 1, 0] rfl))
      have hD : va_D A [(q0, .inr (11, [.int zdogs, .ref q1, .ref q2, u0, .ref q3, u1, .int zhungry, u2, u3, u4, u5, u6, u7, .ref q4, .ref q5, .ref q6, .int zatLeft_14, .int zatRight_15, u8, .ref q7, u9, u10, u11])), (q1, .inl (ci, 7, .inl zhalves)), (q2, .inl (ci, 7, .inl zlikes)), (q3, .inl (ci, 7, .inl zfears)), (q4, .inl (ci, 7, .inl zorder_16)), (q5, .inl (ci, 7, .inl zwent_17)), (q6, .inl (ci, 7, .inl zfill_18)), (q7, .inl (ci, 7, .inl zbest_19))] := gD_re hD rfl
      refine lv_iload hx hb dX12_letOut_22 (lv_at hl 5 rfl) ?_
      refine lv_if_eq (tgt := 71) hx hb dX12_letOut_24 (by decide) (fun hc => ?_) (fun hc => ?_)
      · have hw := hw.1 hc
        exact hJ71 _ _ _ _ _ _ _ H locs ls hw hP hS (lv_sub hl [0, 3, 4] rfl)
      · have hw := hw.2 hc
        refine lv_aload_n hx hb dX12_letOut_27 rfl (lv_at hl 0 rfl) ?_
        refine gcallv (va_runV (As := []) (rest := []) ⟨hx, hb, hml, hown, ht⟩ (c_X12_nobodyFull l D ci cz tr q0 q6 H.size (.int zdogs) (.ref q1) (.ref q2) u0 (.ref q3) u1 (.int zhungry) u2 u3 u4 u5 u6 u7 (.ref q4) (.ref q5) (.int zatLeft_14) (.int zatRight_15) u8 (.ref q7) u9 u10 u11 zfill_18 _ hw) (cwV 0 ht (gi_V mM_X12_100 mI_X12_nobodyFull mS_X12_nobodyFull mN_X12 mC_X12_nobodyFull) rfl rfl rfl (by decide +kernel) ⟨Nat.le_trans (Nat.le_of_ble_eq_true rfl) hfr, Nat.le_trans (Nat.le_of_ble_eq_true rfl) hlc⟩) (gpreV (wc := [(q0, .inr (11, [.int zdogs, .ref q1, .ref q2, u0, .ref q3, u1, .int zhungry, u2, u3, u4, u5, u6, u7, .ref q4, .ref q5, .ref q6, .int zatLeft_14, .int zatRight_15, u8, .ref q7, u9, u10, u11])), (q6, .inl (ci, 7, .inl zfill_18))]) (k := 11) (q0 := 0) hK hZ hP hD hS hA [0, 6] rfl rfl rfl rfl rfl) rfl rfl hl.1 rfl (lv_room (Nat.le_of_ble_eq_true rfl)) dX12_letOut_28 ⟨Nat.zero_le _, Nat.zero_le _⟩) hD hS hA [0, 6] rfl (fun w9 H locs hw hP9 hk9 hS => ?_)
        obtain ⟨zfill_21, rfl, hw⟩ := hw
        have hP : va_P D vwCl [(q0, .inr (11, [.int zdogs, .ref q1, .ref q2, u0, .ref q3, u1, .int zhungry, u2, u3, u4, u5, u6, u7, .ref q4, .ref q5, .ref q6, .int zatLeft_14, .int zatRight_15, u8, .ref q7, u9, u10, u11])), (q1, .inl (ci, 7, .inl zhalves)), (q2, .inl (ci, 7, .inl zlikes)), (q3, .inl (ci, 7, .inl zfears)), (q4, .inl (ci, 7, .inl zorder_16)), (q5, .inl (ci, 7, .inl zwent_17)), (q6, .inl (ci, 7, .inl zfill_21)), (q7, .inl (ci, 7, .inl zbest_19))] H := gjoin3 hP hD [0, 6] hP9 hk9 rfl rfl [some 0, none, none, none, none, none, some 1, none] rfl rfl
        have hD : va_D A [(q0, .inr (11, [.int zdogs, .ref q1, .ref q2, u0, .ref q3, u1, .int zhungry, u2, u3, u4, u5, u6, u7, .ref q4, .ref q5, .ref q6, .int zatLeft_14, .int zatRight_15, u8, .ref q7, u9, u10, u11])), (q1, .inl (ci, 7, .inl zhalves)), (q2, .inl (ci, 7, .inl zlikes)), (q3, .inl (ci, 7, .inl zfears)), (q4, .inl (ci, 7, .inl zorder_16)), (q5, .inl (ci, 7, .inl zwent_17)), (q6, .inl (ci, 7, .inl zfill_21)), (q7, .inl (ci, 7, .inl zbest_19))] := gD_re hD rfl
        clear hP9 hk9
        refine lv_aload_n hx hb dX12_letOut_31 rfl (lv_at hl 0 rfl) ?_
        refine lv_iload_n hx hb dX12_letOut_32 rfl (lv_at hl 1 rfl) ?_
        refine lv_iload_n hx hb dX12_letOut_33 rfl (lv_at hl 2 rfl) ?_
        refine lv_bipush (v := (-6 : Int32)) hx hb dX12_letOut_34 (by decide) ?_
        refine gcallv (va_runV (As := [.int a1, .int a2, .int (-6 : Int32)]) (rest := []) ⟨hx, hb, hml, hown, ht⟩ (c_X12_letGo l D ci cz tr q0 q1 q2 q3 q4 q5 q6 H.size u0 u1 u2 u3 u4 u5 u6 u7 u8 (.ref q7) u9 u10 u11 zdogs zhungry zatLeft_14 zatRight_15 zhalves zlikes zfears zorder_16 zwent_17 zfill_21 a1 a2 (-6 : Int32) _ hw) (cwV 3 ht (gi_V mM_X12_103 mI_X12_letGo mS_X12_letGo mN_X12 mC_X12_letGo) rfl rfl rfl (by decide +kernel) ⟨Nat.le_trans (Nat.le_of_ble_eq_true rfl) hfr, Nat.le_trans (Nat.le_of_ble_eq_true rfl) hlc⟩) (gpreV (wc := [(q0, .inr (11, [.int zdogs, .ref q1, .ref q2, u0, .ref q3, u1, .int zhungry, u2, u3, u4, u5, u6, u7, .ref q4, .ref q5, .ref q6, .int zatLeft_14, .int zatRight_15, u8, .ref q7, u9, u10, u11])), (q1, .inl (ci, 7, .inl zhalves)), (q2, .inl (ci, 7, .inl zlikes)), (q3, .inl (ci, 7, .inl zfears)), (q4, .inl (ci, 7, .inl zorder_16)), (q5, .inl (ci, 7, .inl zwent_17)), (q6, .inl (ci, 7, .inl zfill_21))]) (k := 11) (q0 := 0) hK hZ hP hD hS hA [0, 1, 2, 3, 4, 5, 6] rfl rfl rfl rfl rfl) rfl rfl hl.1 rfl (lv_room (Nat.le_of_ble_eq_true rfl)) dX12_letOut_36 ⟨Nat.zero_le _, Nat.zero_le _⟩) hD hS hA [0, 1, 2, 3, 4, 5, 6] rfl (fun w9 H locs hw hP9 hk9 hS => ?_)
        obtain ⟨zatLeft_23, zatRight_24, zwent_25, zfill_26, rfl, hw⟩ := hw
        have hP : va_P D vwCl [(q0, .inr (11, [.int zdogs, .ref q1, .ref q2, u0, .ref q3, u1, .int zhungry, u2, u3, u4, u5, u6, u7, .ref q4, .ref q5, .ref q6, .int zatLeft_23, .int zatRight_24, u8, .ref q7, u9, u10, u11])), (q1, .inl (ci, 7, .inl zhalves)), (q2, .inl (ci, 7, .inl zlikes)), (q3, .inl (ci, 7, .inl zfears)), (q4, .inl (ci, 7, .inl zorder_16)), (q5, .inl (ci, 7, .inl zwent_25)), (q6, .inl (ci, 7, .inl zfill_26)), (q7, .inl (ci, 7, .inl zbest_19))] H := gjoin3 hP hD [0, 1, 2, 3, 4, 5, 6] hP9 hk9 rfl rfl [some 0, some 1, some 2, some 3, some 4, some 5, some 6, none] rfl rfl
        have hD : va_D A [(q0, .inr (11, [.int zdogs, .ref q1, .ref q2, u0, .ref q3, u1, .int zhungry, u2, u3, u4, u5, u6, u7, .ref q4, .ref q5, .ref q6, .int zatLeft_23, .int zatRight_24, u8, .ref q7, u9, u10, u11])), (q1, .inl (ci, 7, .inl zhalves)), (q2, .inl (ci, 7, .inl zlikes)), (q3, .inl (ci, 7, .inl zfears)), (q4, .inl (ci, 7, .inl zorder_16)), (q5, .inl (ci, 7, .inl zwent_25)), (q6, .inl (ci, 7, .inl zfill_26)), (q7, .inl (ci, 7, .inl zbest_19))] := gD_re hD rfl
        clear hP9 hk9
        refine lv_aload_n hx hb dX12_letOut_39 rfl (lv_at hl 0 rfl) ?_
        refine va_get (D := D) (ci := 11) (v := .int zatLeft_23) (C := RX12) (T := TX12) (N := 23) hx hb ht in_X12 hown hK.1 hP 0 rfl rfl 16 (by decide) (ht _ mF_X12_88) (fun _ h9 => h9) rfl dX12_letOut_40 ?_
        refine lv_iload hx hb dX12_letOut_43 (lv_at hl 4 rfl) ?_
        refine jn_walk hw (fun J58 => ∀ (x4_27 : Int32) (zbest_28 : Nat → Int32) (H : Heap) (locs : List Loc) (ls : Array Slot), J58 x4_27 zbest_28 → va_P D vwCl [(q0, .inr (11, [.int zdogs, .ref q1, .ref q2, u0, .ref q3, u1, .int zhungry, u2, u3, u4, u5, u6, u7, .ref q4, .ref q5, .ref q6, .int zatLeft_23, .int zatRight_24, u8, .ref q7, u9, u10, u11])), (q1, .inl (ci, 7, .inl zhalves)), (q2, .inl (ci, 7, .inl zlikes)), (q3, .inl (ci, 7, .inl zfears)), (q4, .inl (ci, 7, .inl zorder_16)), (q5, .inl (ci, 7, .inl zwent_25)), (q6, .inl (ci, 7, .inl zfill_26)), (q7, .inl (ci, 7, .inl zbest_28))] H → va_S A s.heap H locs → lv_has ls 6 [(0, .ref q0), (1, .int a1), (2, .int a2), (3, .int a3), (4, .int x4_27)] → W p l e R s m args below meth c H locs 0 0 Q (F0 m 58 ls [])) ?_ ?_
        · intro x4_27 zbest_28 H locs ls hw hP hS hl
          have hD : va_D A [(q0, .inr (11, [.int zdogs, .ref q1, .ref q2, u0, .ref q3, u1, .int zhungry, u2, u3, u4, u5, u6, u7, .ref q4, .ref q5, .ref q6, .int zatLeft_23, .int zatRight_24, u8, .ref q7, u9, u10, u11])), (q1, .inl (ci, 7, .inl zhalves)), (q2, .inl (ci, 7, .inl zlikes)), (q3, .inl (ci, 7, .inl zfears)), (q4, .inl (ci, 7, .inl zorder_16)), (q5, .inl (ci, 7, .inl zwent_25)), (q6, .inl (ci, 7, .inl zfill_26)), (q7, .inl (ci, 7, .inl zbest_28))] := gD_re hD rfl
          refine lv_aload_n hx hb dX12_letOut_58 rfl (lv_at hl 0 rfl) ?_
          refine lv_aload_n hx hb dX12_letOut_59 rfl (lv_at hl 0 rfl) ?_
          refine va_get (D := D) (ci := 11) (v := .int zdogs) (C := RX12) (T := TX12) (N := 23) hx hb ht in_X12 hown hK.1 hP 0 rfl rfl 0 (by decide) (ht _ mF_X12_63) (fun _ h9 => h9) rfl dX12_letOut_60 ?_
          refine gcalli (va_runV (As := [.int zdogs]) (rest := []) ⟨hx, hb, hml, hown, ht⟩ (c_X12_nextOrder l D ci cz tr q0 q4 H.size (.int zdogs) (.ref q1) (.ref q2) u0 (.ref q3) u1 (.int zhungry) u2 u3 u4 u5 u6 u7 (.ref q5) (.ref q6) (.int zatLeft_23) (.int zatRight_24) u8 (.ref q7) u9 u10 u11 zorder_16 zdogs _ hw) (cwV 1 ht (gi_V mM_X12_130 mI_X12_nextOrder mS_X12_nextOrder mN_X12 mC_X12_nextOrder) rfl rfl rfl (by decide +kernel) ⟨Nat.le_trans (Nat.le_of_ble_eq_true rfl) hfr, Nat.le_trans (Nat.le_of_ble_eq_true rfl) hlc⟩) (gpreV (wc := [(q0, .inr (11, [.int zdogs, .ref q1, .ref q2, u0, .ref q3, u1, .int zhungry, u2, u3, u4, u5, u6, u7, .ref q4, .ref q5, .ref q6, .int zatLeft_23, .int zatRight_24, u8, .ref q7, u9, u10, u11])), (q4, .inl (ci, 7, .inl zorder_16))]) (k := 11) (q0 := 0) hK hZ hP hD hS hA [0, 4] rfl rfl rfl rfl rfl) rfl rfl hl.1 rfl (lv_room (Nat.le_of_ble_eq_true rfl)) dX12_letOut_63 ⟨Nat.zero_le _, Nat.zero_le _⟩) hD hS hA [0, 4] rfl (fun r_29 w9 H locs hw hP9 hk9 hS => ?_)
          obtain ⟨zorder_30, rfl, hw⟩ := hw
          have hP : va_P D vwCl [(q0, .inr (11, [.int zdogs, .ref q1, .ref q2, u0, .ref q3, u1, .int zhungry, u2, u3, u4, u5, u6, u7, .ref q4, .ref q5, .ref q6, .int zatLeft_23, .int zatRight_24, u8, .ref q7, u9, u10, u11])), (q1, .inl (ci, 7, .inl zhalves)), (q2, .inl (ci, 7, .inl zlikes)), (q3, .inl (ci, 7, .inl zfears)), (q4, .inl (ci, 7, .inl zorder_30)), (q5, .inl (ci, 7, .inl zwent_25)), (q6, .inl (ci, 7, .inl zfill_26)), (q7, .inl (ci, 7, .inl zbest_28))] H := gjoin3 hP hD [0, 4] hP9 hk9 rfl rfl [some 0, none, none, none, some 1, none, none, none] rfl rfl
          have hD : va_D A [(q0, .inr (11, [.int zdogs, .ref q1, .ref q2, u0, .ref q3, u1, .int zhungry, u2, u3, u4, u5, u6, u7, .ref q4, .ref q5, .ref q6, .int zatLeft_23, .int zatRight_24, u8, .ref q7, u9, u10, u11])), (q1, .inl (ci, 7, .inl zhalves)), (q2, .inl (ci, 7, .inl zlikes)), (q3, .inl (ci, 7, .inl zfears)), (q4, .inl (ci, 7, .inl zorder_30)), (q5, .inl (ci, 7, .inl zwent_25)), (q6, .inl (ci, 7, .inl zfill_26)), (q7, .inl (ci, 7, .inl zbest_28))] := gD_re hD rfl
          clear hP9 hk9
          refine lv_istore (lv' := [(5, .int r_29), (0, .ref q0), (1, .int a1), (2, .int a2), (3, .int a3), (4, .int x4_27)]) hx hb dX12_letOut_66 hl (by decide) rfl (fun ls hl => ?_)
          refine lv_goto (tgt := 22) hx hb dX12_letOut_68 (by decide) ?_
          exact hG22 _ _ _ _ _ _ _ _ H locs ls hw hP hS (lv_sub hl [1, 2, 3, 4, 5, 0] rfl)
        · intro J58 hJ58 hw
          refine lv_icmp_le (tgt := 58) hx hb dX12_letOut_45 (by decide) (fun hc => ?_) (fun hc => ?_)
          · have hw := hw.1 hc
            exact hJ58 _ _ H locs ls hw hP hS (lv_sub hl [0, 1, 2, 3, 4] rfl)
          · have hw := hw.2 hc
            refine lv_aload_n hx hb dX12_letOut_48 rfl (lv_at hl 0 rfl) ?_
            refine va_get (D := D) (ci := 11) (v := .int zatLeft_23) (C := RX12) (T := TX12) (N := 23) hx hb ht in_X12 hown hK.1 hP 0 rfl rfl 16 (by decide) (ht _ mF_X12_88) (fun _ h9 => h9) rfl dX12_letOut_49 ?_
            refine lv_istore (lv' := [(4, .int zatLeft_23), (0, .ref q0), (1, .int a1), (2, .int a2), (3, .int a3), (5, .int x5_13)]) hx hb dX12_letOut_52 hl (by decide) rfl (fun ls hl => ?_)
            refine lv_aload_n hx hb dX12_letOut_54 rfl (lv_at hl 1 rfl) ?_
            refine gcallv (va_runV (As := []) (rest := []) ⟨hx, hb, hml, hown, ht⟩ (c_X12_keepOrder l D ci cz tr q0 q4 q7 H.size (.int zdogs) (.ref q1) (.ref q2) u0 (.ref q3) u1 (.int zhungry) u2 u3 u4 u5 u6 u7 (.ref q5) (.ref q6) (.int zatLeft_23) (.int zatRight_24) u8 u9 u10 u11 zorder_16 zbest_19 _ hw) (cwV 0 ht (gi_V mM_X12_127 mI_X12_keepOrder mS_X12_keepOrder mN_X12 mC_X12_keepOrder) rfl rfl rfl (by decide +kernel) ⟨Nat.le_trans (Nat.le_of_ble_eq_true rfl) hfr, Nat.le_trans (Nat.le_of_ble_eq_true rfl) hlc⟩) (gpreV (wc := [(q0, .inr (11, [.int zdogs, .ref q1, .ref q2, u0, .ref q3, u1, .int zhungry, u2, u3, u4, u5, u6, u7, .ref q4, .ref q5, .ref q6, .int zatLeft_23, .int zatRight_24, u8, .ref q7, u9, u10, u11])), (q4, .inl (ci, 7, .inl zorder_16)), (q7, .inl (ci, 7, .inl zbest_19))]) (k := 11) (q0 := 0) hK hZ hP hD hS hA [0, 4, 7] rfl rfl rfl rfl rfl) rfl rfl hl.1 rfl (lv_room (Nat.le_of_ble_eq_true rfl)) dX12_letOut_55 ⟨Nat.zero_le _, Nat.zero_le _⟩) hD hS hA [0, 4, 7] rfl (fun w9 H locs hw hP9 hk9 hS => ?_)
            obtain ⟨zbest_32, rfl, hw⟩ := hw
            have hP : va_P D vwCl [(q0, .inr (11, [.int zdogs, .ref q1, .ref q2, u0, .ref q3, u1, .int zhungry, u2, u3, u4, u5, u6, u7, .ref q4, .ref q5, .ref q6, .int zatLeft_23, .int zatRight_24, u8, .ref q7, u9, u10, u11])), (q1, .inl (ci, 7, .inl zhalves)), (q2, .inl (ci, 7, .inl zlikes)), (q3, .inl (ci, 7, .inl zfears)), (q4, .inl (ci, 7, .inl zorder_16)), (q5, .inl (ci, 7, .inl zwent_25)), (q6, .inl (ci, 7, .inl zfill_26)), (q7, .inl (ci, 7, .inl zbest_32))] H := gjoin3 hP hD [0, 4, 7] hP9 hk9 rfl rfl [some 0, none, none, none, some 1, none, none, some 2] rfl rfl
            have hD : va_D A [(q0, .inr (11, [.int zdogs, .ref q1, .ref q2, u0, .ref q3, u1, .int zhungry, u2, u3, u4, u5, u6, u7, .ref q4, .ref q5, .ref q6, .int zatLeft_23, .int zatRight_24, u8, .ref q7, u9, u10, u11])), (q1, .inl (ci, 7, .inl zhalves)), (q2, .inl (ci, 7, .inl zlikes)), (q3, .inl (ci, 7, .inl zfears)), (q4, .inl (ci, 7, .inl zorder_16)), (q5, .inl (ci, 7, .inl zwent_25)), (q6, .inl (ci, 7, .inl zfill_26)), (q7, .inl (ci, 7, .inl zbest_32))] := gD_re hD rfl
            clear hP9 hk9
            exact hJ58 _ _ H locs ls hw hP hS (lv_sub hl [1, 2, 3, 4, 0] rfl)
  · have hw := hw.2 hc
    refine lv_bipush (v := (-2 : Int32)) hx hb dX12_letOut_8 (by decide) ?_
    exact hret _ _ H locs _ _ ⟨_, _, _, _, _, _, rfl, hw⟩ hP hS dX12_letOut_10

def wp_X12_liking (zdogs : Int32) (zhungry : Int32) (zcounts : Int32) (zatLeft : Int32) (zatRight : Int32) (zhalves : Nat → Int32) (zlikes : Nat → Int32) (zisTold : Nat → Int32) (zfears : Nat → Int32) (zcount : Nat → Int32) (zorder : Nat → Int32) (zwent : Nat → Int32) (zfill : Nat → Int32) (a1 : Int32) (a2 : Int32) (post : Int32 → Int32 → Int32 → (Nat → Int32) → (Nat → Int32) → (Nat → Int32) → (Nat → Int32) → Prop) : Prop :=
  wp_X12_isDog zdogs a1 (fun (r_1 : Int32) => ((r_1 = 0 → post (-1 : Int32) zatLeft zatRight zlikes zorder zwent zfill) ∧ (¬ r_1 = 0 → (vp_in a1 7 ∧ (((zisTold (a1).toNatClampNeg) = 0 → wp_X12_in a2 (0 : Int32) (1 : Int32) (fun (r_2 : Int32) => ((¬ r_2 = 0 → jn (fun (x3_3 : Int32) (x4_4 : Int32) (zatLeft_5 : Int32) (zatRight_6 : Int32) (zlikes_7 : Nat → Int32) (zorder_8 : Nat → Int32) (zwent_9 : Nat → Int32) (zfill_10 : Nat → Int32) => wp_X12_unwrite zdogs zlikes_7 zisTold (fun (zlikes_12 : Nat → Int32) => ((0 ≤ x4_4 → ((¬ a2 = 0 → post x4_4 zatLeft_5 zatRight_6 zlikes_12 zorder_8 zwent_9 zfill_10) ∧ (a2 = 0 → post x3_3 zatLeft_5 zatRight_6 zlikes_12 zorder_8 zwent_9 zfill_10))) ∧ (¬ 0 ≤ x4_4 → post (-3 : Int32) zatLeft_5 zatRight_6 zlikes_12 zorder_8 zwent_9 zfill_10)))) (fun (J105 : Int32 → Int32 → Int32 → Int32 → (Nat → Int32) → (Nat → Int32) → (Nat → Int32) → (Nat → Int32) → Prop) => lo (fun _ _ _ _ _ _ _ _ _ => False) (fun (G41 : Int32 → Int32 → Int32 → Int32 → Int32 → (Nat → Int32) → (Nat → Int32) → (Nat → Int32) → (Nat → Int32) → Prop) (x3_13 : Int32) (x4_14 : Int32) (x5_15 : Int32) (zatLeft_16 : Int32) (zatRight_17 : Int32) (zlikes_18 : Nat → Int32) (zorder_19 : Nat → Int32) (zwent_20 : Nat → Int32) (zfill_21 : Nat → Int32) => wp_X12_codes zdogs zisTold (fun (r_22 : Int32) => ((r_22 ≤ x5_15 → J105 x3_13 x4_14 zatLeft_16 zatRight_17 zlikes_18 zorder_19 zwent_20 zfill_21) ∧ (¬ r_22 ≤ x5_15 → wp_X12_write zdogs zhungry zcounts zatLeft_16 zatRight_17 zhalves zlikes_18 zisTold zfears zcount zorder_19 zwent_20 zfill_21 x5_15 (fun (r_23 : Int32) (zatLeft_24 : Int32) (zatRight_25 : Int32) (zlikes_26 : Nat → Int32) (zorder_27 : Nat → Int32) (zwent_28 : Nat → Int32) (zfill_29 : Nat → Int32) => ((r_23 = 0 → G41 x3_13 x4_14 (x5_15 + (1 : Int32)) zatLeft_24 zatRight_25 zlikes_26 zorder_27 zwent_28 zfill_29) ∧ (¬ r_23 = 0 → (vp_in a1 7 ∧ jn (fun (t_30 : Int32) => jn (fun (t_31 : Int32) => G41 t_30 t_31 (x5_15 + (1 : Int32)) zatLeft_24 zatRight_25 zlikes_26 zorder_27 zwent_28 zfill_29) (fun (J97 : Int32 → Prop) => ((((zlikes_26 (a1).toNatClampNeg) + (9 : Int32)) ≤ x4_14 → J97 x4_14) ∧ (¬ ((zlikes_26 (a1).toNatClampNeg) + (9 : Int32)) ≤ x4_14 → J97 ((zlikes_26 (a1).toNatClampNeg) + (9 : Int32)))))) (fun (J82 : Int32 → Prop) => ((x3_13 ≤ ((zlikes_26 (a1).toNatClampNeg) + (9 : Int32)) → J82 x3_13) ∧ (¬ x3_13 ≤ ((zlikes_26 (a1).toNatClampNeg) + (9 : Int32)) → J82 ((zlikes_26 (a1).toNatClampNeg) + (9 : Int32))))))))))))) (fun G41 => G41 (100 : Int32) (-6 : Int32) (0 : Int32) zatLeft zatRight zlikes zorder zwent zfill))) ∧ (r_2 = 0 → post (-2 : Int32) zatLeft zatRight zlikes zorder zwent zfill)))) ∧ (¬ (zisTold (a1).toNatClampNeg) = 0 → post (-1 : Int32) zatLeft zatRight zlikes zorder zwent zfill))))))
set_option maxHeartbeats 4000000 in
set_option maxRecDepth 100000 in
theorem c_X12_liking (l : Launch) (D : va_G) (ci cz : ClassId) (tr : List (ClassId × FieldType)) (q0 q1 q2 q3 q4 q5 q6 q7 q8 : Nat) (sz : Nat) (u0 u1 u2 u3 u4 u5 u6 u7 u8 u9 : Value) (zdogs : Int32) (zhungry : Int32) (zcounts : Int32) (zatLeft : Int32) (zatRight : Int32) (zhalves : Nat → Int32) (zlikes : Nat → Int32) (zisTold : Nat → Int32) (zfears : Nat → Int32) (zcount : Nat → Int32) (zorder : Nat → Int32) (zwent : Nat → Int32) (zfill : Nat → Int32) (a1 : Int32) (a2 : Int32) (post : Int32 → Int32 → Int32 → (Nat → Int32) → (Nat → Int32) → (Nat → Int32) → (Nat → Int32) → Prop) (hw : wp_X12_liking zdogs zhungry zcounts zatLeft zatRight zhalves zlikes zisTold zfears zcount zorder zwent zfill a1 a2 post) : gM l yX12_liking cX12_liking 7 (some .int) 5 119 D ci cz tr [(q0, .inr (11, [.int zdogs, .ref q1, .ref q2, .ref q3, .ref q4, u0, .int zhungry, .int zcounts, .ref q5, u1, u2, u3, u4, .ref q6, .ref q7, .ref q8, .int zatLeft, .int zatRight, u5, u6, u7, u8, u9])), (q1, .inl (ci, 7, .inl zhalves)), (q2, .inl (ci, 7, .inl zlikes)), (q3, .inl (cz, 7, .inl zisTold)), (q4, .inl (ci, 7, .inl zfears)), (q5, .inl (ci, 18, .inl zcount)), (q6, .inl (ci, 7, .inl zorder)), (q7, .inl (ci, 7, .inl zwent)), (q8, .inl (ci, 7, .inl zfill))] sz [.ref q0, .int a1, .int a2] (gQi D [(q0, .inr (11, [.int zdogs, .ref q1, .ref q2, .ref q3, .ref q4, u0, .int zhungry, .int zcounts, .ref q5, u1, u2, u3, u4, .ref q6, .ref q7, .ref q8, .int zatLeft, .int zatRight, u5, u6, u7, u8, u9])), (q1, .inl (ci, 7, .inl zhalves)), (q2, .inl (ci, 7, .inl zlikes)), (q3, .inl (cz, 7, .inl zisTold)), (q4, .inl (ci, 7, .inl zfears)), (q5, .inl (ci, 18, .inl zcount)), (q6, .inl (ci, 7, .inl zorder)), (q7, .inl (ci, 7, .inl zwent)), (q8, .inl (ci, 7, .inl zfill))] sz (fun (r : Int32) w => ∃ (o_zatLeft : Int32) (o_zatRight : Int32) (o_zlikes : Nat → Int32) (o_zorder : Nat → Int32) (o_zwent : Nat → Int32) (o_zfill : Nat → Int32), w = [(q0, .inr (11, [.int zdogs, .ref q1, .ref q2, .ref q3, .ref q4, u0, .int zhungry, .int zcounts, .ref q5, u1, u2, u3, u4, .ref q6, .ref q7, .ref q8, .int o_zatLeft, .int o_zatRight, u5, u6, u7, u8, u9])), (q1, .inl (ci, 7, .inl zhalves)), (q2, .inl (ci, 7, .inl o_zlikes)), (q3, .inl (cz, 7, .inl zisTold)), (q4, .inl (ci, 7, .inl zfears)), (q5, .inl (ci, 18, .inl zcount)), (q6, .inl (ci, 7, .inl o_zorder)), (q7, .inl (ci, 7, .inl o_zwent)), (q8, .inl (ci, 7, .inl o_zfill))] ∧ post r o_zatLeft o_zatRight o_zlikes o_zorder o_zwent o_zfill)) := by
  refine gmet_i RX12 (by decide +kernel) rfl (Nat.le_of_ble_eq_true rfl) ?_
  intro p e s m args below meth c A R Q C hfr hlc hP hD hret ls hl
  obtain ⟨hx, hb, hml, hown, ht, hK, hZ, hA⟩ := C
  have hl : lv_has ls 7 [(0, .ref q0), (1, .int a1), (2, .int a2)] := hl
  unfold wp_X12_liking at hw
  refine g_in (fun H locs => W p l e R s m args below meth c H locs 0 0 Q (F0 m 0 ls [])) (fun H locs hS0 hP => ?_) hP (va_S.rf (A := A) (H0 := s.heap))
  have hS : va_S A s.heap H locs := hS0
  clear hS0
  refine lv_aload_n hx hb dX12_liking_0 rfl (lv_at hl 0 rfl) ?_
  refine lv_iload_n hx hb dX12_liking_1 rfl (lv_at hl 1 rfl) ?_
  refine gcalli (va_runV (As := [.int a1]) (rest := []) ⟨hx, hb, hml, hown, ht⟩ (c_X12_isDog l D ci cz tr q0 H.size (.ref q1) (.ref q2) (.ref q3) (.ref q4) u0 (.int zhungry) (.int zcounts) (.ref q5) u1 u2 u3 u4 (.ref q6) (.ref q7) (.ref q8) (.int zatLeft) (.int zatRight) u5 u6 u7 u8 u9 zdogs a1 _ hw) (cwV 1 ht (gi_V mM_X12_80 mI_X12_isDog mS_X12_isDog mN_X12 mC_X12_isDog) rfl rfl rfl (by decide +kernel) ⟨Nat.le_trans (Nat.le_of_ble_eq_true rfl) hfr, Nat.le_trans (Nat.le_of_ble_eq_true rfl) hlc⟩) (gpreV (wc := [(q0, .inr (11, [.int zdogs, .ref q1, .ref q2, .ref q3, .ref q4, u0, .int zhungry, .int zcounts, .ref q5, u1, u2, u3, u4, .ref q6, .ref q7, .ref q8, .int zatLeft, .int zatRight, u5, u6, u7, u8, u9]))]) (k := 11) (q0 := 0) hK hZ hP hD hS hA [0] rfl rfl rfl rfl rfl) rfl rfl hl.1 rfl (lv_room (Nat.le_of_ble_eq_true rfl)) dX12_liking_2 ⟨Nat.zero_le _, Nat.zero_le _⟩) hD hS hA [0] rfl (fun r_1 w9 H locs hw hP9 hk9 hS => ?_)
  obtain ⟨rfl, hw⟩ := hw
  have hP : va_P D vwCl [(q0, .inr (11, [.int zdogs, .ref q1, .ref q2, .ref q3, .ref q4, u0, .int zhungry, .int zcounts, .ref q5, u1, u2, u3, u4, .ref q6, .ref q7, .ref q8, .int zatLeft, .int zatRight, u5, u6, u7, u8, u9])), (q1, .inl (ci, 7, .inl zhalves)), (q2, .inl (ci, 7, .inl zlikes)), (q3, .inl (cz, 7, .inl zisTold)), (q4, .inl (ci, 7, .inl zfears)), (q5, .inl (ci, 18, .inl zcount)), (q6, .inl (ci, 7, .inl zorder)), (q7, .inl (ci, 7, .inl zwent)), (q8, .inl (ci, 7, .inl zfill))] H := gjoin3 hP hD [0] hP9 hk9 rfl rfl [some 0, none, none, none, none, none, none, none, none] rfl rfl
  clear hP9 hk9
  refine lv_if_eq (tgt := 17) hx hb dX12_liking_5 (by decide) (fun hc => ?_) (fun hc => ?_)
  · have hw := hw.1 hc
    refine lv_iconst (v := (-1 : Int32)) hx hb dX12_liking_17 (by decide) ?_
    exact hret _ _ H locs _ _ ⟨_, _, _, _, _, _, rfl, hw⟩ hP hS dX12_liking_18
  · have hw := hw.2 hc
    refine lv_aload_n hx hb dX12_liking_8 rfl (lv_at hl 0 rfl) ?_
    refine va_get (D := D) (ci := 11) (v := .ref q3) (C := RX12) (T := TX12) (N := 23) hx hb ht in_X12 hown hK.1 hP 0 rfl rfl 3 (by decide) (ht _ mF_X12_16) (fun _ h9 => h9) rfl dX12_liking_9 ?_
    refine lv_iload_n hx hb dX12_liking_12 rfl (lv_at hl 1 rfl) ?_
    obtain ⟨hin, hw⟩ := hw
    refine va_zald (D := D) hx hb hK.1 hP 3 1 rfl rfl hin dX12_liking_13 ?_
    refine lv_if_eq (tgt := 19) hx hb dX12_liking_14 (by decide) (fun hc => ?_) (fun hc => ?_)
    · have hw := hw.1 hc
      refine lv_iload_n hx hb dX12_liking_19 rfl (lv_at hl 2 rfl) ?_
      refine lv_iconst (v := (0 : Int32)) hx hb dX12_liking_20 (by decide) ?_
      refine lv_iconst (v := (1 : Int32)) hx hb dX12_liking_21 (by decide) ?_
      refine gcalli (va_runS (As := [.int a2, .int (0 : Int32), .int (1 : Int32)]) (rest := []) ⟨hx, hb, hml, hown, ht⟩ (c_X12_in l D ci cz tr  H.size a2 (0 : Int32) (1 : Int32) _ hw) (va_cwS 3 ht (gi_S mM_X12_66 mT_X12_in mN_X12 mC_X12_in) rfl rfl rfl (by decide +kernel) ⟨Nat.le_trans (Nat.le_of_ble_eq_true rfl) hfr, Nat.le_trans (Nat.le_of_ble_eq_true rfl) hlc⟩) (gpre (wc := []) hK hZ hP hD hS hA [] rfl rfl) rfl rfl hl.1 rfl (lv_room (Nat.le_of_ble_eq_true rfl)) dX12_liking_22 ⟨Nat.zero_le _, Nat.zero_le _⟩) hD hS hA [] rfl (fun r_2 w9 H locs hw hP9 hk9 hS => ?_)
      obtain ⟨rfl, hw⟩ := hw
      have hP : va_P D vwCl [(q0, .inr (11, [.int zdogs, .ref q1, .ref q2, .ref q3, .ref q4, u0, .int zhungry, .int zcounts, .ref q5, u1, u2, u3, u4, .ref q6, .ref q7, .ref q8, .int zatLeft, .int zatRight, u5, u6, u7, u8, u9])), (q1, .inl (ci, 7, .inl zhalves)), (q2, .inl (ci, 7, .inl zlikes)), (q3, .inl (cz, 7, .inl zisTold)), (q4, .inl (ci, 7, .inl zfears)), (q5, .inl (ci, 18, .inl zcount)), (q6, .inl (ci, 7, .inl zorder)), (q7, .inl (ci, 7, .inl zwent)), (q8, .inl (ci, 7, .inl zfill))] H := gjoin3 hP hD [] hP9 hk9 rfl rfl [none, none, none, none, none, none, none, none, none] rfl rfl
      clear hP9 hk9
      refine lv_if_ne (tgt := 31) hx hb dX12_liking_25 (by decide) (fun hc => ?_) (fun hc => ?_)
      · have hw := hw.1 hc
        refine lv_bipush (v := (100 : Int32)) hx hb dX12_liking_31 (by decide) ?_
        refine lv_istore_n (lv' := [(3, .int (100 : Int32)), (0, .ref q0), (1, .int a1), (2, .int a2)]) hx hb dX12_liking_33 rfl hl (by decide) rfl (fun ls hl => ?_)
        refine lv_bipush (v := (-6 : Int32)) hx hb dX12_liking_34 (by decide) ?_
        refine lv_istore (lv' := [(4, .int (-6 : Int32)), (3, .int (100 : Int32)), (0, .ref q0), (1, .int a1), (2, .int a2)]) hx hb dX12_liking_36 hl (by decide) rfl (fun ls hl => ?_)
        refine lv_iconst (v := (0 : Int32)) hx hb dX12_liking_38 (by decide) ?_
        refine lv_istore (lv' := [(5, .int (0 : Int32)), (4, .int (-6 : Int32)), (3, .int (100 : Int32)), (0, .ref q0), (1, .int a1), (2, .int a2)]) hx hb dX12_liking_39 hl (by decide) rfl (fun ls hl => ?_)
        refine jn_walk hw (fun J105 => ∀ (x3_3 : Int32) (x4_4 : Int32) (zatLeft_5 : Int32) (zatRight_6 : Int32) (zlikes_7 : Nat → Int32) (zorder_8 : Nat → Int32) (zwent_9 : Nat → Int32) (zfill_10 : Nat → Int32) (H : Heap) (locs : List Loc) (ls : Array Slot), J105 x3_3 x4_4 zatLeft_5 zatRight_6 zlikes_7 zorder_8 zwent_9 zfill_10 → va_P D vwCl [(q0, .inr (11, [.int zdogs, .ref q1, .ref q2, .ref q3, .ref q4, u0, .int zhungry, .int zcounts, .ref q5, u1, u2, u3, u4, .ref q6, .ref q7, .ref q8, .int zatLeft_5, .int zatRight_6, u5, u6, u7, u8, u9])), (q1, .inl (ci, 7, .inl zhalves)), (q2, .inl (ci, 7, .inl zlikes_7)), (q3, .inl (cz, 7, .inl zisTold)), (q4, .inl (ci, 7, .inl zfears)), (q5, .inl (ci, 18, .inl zcount)), (q6, .inl (ci, 7, .inl zorder_8)), (q7, .inl (ci, 7, .inl zwent_9)), (q8, .inl (ci, 7, .inl zfill_10))] H → va_S A s.heap H locs → lv_has ls 7 [(0, .ref q0), (2, .int a2), (3, .int x3_3), (4, .int x4_4)] → W p l e R s m args below meth c H locs 0 0 Q (F0 m 105 ls [])) ?_ ?_
        · intro x3_3 x4_4 zatLeft_5 zatRight_6 zlikes_7 zorder_8 zwent_9 zfill_10 H locs ls hw hP hS hl
          have hD : va_D A [(q0, .inr (11, [.int zdogs, .ref q1, .ref q2, .ref q3, .ref q4, u0, .int zhungry, .int zcounts, .ref q5, u1, u2, u3, u4, .ref q6, .ref q7, .ref q8, .int zatLeft_5, .int zatRight_6, u5, u6, u7, u8, u9])), (q1, .inl (ci, 7, .inl zhalves)), (q2, .inl (ci, 7, .inl zlikes_7)), (q3, .inl (cz, 7, .inl zisTold)), (q4, .inl (ci, 7, .inl zfears)), (q5, .inl (ci, 18, .inl zcount)), (q6, .inl (ci, 7, .inl zorder_8)), (q7, .inl (ci, 7, .inl zwent_9)), (q8, .inl (ci, 7, .inl zfill_10))] := gD_re hD rfl
          refine lv_aload_n hx hb dX12_liking_105 rfl (lv_at hl 0 rfl) ?_
          refine gcallv (va_runV (As := []) (rest := []) ⟨hx, hb, hml, hown, ht⟩ (c_X12_unwrite l D ci cz tr q0 q2 q3 H.size (.ref q1) (.ref q4) u0 (.int zhungry) (.int zcounts) (.ref q5) u1 u2 u3 u4 (.ref q6) (.ref q7) (.ref q8) (.int zatLeft_5) (.int zatRight_6) u5 u6 u7 u8 u9 zdogs zlikes_7 zisTold _ hw) (cwV 0 ht (gi_V mM_X12_162 mI_X12_unwrite mS_X12_unwrite mN_X12 mC_X12_unwrite) rfl rfl rfl (by decide +kernel) ⟨Nat.le_trans (Nat.le_of_ble_eq_true rfl) hfr, Nat.le_trans (Nat.le_of_ble_eq_true rfl) hlc⟩) (gpreV (wc := [(q0, .inr (11, [.int zdogs, .ref q1, .ref q2, .ref q3, .ref q4, u0, .int zhungry, .int zcounts, .ref q5, u1, u2, u3, u4, .ref q6, .ref q7, .ref q8, .int zatLeft_5, .int zatRight_6, u5, u6, u7, u8, u9])), (q2, .inl (ci, 7, .inl zlikes_7)), (q3, .inl (cz, 7, .inl zisTold))]) (k := 11) (q0 := 0) hK hZ hP hD hS hA [0, 2, 3] rfl rfl rfl rfl rfl) rfl rfl hl.1 rfl (lv_room (Nat.le_of_ble_eq_true rfl)) dX12_liking_106 ⟨Nat.zero_le _, Nat.zero_le _⟩) hD hS hA [0, 2, 3] rfl (fun w9 H locs hw hP9 hk9 hS => ?_)
          obtain ⟨zlikes_12, rfl, hw⟩ := hw
          have hP : va_P D vwCl [(q0, .inr (11, [.int zdogs, .ref q1, .ref q2, .ref q3, .ref q4, u0, .int zhungry, .int zcounts, .ref q5, u1, u2, u3, u4, .ref q6, .ref q7, .ref q8, .int zatLeft_5, .int zatRight_6, u5, u6, u7, u8, u9])), (q1, .inl (ci, 7, .inl zhalves)), (q2, .inl (ci, 7, .inl zlikes_12)), (q3, .inl (cz, 7, .inl zisTold)), (q4, .inl (ci, 7, .inl zfears)), (q5, .inl (ci, 18, .inl zcount)), (q6, .inl (ci, 7, .inl zorder_8)), (q7, .inl (ci, 7, .inl zwent_9)), (q8, .inl (ci, 7, .inl zfill_10))] H := gjoin3 hP hD [0, 2, 3] hP9 hk9 rfl rfl [some 0, none, some 1, some 2, none, none, none, none, none] rfl rfl
          have hD : va_D A [(q0, .inr (11, [.int zdogs, .ref q1, .ref q2, .ref q3, .ref q4, u0, .int zhungry, .int zcounts, .ref q5, u1, u2, u3, u4, .ref q6, .ref q7, .ref q8, .int zatLeft_5, .int zatRight_6, u5, u6, u7, u8, u9])), (q1, .inl (ci, 7, .inl zhalves)), (q2, .inl (ci, 7, .inl zlikes_12)), (q3, .inl (cz, 7, .inl zisTold)), (q4, .inl (ci, 7, .inl zfears)), (q5, .inl (ci, 18, .inl zcount)), (q6, .inl (ci, 7, .inl zorder_8)), (q7, .inl (ci, 7, .inl zwent_9)), (q8, .inl (ci, 7, .inl zfill_10))] := gD_re hD rfl
          clear hP9 hk9
          refine lv_iload hx hb dX12_liking_109 (lv_at hl 3 rfl) ?_
          refine lv_if_ge (tgt := 119) hx hb dX12_liking_111 (by decide) (fun hc => ?_) (fun hc => ?_)
          · have hw := hw.1 hc
            refine lv_iload_n hx hb dX12_liking_119 rfl (lv_at hl 1 rfl) ?_
            refine lv_if_ne (tgt := 127) hx hb dX12_liking_120 (by decide) (fun hc => ?_) (fun hc => ?_)
            · have hw := hw.1 hc
              refine lv_iload hx hb dX12_liking_127 (lv_at hl 3 rfl) ?_
              exact hret _ _ H locs _ _ ⟨_, _, _, _, _, _, rfl, hw⟩ hP hS dX12_liking_129
            · have hw := hw.2 hc
              refine lv_iload_n hx hb dX12_liking_123 rfl (lv_at hl 2 rfl) ?_
              refine lv_goto (tgt := 129) hx hb dX12_liking_124 (by decide) ?_
              exact hret _ _ H locs _ _ ⟨_, _, _, _, _, _, rfl, hw⟩ hP hS dX12_liking_129
          · have hw := hw.2 hc
            refine lv_bipush (v := (-3 : Int32)) hx hb dX12_liking_114 (by decide) ?_
            refine lv_goto (tgt := 129) hx hb dX12_liking_116 (by decide) ?_
            exact hret _ _ H locs _ _ ⟨_, _, _, _, _, _, rfl, hw⟩ hP hS dX12_liking_129
        · intro J105 hJ105 hw
          refine lo_walk hw (fun G41 => ∀ (x3_13 : Int32) (x4_14 : Int32) (x5_15 : Int32) (zatLeft_16 : Int32) (zatRight_17 : Int32) (zlikes_18 : Nat → Int32) (zorder_19 : Nat → Int32) (zwent_20 : Nat → Int32) (zfill_21 : Nat → Int32) (H : Heap) (locs : List Loc) (ls : Array Slot), G41 x3_13 x4_14 x5_15 zatLeft_16 zatRight_17 zlikes_18 zorder_19 zwent_20 zfill_21 → va_P D vwCl [(q0, .inr (11, [.int zdogs, .ref q1, .ref q2, .ref q3, .ref q4, u0, .int zhungry, .int zcounts, .ref q5, u1, u2, u3, u4, .ref q6, .ref q7, .ref q8, .int zatLeft_16, .int zatRight_17, u5, u6, u7, u8, u9])), (q1, .inl (ci, 7, .inl zhalves)), (q2, .inl (ci, 7, .inl zlikes_18)), (q3, .inl (cz, 7, .inl zisTold)), (q4, .inl (ci, 7, .inl zfears)), (q5, .inl (ci, 18, .inl zcount)), (q6, .inl (ci, 7, .inl zorder_19)), (q7, .inl (ci, 7, .inl zwent_20)), (q8, .inl (ci, 7, .inl zfill_21))] H → va_S A s.heap H locs → lv_has ls 7 [(0, .ref q0), (1, .int a1), (2, .int a2), (3, .int x3_13), (4, .int x4_14), (5, .int x5_15)] → W p l e R s m args below meth c H locs 0 0 Q (F0 m 41 ls [])) (fun _ _ _ _ _ _ _ _ _ _ _ _ hw _ _ _ => False.elim hw) (fun G41 hG41 x3_13 x4_14 x5_15 zatLeft_16 zatRight_17 zlikes_18 zorder_19 zwent_20 zfill_21 H locs ls hw hP hS hl => ?_) (fun G41 hG41 hw => hG41 _ _ _ _ _ _ _ _ _ H locs ls hw hP hS (lv_sub hl [3, 4, 5, 2, 1, 0] rfl))
          have hD : va_D A [(q0, .inr (11, [.int zdogs, .ref q1, .ref q2, .ref q3, .ref q4, u0, .int zhungry, .int zcounts, .ref q5, u1, u2, u3, u4, .ref q6, .ref q7, .ref q8, .int zatLeft_16, .int zatRight_17, u5, u6, u7, u8, u9])), (q1, .inl (ci, 7, .inl zhalves)), (q2, .inl (ci, 7, .inl zlikes_18)), (q3, .inl (cz, 7, .inl zisTold)), (q4, .inl (ci, 7, .inl zfears)), (q5, .inl (ci, 18, .inl zcount)), (q6, .inl (ci, 7, .inl zorder_19)), (q7, .inl (ci, 7, .inl zwent_20)), (q8, .inl (ci, 7, .inl zfill_21))] := gD_re hD rfl
          refine lv_iload hx hb dX12_liking_41 (lv_at hl 5 rfl) ?_
          refine lv_aload_n hx hb dX12_liking_43 rfl (lv_at hl 0 rfl) ?_
          refine gcalli (va_runV (As := []) (rest := [.int x5_15]) ⟨hx, hb, hml, hown, ht⟩ (c_X12_codes l D ci cz tr q0 q3 H.size (.ref q1) (.ref q2) (.ref q4) u0 (.int zhungry) (.int zcounts) (.ref q5) u1 u2 u3 u4 (.ref q6) (.ref q7) (.ref q8) (.int zatLeft_16) (.int zatRight_17) u5 u6 u7 u8 u9 zdogs zisTold _ hw) (cwV 0 ht (gi_V mM_X12_156 mI_X12_codes mS_X12_codes mN_X12 mC_X12_codes) rfl rfl rfl (by decide +kernel) ⟨Nat.le_trans (Nat.le_of_ble_eq_true rfl) hfr, Nat.le_trans (Nat.le_of_ble_eq_true rfl) hlc⟩) (gpreV (wc := [(q0, .inr (11, [.int zdogs, .ref q1, .ref q2, .ref q3, .ref q4, u0, .int zhungry, .int zcounts, .ref q5, u1, u2, u3, u4, .ref q6, .ref q7, .ref q8, .int zatLeft_16, .int zatRight_17, u5, u6, u7, u8, u9])), (q3, .inl (cz, 7, .inl zisTold))]) (k := 11) (q0 := 0) hK hZ hP hD hS hA [0, 3] rfl rfl rfl rfl rfl) rfl rfl hl.1 rfl (lv_room (Nat.le_of_ble_eq_true rfl)) dX12_liking_44 ⟨Nat.zero_le _, Nat.zero_le _⟩) hD hS hA [0, 3] rfl (fun r_22 w9 H locs hw hP9 hk9 hS => ?_)
          obtain ⟨rfl, hw⟩ := hw
          have hP : va_P D vwCl [(q0, .inr (11, [.int zdogs, .ref q1, .ref q2, .ref q3, .ref q4, u0, .int zhungry, .int zcounts, .ref q5, u1, u2, u3, u4, .ref q6, .ref q7, .ref q8, .int zatLeft_16, .int zatRight_17, u5, u6, u7, u8, u9])), (q1, .inl (ci, 7, .inl zhalves)), (q2, .inl (ci, 7, .inl zlikes_18)), (q3, .inl (cz, 7, .inl zisTold)), (q4, .inl (ci, 7, .inl zfears)), (q5, .inl (ci, 18, .inl zcount)), (q6, .inl (ci, 7, .inl zorder_19)), (q7, .inl (ci, 7, .inl zwent_20)), (q8, .inl (ci, 7, .inl zfill_21))] H := gjoin3 hP hD [0, 3] hP9 hk9 rfl rfl [some 0, none, none, some 1, none, none, none, none, none] rfl rfl
          clear hP9 hk9
          refine lv_icmp_ge (tgt := 105) hx hb dX12_liking_47 (by decide) (fun hc => ?_) (fun hc => ?_)
          · have hw := hw.1 hc
            exact hJ105 _ _ _ _ _ _ _ _ H locs ls hw hP hS (lv_sub hl [0, 2, 3, 4] rfl)
          · have hw := hw.2 hc
            refine lv_aload_n hx hb dX12_liking_50 rfl (lv_at hl 0 rfl) ?_
            refine lv_iload hx hb dX12_liking_51 (lv_at hl 5 rfl) ?_
            refine gcalli (va_runV (As := [.int x5_15]) (rest := []) ⟨hx, hb, hml, hown, ht⟩ (c_X12_write l D ci cz tr q0 q1 q2 q3 q4 q5 q6 q7 q8 H.size u0 u1 u2 u3 u4 u5 u6 u7 u8 u9 zdogs zhungry zcounts zatLeft_16 zatRight_17 zhalves zlikes_18 zisTold zfears zcount zorder_19 zwent_20 zfill_21 x5_15 _ hw) (cwV 1 ht (gi_V mM_X12_159 mI_X12_write mS_X12_write mN_X12 mC_X12_write) rfl rfl rfl (by decide +kernel) ⟨Nat.le_trans (Nat.le_of_ble_eq_true rfl) hfr, Nat.le_trans (Nat.le_of_ble_eq_true rfl) hlc⟩) (gpreV (wc := [(q0, .inr (11, [.int zdogs, .ref q1, .ref q2, .ref q3, .ref q4, u0, .int zhungry, .int zcounts, .ref q5, u1, u2, u3, u4, .ref q6, .ref q7, .ref q8, .int zatLeft_16, .int zatRight_17, u5, u6, u7, u8, u9])), (q1, .inl (ci, 7, .inl zhalves)), (q2, .inl (ci, 7, .inl zlikes_18)), (q3, .inl (cz, 7, .inl zisTold)), (q4, .inl (ci, 7, .inl zfears)), (q5, .inl (ci, 18, .inl zcount)), (q6, .inl (ci, 7, .inl zorder_19)), (q7, .inl (ci, 7, .inl zwent_20)), (q8, .inl (ci, 7, .inl zfill_21))]) (k := 11) (q0 := 0) hK hZ hP hD hS hA [0, 1, 2, 3, 4, 5, 6, 7, 8] rfl rfl rfl rfl rfl) rfl rfl hl.1 rfl (lv_room (Nat.le_of_ble_eq_true rfl)) dX12_liking_53 ⟨Nat.zero_le _, Nat.zero_le _⟩) hD hS hA [0, 1, 2, 3, 4, 5, 6, 7, 8] rfl (fun r_23 w9 H locs hw hP9 hk9 hS => ?_)
            obtain ⟨zatLeft_24, zatRight_25, zlikes_26, zorder_27, zwent_28, zfill_29, rfl, hw⟩ := hw
            have hP : va_P D vwCl [(q0, .inr (11, [.int zdogs, .ref q1, .ref q2, .ref q3, .ref q4, u0, .int zhungry, .int zcounts, .ref q5, u1, u2, u3, u4, .ref q6, .ref q7, .ref q8, .int zatLeft_24, .int zatRight_25, u5, u6, u7, u8, u9])), (q1, .inl (ci, 7, .inl zhalves)), (q2, .inl (ci, 7, .inl zlikes_26)), (q3, .inl (cz, 7, .inl zisTold)), (q4, .inl (ci, 7, .inl zfears)), (q5, .inl (ci, 18, .inl zcount)), (q6, .inl (ci, 7, .inl zorder_27)), (q7, .inl (ci, 7, .inl zwent_28)), (q8, .inl (ci, 7, .inl zfill_29))] H := gjoin3 hP hD [0, 1, 2, 3, 4, 5, 6, 7, 8] hP9 hk9 rfl rfl [some 0, some 1, some 2, some 3, some 4, some 5, some 6, some 7, some 8] rfl rfl
            have hD : va_D A [(q0, .inr (11, [.int zdogs, .ref q1, .ref q2, .ref q3, .ref q4, u0, .int zhungry, .int zcounts, .ref q5, u1, u2, u3, u4, .ref q6, .ref q7, .ref q8, .int zatLeft_24, .int zatRight_25, u5, u6, u7, u8, u9])), (q1, .inl (ci, 7, .inl zhalves)), (q2, .inl (ci, 7, .inl zlikes_26)), (q3, .inl (cz, 7, .inl zisTold)), (q4, .inl (ci, 7, .inl zfears)), (q5, .inl (ci, 18, .inl zcount)), (q6, .inl (ci, 7, .inl zorder_27)), (q7, .inl (ci, 7, .inl zwent_28)), (q8, .inl (ci, 7, .inl zfill_29))] := gD_re hD rfl
            clear hP9 hk9
            refine lv_if_eq (tgt := 99) hx hb dX12_liking_56 (by decide) (fun hc => ?_) (fun hc => ?_)
            · have hw := hw.1 hc
              refine lv_iinc (v := (x5_15 + (1 : Int32))) (lv' := [(5, .int (x5_15 + (1 : Int32))), (0, .ref q0), (1, .int a1), (2, .int a2), (3, .int x3_13), (4, .int x4_14)]) hx hb dX12_liking_99 hl (k := 5) rfl rfl (by decide) rfl (fun ls hl => ?_)
              refine lv_goto (tgt := 41) hx hb dX12_liking_102 (by decide) ?_
              exact hG41 _ _ _ _ _ _ _ _ _ H locs ls hw hP hS (lv_sub hl [1, 2, 3, 4, 5, 0] rfl)
            · have hw := hw.2 hc
              refine lv_aload_n hx hb dX12_liking_59 rfl (lv_at hl 0 rfl) ?_
              refine va_get (D := D) (ci := 11) (v := .ref q2) (C := RX12) (T := TX12) (N := 23) hx hb ht in_X12 hown hK.1 hP 0 rfl rfl 2 (by decide) (ht _ mF_X12_13) (fun _ h9 => h9) rfl dX12_liking_60 ?_
              refine lv_iload_n hx hb dX12_liking_63 rfl (lv_at hl 1 rfl) ?_
              obtain ⟨hin, hw⟩ := hw
              refine va_iald (D := D) hx hb hK.1 hP 2 0 rfl rfl hin dX12_liking_64 ?_
              refine lv_bipush (v := (9 : Int32)) hx hb dX12_liking_65 (by decide) ?_
              refine lv_iadd hx hb dX12_liking_67 ?_
              refine lv_istore (lv' := [(6, .int ((zlikes_26 (a1).toNatClampNeg) + (9 : Int32))), (0, .ref q0), (1, .int a1), (2, .int a2), (3, .int x3_13), (4, .int x4_14), (5, .int x5_15)]) hx hb dX12_liking_68 hl (by decide) rfl (fun ls hl => ?_)
              refine lv_iload hx hb dX12_liking_70 (lv_at hl 0 rfl) ?_
              refine lv_iload_n hx hb dX12_liking_72 rfl (lv_at hl 4 rfl) ?_
              refine jn_walk hw (fun J82 => ∀ (t_30 : Int32) (H : Heap) (locs : List Loc) (ls : Array Slot), J82 t_30 → va_P D vwCl [(q0, .inr (11, [.int zdogs, .ref q1, .ref q2, .ref q3, .ref q4, u0, .int zhungry, .int zcounts, .ref q5, u1, u2, u3, u4, .ref q6, .ref q7, .ref q8, .int zatLeft_24, .int zatRight_25, u5, u6, u7, u8, u9])), (q1, .inl (ci, 7, .inl zhalves)), (q2, .inl (ci, 7, .inl zlikes_26)), (q3, .inl (cz, 7, .inl zisTold)), (q4, .inl (ci, 7, .inl zfears)), (q5, .inl (ci, 18, .inl zcount)), (q6, .inl (ci, 7, .inl zorder_27)), (q7, .inl (ci, 7, .inl zwent_28)), (q8, .inl (ci, 7, .inl zfill_29))] H → va_S A s.heap H locs → lv_has ls 7 [(0, .ref q0), (1, .int a1), (2, .int a2), (4, .int x4_14), (5, .int x5_15), (6, .int ((zlikes_26 (a1).toNatClampNeg) + (9 : Int32)))] → W p l e R s m args below meth c H locs 0 0 Q (F0 m 82 ls [.int t_30])) ?_ ?_
              · intro t_30 H locs ls hw hP hS hl
                have hD : va_D A [(q0, .inr (11, [.int zdogs, .ref q1, .ref q2, .ref q3, .ref q4, u0, .int zhungry, .int zcounts, .ref q5, u1, u2, u3, u4, .ref q6, .ref q7, .ref q8, .int zatLeft_24, .int zatRight_25, u5, u6, u7, u8, u9])), (q1, .inl (ci, 7, .inl zhalves)), (q2, .inl (ci, 7, .inl zlikes_26)), (q3, .inl (cz, 7, .inl zisTold)), (q4, .inl (ci, 7, .inl zfears)), (q5, .inl (ci, 18, .inl zcount)), (q6, .inl (ci, 7, .inl zorder_27)), (q7, .inl (ci, 7, .inl zwent_28)), (q8, .inl (ci, 7, .inl zfill_29))] := gD_re hD rfl
                refine lv_istore_n (lv' := [(3, .int t_30), (0, .ref q0), (1, .int a1), (2, .int a2), (4, .int x4_14), (5, .int x5_15), (6, .int ((zlikes_26 (a1).toNatClampNeg) + (9 : Int32)))]) hx hb dX12_liking_82 rfl hl (by decide) rfl (fun ls hl => ?_)
                refine lv_iload hx hb dX12_liking_83 (lv_at hl 6 rfl) ?_
                refine lv_iload hx hb dX12_liking_85 (lv_at hl 4 rfl) ?_
                refine jn_walk hw (fun J97 => ∀ (t_31 : Int32) (H : Heap) (locs : List Loc) (ls : Array Slot), J97 t_31 → va_P D vwCl [(q0, .inr (11, [.int zdogs, .ref q1, .ref q2, .ref q3, .ref q4, u0, .int zhungry, .int zcounts, .ref q5, u1, u2, u3, u4, .ref q6, .ref q7, .ref q8, .int zatLeft_24, .int zatRight_25, u5, u6, u7, u8, u9])), (q1, .inl (ci, 7, .inl zhalves)), (q2, .inl (ci, 7, .inl zlikes_26)), (q3, .inl (cz, 7, .inl zisTold)), (q4, .inl (ci, 7, .inl zfears)), (q5, .inl (ci, 18, .inl zcount)), (q6, .inl (ci, 7, .inl zorder_27)), (q7, .inl (ci, 7, .inl zwent_28)), (q8, .inl (ci, 7, .inl zfill_29))] H → va_S A s.heap H locs → lv_has ls 7 [(0, .ref q0), (1, .int a1), (2, .int a2), (3, .int t_30), (5, .int x5_15)] → W p l e R s m args below meth c H locs 0 0 Q (F0 m 97 ls [.int t_31])) ?_ ?_
                · intro t_31 H locs ls hw hP hS hl
                  have hD : va_D A [(q0, .inr (11, [.int zdogs, .ref q1, .ref q2, .ref q3, .ref q4, u0, .int zhungry, .int zcounts, .ref q5, u1, u2, u3, u4, .ref q6, .ref q7, .ref q8, .int zatLeft_24, .int zatRight_25, u5, u6, u7, u8, u9])), (q1, .inl (ci, 7, .inl zhalves)), (q2, .inl (ci, 7, .inl zlikes_26)), (q3, .inl (cz, 7, .inl zisTold)), (q4, .inl (ci, 7, .inl zfears)), (q5, .inl (ci, 18, .inl zcount)), (q6, .inl (ci, 7, .inl zorder_27)), (q7, .inl (ci, 7, .inl zwent_28)), (q8, .inl (ci, 7, .inl zfill_29))] := gD_re hD rfl
                  refine lv_istore (lv' := [(4, .int t_31), (0, .ref q0), (1, .int a1), (2, .int a2), (3, .int t_30), (5, .int x5_15)]) hx hb dX12_liking_97 hl (by decide) rfl (fun ls hl => ?_)
                  refine lv_iinc (v := (x5_15 + (1 : Int32))) (lv' := [(5, .int (x5_15 + (1 : Int32))), (4, .int t_31), (0, .ref q0), (1, .int a1), (2, .int a2), (3, .int t_30)]) hx hb dX12_liking_99 hl (k := 5) rfl rfl (by decide) rfl (fun ls hl => ?_)
                  refine lv_goto (tgt := 41) hx hb dX12_liking_102 (by decide) ?_
                  exact hG41 _ _ _ _ _ _ _ _ _ H locs ls hw hP hS (lv_sub hl [2, 3, 4, 5, 1, 0] rfl)
                · intro J97 hJ97 hw
                  refine lv_icmp_le (tgt := 95) hx hb dX12_liking_87 (by decide) (fun hc => ?_) (fun hc => ?_)
                  · have hw := hw.1 hc
                    refine lv_iload hx hb dX12_liking_95 (lv_at hl 4 rfl) ?_
                    exact hJ97 _ H locs ls hw hP hS (lv_sub hl [1, 2, 3, 0, 5] rfl)
                  · have hw := hw.2 hc
                    refine lv_iload hx hb dX12_liking_90 (lv_at hl 6 rfl) ?_
                    refine lv_goto (tgt := 97) hx hb dX12_liking_92 (by decide) ?_
                    exact hJ97 _ H locs ls hw hP hS (lv_sub hl [1, 2, 3, 0, 5] rfl)
              · intro J82 hJ82 hw
                refine lv_icmp_ge (tgt := 81) hx hb dX12_liking_73 (by decide) (fun hc => ?_) (fun hc => ?_)
                · have hw := hw.1 hc
                  refine lv_iload_n hx hb dX12_liking_81 rfl (lv_at hl 4 rfl) ?_
                  exact hJ82 _ H locs ls hw hP hS (lv_sub hl [1, 2, 3, 5, 6, 0] rfl)
                · have hw := hw.2 hc
                  refine lv_iload hx hb dX12_liking_76 (lv_at hl 0 rfl) ?_
                  refine lv_goto (tgt := 82) hx hb dX12_liking_78 (by decide) ?_
                  exact hJ82 _ H locs ls hw hP hS (lv_sub hl [1, 2, 3, 5, 6, 0] rfl)
      · have hw := hw.2 hc
        refine lv_bipush (v := (-2 : Int32)) hx hb dX12_liking_28 (by decide) ?_
        exact hret _ _ H locs _ _ ⟨_, _, _, _, _, _, rfl, hw⟩ hP hS dX12_liking_30
    · have hw := hw.2 hc
      refine lv_iconst (v := (-1 : Int32)) hx hb dX12_liking_17 (by decide) ?_
      exact hret _ _ H locs _ _ ⟨_, _, _, _, _, _, rfl, hw⟩ hP hS dX12_liking_18

def wp_X12_night (zdogs : Int32) (zhungry : Int32) (zatLeft : Int32) (zatRight : Int32) (zhalves : Nat → Int32) (zlikes : Nat → Int32) (zfears : Nat → Int32) (zorder : Nat → Int32) (zwent : Nat → Int32) (zfill : Nat → Int32) (a1 : Int32) (a2 : Int32) (a3 : Int32) (post : Int32 → Int32 → Int32 → (Nat → Int32) → (Nat → Int32) → (Nat → Int32) → Prop) : Prop :=
  wp_X12_in a1 (0 : Int32) (9999 : Int32) (fun (r_1 : Int32) => ((r_1 = 0 → post (-2 : Int32) zatLeft zatRight zorder zwent zfill) ∧ (¬ r_1 = 0 → wp_X12_in a2 (1 : Int32) (60 : Int32) (fun (r_2 : Int32) => ((r_2 = 0 → post (-2 : Int32) zatLeft zatRight zorder zwent zfill) ∧ (¬ r_2 = 0 → wp_X12_in a3 (0 : Int32) (2 : Int32) (fun (r_3 : Int32) => ((¬ r_3 = 0 → lo (fun _ _ _ _ _ _ _ _ => False) (fun (G42 : Int32 → Int32 → Int32 → Int32 → Int32 → (Nat → Int32) → (Nat → Int32) → (Nat → Int32) → Prop) (x4_4 : Int32) (x5_5 : Int32) (x6_6 : Int32) (zatLeft_7 : Int32) (zatRight_8 : Int32) (zorder_9 : Nat → Int32) (zwent_10 : Nat → Int32) (zfill_11 : Nat → Int32) => ((a2 ≤ x6_6 → post x5_5 zatLeft_7 zatRight_8 zorder_9 zwent_10 zfill_11) ∧ (¬ a2 ≤ x6_6 → wp_X12_fresh zdogs zhungry zatLeft_7 zatRight_8 zhalves zlikes zfears zorder_9 zwent_10 zfill_11 (((((75 : Int32) * x4_4) + (74 : Int32)) - (((75 : Int32) * x4_4) + (74 : Int32)) / (65537 : Int32) * (65537 : Int32)) - ((((75 : Int32) * x4_4) + (74 : Int32)) - (((75 : Int32) * x4_4) + (74 : Int32)) / (65537 : Int32) * (65537 : Int32)) / (10 : Int32) * (10 : Int32)) ((((((75 : Int32) * x4_4) + (74 : Int32)) - (((75 : Int32) * x4_4) + (74 : Int32)) / (65537 : Int32) * (65537 : Int32)) / (10 : Int32)) - (((((75 : Int32) * x4_4) + (74 : Int32)) - (((75 : Int32) * x4_4) + (74 : Int32)) / (65537 : Int32) * (65537 : Int32)) / (10 : Int32)) / (10 : Int32) * (10 : Int32)) (-6 : Int32) (fun (zatLeft_13 : Int32) (zatRight_14 : Int32) (zorder_15 : Nat → Int32) (zwent_16 : Nat → Int32) (zfill_17 : Nat → Int32) => wp_X12_winner zatLeft_13 zatRight_14 (fun (r_18 : Int32) => jn (fun (t_19 : Int32) => G42 ((((75 : Int32) * x4_4) + (74 : Int32)) - (((75 : Int32) * x4_4) + (74 : Int32)) / (65537 : Int32) * (65537 : Int32)) (x5_5 + t_19) (x6_6 + (1 : Int32)) zatLeft_13 zatRight_14 zorder_15 zwent_16 zfill_17) (fun (J95 : Int32 → Prop) => ((¬ r_18 = a3 → J95 (0 : Int32)) ∧ (r_18 = a3 → J95 (1 : Int32))))))))) (fun G42 => G42 a1 (0 : Int32) (0 : Int32) zatLeft zatRight zorder zwent zfill)) ∧ (r_3 = 0 → post (-2 : Int32) zatLeft zatRight zorder zwent zfill)))))))))
set_option maxHeartbeats 4000000 in
set_option maxRecDepth 100000 in
theorem c_X12_night (l : Launch) (D : va_G) (ci cz : ClassId) (tr : List (ClassId × FieldType)) (q0 q1 q2 q3 q4 q5 q6 : Nat) (sz : Nat) (u0 u1 u2 u3 u4 u5 u6 u7 u8 u9 u10 u11 u12 : Value) (zdogs : Int32) (zhungry : Int32) (zatLeft : Int32) (zatRight : Int32) (zhalves : Nat → Int32) (zlikes : Nat → Int32) (zfears : Nat → Int32) (zorder : Nat → Int32) (zwent : Nat → Int32) (zfill : Nat → Int32) (a1 : Int32) (a2 : Int32) (a3 : Int32) (post : Int32 → Int32 → Int32 → (Nat → Int32) → (Nat → Int32) → (Nat → Int32) → Prop) (hw : wp_X12_night zdogs zhungry zatLeft zatRight zhalves zlikes zfears zorder zwent zfill a1 a2 a3 post) : gM l yX12_night cX12_night 7 (some .int) 4 95 D ci cz tr [(q0, .inr (11, [.int zdogs, .ref q1, .ref q2, u0, .ref q3, u1, .int zhungry, u2, u3, u4, u5, u6, u7, .ref q4, .ref q5, .ref q6, .int zatLeft, .int zatRight, u8, u9, u10, u11, u12])), (q1, .inl (ci, 7, .inl zhalves)), (q2, .inl (ci, 7, .inl zlikes)), (q3, .inl (ci, 7, .inl zfears)), (q4, .inl (ci, 7, .inl zorder)), (q5, .inl (ci, 7, .inl zwent)), (q6, .inl (ci, 7, .inl zfill))] sz [.ref q0, .int a1, .int a2, .int a3] (gQi D [(q0, .inr (11, [.int zdogs, .ref q1, .ref q2, u0, .ref q3, u1, .int zhungry, u2, u3, u4, u5, u6, u7, .ref q4, .ref q5, .ref q6, .int zatLeft, .int zatRight, u8, u9, u10, u11, u12])), (q1, .inl (ci, 7, .inl zhalves)), (q2, .inl (ci, 7, .inl zlikes)), (q3, .inl (ci, 7, .inl zfears)), (q4, .inl (ci, 7, .inl zorder)), (q5, .inl (ci, 7, .inl zwent)), (q6, .inl (ci, 7, .inl zfill))] sz (fun (r : Int32) w => ∃ (o_zatLeft : Int32) (o_zatRight : Int32) (o_zorder : Nat → Int32) (o_zwent : Nat → Int32) (o_zfill : Nat → Int32), w = [(q0, .inr (11, [.int zdogs, .ref q1, .ref q2, u0, .ref q3, u1, .int zhungry, u2, u3, u4, u5, u6, u7, .ref q4, .ref q5, .ref q6, .int o_zatLeft, .int o_zatRight, u8, u9, u10, u11, u12])), (q1, .inl (ci, 7, .inl zhalves)), (q2, .inl (ci, 7, .inl zlikes)), (q3, .inl (ci, 7, .inl zfears)), (q4, .inl (ci, 7, .inl o_zorder)), (q5, .inl (ci, 7, .inl o_zwent)), (q6, .inl (ci, 7, .inl o_zfill))] ∧ post r o_zatLeft o_zatRight o_zorder o_zwent o_zfill)) := by
  refine gmet_i RX12 (by decide +kernel) rfl (Nat.le_of_ble_eq_true rfl) ?_
  intro p e s m args below meth c A R Q C hfr hlc hP hD hret ls hl
  obtain ⟨hx, hb, hml, hown, ht, hK, hZ, hA⟩ := C
  have hl : lv_has ls 7 [(0, .ref q0), (1, .int a1), (2, .int a2), (3, .int a3)] := hl
  unfold wp_X12_night at hw
  refine g_in (fun H locs => W p l e R s m args below meth c H locs 0 0 Q (F0 m 0 ls [])) (fun H locs hS0 hP => ?_) hP (va_S.rf (A := A) (H0 := s.heap))
  have hS : va_S A s.heap H locs := hS0
  clear hS0
  refine lv_iload_n hx hb dX12_night_0 rfl (lv_at hl 1 rfl) ?_
  refine lv_iconst (v := (0 : Int32)) hx hb dX12_night_1 (by decide) ?_
  refine lv_sipush (v := (9999 : Int32)) hx hb dX12_night_2 (by decide) ?_
  refine gcalli (va_runS (As := [.int a1, .int (0 : Int32), .int (9999 : Int32)]) (rest := []) ⟨hx, hb, hml, hown, ht⟩ (c_X12_in l D ci cz tr  H.size a1 (0 : Int32) (9999 : Int32) _ hw) (va_cwS 3 ht (gi_S mM_X12_66 mT_X12_in mN_X12 mC_X12_in) rfl rfl rfl (by decide +kernel) ⟨Nat.le_trans (Nat.le_of_ble_eq_true rfl) hfr, Nat.le_trans (Nat.le_of_ble_eq_true rfl) hlc⟩) (gpre (wc := []) hK hZ hP hD hS hA [] rfl rfl) rfl rfl hl.1 rfl (lv_room (Nat.le_of_ble_eq_true rfl)) dX12_night_5 ⟨Nat.zero_le _, Nat.zero_le _⟩) hD hS hA [] rfl (fun r_1 w9 H locs hw hP9 hk9 hS => ?_)
  obtain ⟨rfl, hw⟩ := hw
  have hP : va_P D vwCl [(q0, .inr (11, [.int zdogs, .ref q1, .ref q2, u0, .ref q3, u1, .int zhungry, u2, u3, u4, u5, u6, u7, .ref q4, .ref q5, .ref q6, .int zatLeft, .int zatRight, u8, u9, u10, u11, u12])), (q1, .inl (ci, 7, .inl zhalves)), (q2, .inl (ci, 7, .inl zlikes)), (q3, .inl (ci, 7, .inl zfears)), (q4, .inl (ci, 7, .inl zorder)), (q5, .inl (ci, 7, .inl zwent)), (q6, .inl (ci, 7, .inl zfill))] H := gjoin3 hP hD [] hP9 hk9 rfl rfl [none, none, none, none, none, none, none] rfl rfl
  clear hP9 hk9
  refine lv_if_eq (tgt := 30) hx hb dX12_night_8 (by decide) (fun hc => ?_) (fun hc => ?_)
  · have hw := hw.1 hc
    refine lv_bipush (v := (-2 : Int32)) hx hb dX12_night_30 (by decide) ?_
    exact hret _ _ H locs _ _ ⟨_, _, _, _, _, rfl, hw⟩ hP hS dX12_night_32
  · have hw := hw.2 hc
    refine lv_iload_n hx hb dX12_night_11 rfl (lv_at hl 2 rfl) ?_
    refine lv_iconst (v := (1 : Int32)) hx hb dX12_night_12 (by decide) ?_
    refine lv_bipush (v := (60 : Int32)) hx hb dX12_night_13 (by decide) ?_
    refine gcalli (va_runS (As := [.int a2, .int (1 : Int32), .int (60 : Int32)]) (rest := []) ⟨hx, hb, hml, hown, ht⟩ (c_X12_in l D ci cz tr  H.size a2 (1 : Int32) (60 : Int32) _ hw) (va_cwS 3 ht (gi_S mM_X12_66 mT_X12_in mN_X12 mC_X12_in) rfl rfl rfl (by decide +kernel) ⟨Nat.le_trans (Nat.le_of_ble_eq_true rfl) hfr, Nat.le_trans (Nat.le_of_ble_eq_true rfl) hlc⟩) (gpre (wc := []) hK hZ hP hD hS hA [] rfl rfl) rfl rfl hl.1 rfl (lv_room (Nat.le_of_ble_eq_true rfl)) dX12_night_15 ⟨Nat.zero_le _, Nat.zero_le _⟩) hD hS hA [] rfl (fun r_2 w9 H locs hw hP9 hk9 hS => ?_)
    obtain ⟨rfl, hw⟩ := hw
    have hP : va_P D vwCl [(q0, .inr (11, [.int zdogs, .ref q1, .ref q2, u0, .ref q3, u1, .int zhungry, u2, u3, u4, u5, u6, u7, .ref q4, .ref q5, .ref q6, .int zatLeft, .int zatRight, u8, u9, u10, u11, u12])), (q1, .inl (ci, 7, .inl zhalves)), (q2, .inl (ci, 7, .inl zlikes)), (q3, .inl (ci, 7, .inl zfears)), (q4, .inl (ci, 7, .inl zorder)), (q5, .inl (ci, 7, .inl zwent)), (q6, .inl (ci, 7, .inl zfill))] H := gjoin3 hP hD [] hP9 hk9 rfl rfl [none, none, none, none, none, none, none] rfl rfl
    clear hP9 hk9
    refine lv_if_eq (tgt := 30) hx hb dX12_night_18 (by decide) (fun hc => ?_) (fun hc => ?_)
    · have hw := hw.1 hc
      refine lv_bipush (v := (-2 : Int32)) hx hb dX12_night_30 (by decide) ?_
      exact hret _ _ H locs _ _ ⟨_, _, _, _, _, rfl, hw⟩ hP hS dX12_night_32
    · have hw := hw.2 hc
      refine lv_iload_n hx hb dX12_night_21 rfl (lv_at hl 3 rfl) ?_
      refine lv_iconst (v := (0 : Int32)) hx hb dX12_night_22 (by decide) ?_
      refine lv_iconst (v := (2 : Int32)) hx hb dX12_night_23 (by decide) ?_
      refine gcalli (va_runS (As := [.int a3, .int (0 : Int32), .int (2 : Int32)]) (rest := []) ⟨hx, hb, hml, hown, ht⟩ (c_X12_in l D ci cz tr  H.size a3 (0 : Int32) (2 : Int32) _ hw) (va_cwS 3 ht (gi_S mM_X12_66 mT_X12_in mN_X12 mC_X12_in) rfl rfl rfl (by decide +kernel) ⟨Nat.le_trans (Nat.le_of_ble_eq_true rfl) hfr, Nat.le_trans (Nat.le_of_ble_eq_true rfl) hlc⟩) (gpre (wc := []) hK hZ hP hD hS hA [] rfl rfl) rfl rfl hl.1 rfl (lv_room (Nat.le_of_ble_eq_true rfl)) dX12_night_24 ⟨Nat.zero_le _, Nat.zero_le _⟩) hD hS hA [] rfl (fun r_3 w9 H locs hw hP9 hk9 hS => ?_)
      obtain ⟨rfl, hw⟩ := hw
      have hP : va_P D vwCl [(q0, .inr (11, [.int zdogs, .ref q1, .ref q2, u0, .ref q3, u1, .int zhungry, u2, u3, u4, u5, u6, u7, .ref q4, .ref q5, .ref q6, .int zatLeft, .int zatRight, u8, u9, u10, u11, u12])), (q1, .inl (ci, 7, .inl zhalves)), (q2, .inl (ci, 7, .inl zlikes)), (q3, .inl (ci, 7, .inl zfears)), (q4, .inl (ci, 7, .inl zorder)), (q5, .inl (ci, 7, .inl zwent)), (q6, .inl (ci, 7, .inl zfill))] H := gjoin3 hP hD [] hP9 hk9 rfl rfl [none, none, none, none, none, none, none] rfl rfl
      clear hP9 hk9
      refine lv_if_ne (tgt := 33) hx hb dX12_night_27 (by decide) (fun hc => ?_) (fun hc => ?_)
      · have hw := hw.1 hc
        refine lv_iload_n hx hb dX12_night_33 rfl (lv_at hl 1 rfl) ?_
        refine lv_istore (lv' := [(4, .int a1), (0, .ref q0), (1, .int a1), (2, .int a2), (3, .int a3)]) hx hb dX12_night_34 hl (by decide) rfl (fun ls hl => ?_)
        refine lv_iconst (v := (0 : Int32)) hx hb dX12_night_36 (by decide) ?_
        refine lv_istore (lv' := [(5, .int (0 : Int32)), (4, .int a1), (0, .ref q0), (1, .int a1), (2, .int a2), (3, .int a3)]) hx hb dX12_night_37 hl (by decide) rfl (fun ls hl => ?_)
        refine lv_iconst (v := (0 : Int32)) hx hb dX12_night_39 (by decide) ?_
        refine lv_istore (lv' := [(6, .int (0 : Int32)), (5, .int (0 : Int32)), (4, .int a1), (0, .ref q0), (1, .int a1), (2, .int a2), (3, .int a3)]) hx hb dX12_night_40 hl (by decide) rfl (fun ls hl => ?_)
        refine lo_walk hw (fun G42 => ∀ (x4_4 : Int32) (x5_5 : Int32) (x6_6 : Int32) (zatLeft_7 : Int32) (zatRight_8 : Int32) (zorder_9 : Nat → Int32) (zwent_10 : Nat → Int32) (zfill_11 : Nat → Int32) (H : Heap) (locs : List Loc) (ls : Array Slot), G42 x4_4 x5_5 x6_6 zatLeft_7 zatRight_8 zorder_9 zwent_10 zfill_11 → va_P D vwCl [(q0, .inr (11, [.int zdogs, .ref q1, .ref q2, u0, .ref q3, u1, .int zhungry, u2, u3, u4, u5, u6, u7, .ref q4, .ref q5, .ref q6, .int zatLeft_7, .int zatRight_8, u8, u9, u10, u11, u12])), (q1, .inl (ci, 7, .inl zhalves)), (q2, .inl (ci, 7, .inl zlikes)), (q3, .inl (ci, 7, .inl zfears)), (q4, .inl (ci, 7, .inl zorder_9)), (q5, .inl (ci, 7, .inl zwent_10)), (q6, .inl (ci, 7, .inl zfill_11))] H → va_S A s.heap H locs → lv_has ls 7 [(0, .ref q0), (2, .int a2), (3, .int a3), (4, .int x4_4), (5, .int x5_5), (6, .int x6_6)] → W p l e R s m args below meth c H locs 0 0 Q (F0 m 42 ls [])) (fun _ _ _ _ _ _ _ _ _ _ _ hw _ _ _ => False.elim hw) (fun G42 hG42 x4_4 x5_5 x6_6 zatLeft_7 zatRight_8 zorder_9 zwent_10 zfill_11 H locs ls hw hP hS hl => ?_) (fun G42 hG42 hw => hG42 _ _ _ _ _ _ _ _ H locs ls hw hP hS (lv_sub hl [3, 5, 6, 2, 1, 0] rfl))
        have hD : va_D A [(q0, .inr (11, [.int zdogs, .ref q1, .ref q2, u0, .ref q3, u1, .int zhungry, u2, u3, u4, u5, u6, u7, .ref q4, .ref q5, .ref q6, .int zatLeft_7, .int zatRight_8, u8, u9, u10, u11, u12])), (q1, .inl (ci, 7, .inl zhalves)), (q2, .inl (ci, 7, .inl zlikes)), (q3, .inl (ci, 7, .inl zfears)), (q4, .inl (ci, 7, .inl zorder_9)), (q5, .inl (ci, 7, .inl zwent_10)), (q6, .inl (ci, 7, .inl zfill_11))] := gD_re hD rfl
        refine lv_iload hx hb dX12_night_42 (lv_at hl 5 rfl) ?_
        refine lv_iload_n hx hb dX12_night_44 rfl (lv_at hl 1 rfl) ?_
        refine lv_icmp_ge (tgt := 104) hx hb dX12_night_45 (by decide) (fun hc => ?_) (fun hc => ?_)
        · have hw := hw.1 hc
          refine lv_iload hx hb dX12_night_104 (lv_at hl 4 rfl) ?_
          exact hret _ _ H locs _ _ ⟨_, _, _, _, _, rfl, hw⟩ hP hS dX12_night_106
        · have hw := hw.2 hc
          refine lv_bipush (v := (75 : Int32)) hx hb dX12_night_48 (by decide) ?_
          refine lv_iload hx hb dX12_night_50 (lv_at hl 3 rfl) ?_
          refine lv_imul hx hb dX12_night_52 ?_
          refine lv_bipush (v := (74 : Int32)) hx hb dX12_night_53 (by decide) ?_
          refine lv_iadd hx hb dX12_night_55 ?_
          refine lv_ldc hx hb hown (ht _ mD_X12_171) dX12_night_56 ?_
          refine lv_irem hx hb dX12_night_58 (by decide) ?_
          refine lv_istore (lv' := [(4, .int ((((75 : Int32) * x4_4) + (74 : Int32)) - (((75 : Int32) * x4_4) + (74 : Int32)) / (65537 : Int32) * (65537 : Int32))), (0, .ref q0), (2, .int a2), (3, .int a3), (5, .int x5_5), (6, .int x6_6)]) hx hb dX12_night_59 hl (by decide) rfl (fun ls hl => ?_)
          refine lv_aload_n hx hb dX12_night_61 rfl (lv_at hl 1 rfl) ?_
          refine lv_iload hx hb dX12_night_62 (lv_at hl 0 rfl) ?_
          refine lv_bipush (v := (10 : Int32)) hx hb dX12_night_64 (by decide) ?_
          refine lv_irem hx hb dX12_night_66 (by decide) ?_
          refine lv_iload hx hb dX12_night_67 (lv_at hl 0 rfl) ?_
          refine lv_bipush (v := (10 : Int32)) hx hb dX12_night_69 (by decide) ?_
          refine lv_idiv hx hb dX12_night_71 (by decide) ?_
          refine lv_bipush (v := (10 : Int32)) hx hb dX12_night_72 (by decide) ?_
          refine lv_irem hx hb dX12_night_74 (by decide) ?_
          refine lv_bipush (v := (-6 : Int32)) hx hb dX12_night_75 (by decide) ?_
          refine gcallv (va_runV (As := [.int (((((75 : Int32) * x4_4) + (74 : Int32)) - (((75 : Int32) * x4_4) + (74 : Int32)) / (65537 : Int32) * (65537 : Int32)) - ((((75 : Int32) * x4_4) + (74 : Int32)) - (((75 : Int32) * x4_4) + (74 : Int32)) / (65537 : Int32) * (65537 : Int32)) / (10 : Int32) * (10 : Int32)), .int ((((((75 : Int32) * x4_4) + (74 : Int32)) - (((75 : Int32) * x4_4) + (74 : Int32)) / (65537 : Int32) * (65537 : Int32)) / (10 : Int32)) - (((((75 : Int32) * x4_4) + (74 : Int32)) - (((75 : Int32) * x4_4) + (74 : Int32)) / (65537 : Int32) * (65537 : Int32)) / (10 : Int32)) / (10 : Int32) * (10 : Int32)), .int (-6 : Int32)]) (rest := []) ⟨hx, hb, hml, hown, ht⟩ (c_X12_fresh l D ci cz tr q0 q1 q2 q3 q4 q5 q6 H.size u0 u1 u2 u3 u4 u5 u6 u7 u8 u9 u10 u11 u12 zdogs zhungry zatLeft_7 zatRight_8 zhalves zlikes zfears zorder_9 zwent_10 zfill_11 (((((75 : Int32) * x4_4) + (74 : Int32)) - (((75 : Int32) * x4_4) + (74 : Int32)) / (65537 : Int32) * (65537 : Int32)) - ((((75 : Int32) * x4_4) + (74 : Int32)) - (((75 : Int32) * x4_4) + (74 : Int32)) / (65537 : Int32) * (65537 : Int32)) / (10 : Int32) * (10 : Int32)) ((((((75 : Int32) * x4_4) + (74 : Int32)) - (((75 : Int32) * x4_4) + (74 : Int32)) / (65537 : Int32) * (65537 : Int32)) / (10 : Int32)) - (((((75 : Int32) * x4_4) + (74 : Int32)) - (((75 : Int32) * x4_4) + (74 : Int32)) / (65537 : Int32) * (65537 : Int32)) / (10 : Int32)) / (10 : Int32) * (10 : Int32)) (-6 : Int32) _ hw) (cwV 3 ht (gi_V mM_X12_110 mI_X12_fresh mS_X12_fresh mN_X12 mC_X12_fresh) rfl rfl rfl (by decide +kernel) ⟨Nat.le_trans (Nat.le_of_ble_eq_true rfl) hfr, Nat.le_trans (Nat.le_of_ble_eq_true rfl) hlc⟩) (gpreV (wc := [(q0, .inr (11, [.int zdogs, .ref q1, .ref q2, u0, .ref q3, u1, .int zhungry, u2, u3, u4, u5, u6, u7, .ref q4, .ref q5, .ref q6, .int zatLeft_7, .int zatRight_8, u8, u9, u10, u11, u12])), (q1, .inl (ci, 7, .inl zhalves)), (q2, .inl (ci, 7, .inl zlikes)), (q3, .inl (ci, 7, .inl zfears)), (q4, .inl (ci, 7, .inl zorder_9)), (q5, .inl (ci, 7, .inl zwent_10)), (q6, .inl (ci, 7, .inl zfill_11))]) (k := 11) (q0 := 0) hK hZ hP hD hS hA [0, 1, 2, 3, 4, 5, 6] rfl rfl rfl rfl rfl) rfl rfl hl.1 rfl (lv_room (Nat.le_of_ble_eq_true rfl)) dX12_night_77 ⟨Nat.zero_le _, Nat.zero_le _⟩) hD hS hA [0, 1, 2, 3, 4, 5, 6] rfl (fun w9 H locs hw hP9 hk9 hS => ?_)
          obtain ⟨zatLeft_13, zatRight_14, zorder_15, zwent_16, zfill_17, rfl, hw⟩ := hw
          have hP : va_P D vwCl [(q0, .inr (11, [.int zdogs, .ref q1, .ref q2, u0, .ref q3, u1, .int zhungry, u2, u3, u4, u5, u6, u7, .ref q4, .ref q5, .ref q6, .int zatLeft_13, .int zatRight_14, u8, u9, u10, u11, u12])), (q1, .inl (ci, 7, .inl zhalves)), (q2, .inl (ci, 7, .inl zlikes)), (q3, .inl (ci, 7, .inl zfears)), (q4, .inl (ci, 7, .inl zorder_15)), (q5, .inl (ci, 7, .inl zwent_16)), (q6, .inl (ci, 7, .inl zfill_17))] H := gjoin3 hP hD [0, 1, 2, 3, 4, 5, 6] hP9 hk9 rfl rfl [some 0, some 1, some 2, some 3, some 4, some 5, some 6] rfl rfl
          have hD : va_D A [(q0, .inr (11, [.int zdogs, .ref q1, .ref q2, u0, .ref q3, u1, .int zhungry, u2, u3, u4, u5, u6, u7, .ref q4, .ref q5, .ref q6, .int zatLeft_13, .int zatRight_14, u8, u9, u10, u11, u12])), (q1, .inl (ci, 7, .inl zhalves)), (q2, .inl (ci, 7, .inl zlikes)), (q3, .inl (ci, 7, .inl zfears)), (q4, .inl (ci, 7, .inl zorder_15)), (q5, .inl (ci, 7, .inl zwent_16)), (q6, .inl (ci, 7, .inl zfill_17))] := gD_re hD rfl
          clear hP9 hk9
          refine lv_iload hx hb dX12_night_80 (lv_at hl 4 rfl) ?_
          refine lv_aload_n hx hb dX12_night_82 rfl (lv_at hl 1 rfl) ?_
          refine gcalli (va_runV (As := []) (rest := [.int x5_5]) ⟨hx, hb, hml, hown, ht⟩ (c_X12_winner l D ci cz tr q0 H.size (.int zdogs) (.ref q1) (.ref q2) u0 (.ref q3) u1 (.int zhungry) u2 u3 u4 u5 u6 u7 (.ref q4) (.ref q5) (.ref q6) u8 u9 u10 u11 u12 zatLeft_13 zatRight_14 _ hw) (cwV 0 ht (gi_V mM_X12_113 mI_X12_winner mS_X12_winner mN_X12 mC_X12_winner) rfl rfl rfl (by decide +kernel) ⟨Nat.le_trans (Nat.le_of_ble_eq_true rfl) hfr, Nat.le_trans (Nat.le_of_ble_eq_true rfl) hlc⟩) (gpreV (wc := [(q0, .inr (11, [.int zdogs, .ref q1, .ref q2, u0, .ref q3, u1, .int zhungry, u2, u3, u4, u5, u6, u7, .ref q4, .ref q5, .ref q6, .int zatLeft_13, .int zatRight_14, u8, u9, u10, u11, u12]))]) (k := 11) (q0 := 0) hK hZ hP hD hS hA [0] rfl rfl rfl rfl rfl) rfl rfl hl.1 rfl (lv_room (Nat.le_of_ble_eq_true rfl)) dX12_night_83 ⟨Nat.zero_le _, Nat.zero_le _⟩) hD hS hA [0] rfl (fun r_18 w9 H locs hw hP9 hk9 hS => ?_)
          obtain ⟨rfl, hw⟩ := hw
          have hP : va_P D vwCl [(q0, .inr (11, [.int zdogs, .ref q1, .ref q2, u0, .ref q3, u1, .int zhungry, u2, u3, u4, u5, u6, u7, .ref q4, .ref q5, .ref q6, .int zatLeft_13, .int zatRight_14, u8, u9, u10, u11, u12])), (q1, .inl (ci, 7, .inl zhalves)), (q2, .inl (ci, 7, .inl zlikes)), (q3, .inl (ci, 7, .inl zfears)), (q4, .inl (ci, 7, .inl zorder_15)), (q5, .inl (ci, 7, .inl zwent_16)), (q6, .inl (ci, 7, .inl zfill_17))] H := gjoin3 hP hD [0] hP9 hk9 rfl rfl [some 0, none, none, none, none, none, none] rfl rfl
          clear hP9 hk9
          refine lv_iload_n hx hb dX12_night_86 rfl (lv_at hl 3 rfl) ?_
          refine jn_walk hw (fun J95 => ∀ (t_19 : Int32) (H : Heap) (locs : List Loc) (ls : Array Slot), J95 t_19 → va_P D vwCl [(q0, .inr (11, [.int zdogs, .ref q1, .ref q2, u0, .ref q3, u1, .int zhungry, u2, u3, u4, u5, u6, u7, .ref q4, .ref q5, .ref q6, .int zatLeft_13, .int zatRight_14, u8, u9, u10, u11, u12])), (q1, .inl (ci, 7, .inl zhalves)), (q2, .inl (ci, 7, .inl zlikes)), (q3, .inl (ci, 7, .inl zfears)), (q4, .inl (ci, 7, .inl zorder_15)), (q5, .inl (ci, 7, .inl zwent_16)), (q6, .inl (ci, 7, .inl zfill_17))] H → va_S A s.heap H locs → lv_has ls 7 [(0, .ref q0), (2, .int a2), (3, .int a3), (4, .int ((((75 : Int32) * x4_4) + (74 : Int32)) - (((75 : Int32) * x4_4) + (74 : Int32)) / (65537 : Int32) * (65537 : Int32))), (6, .int x6_6)] → W p l e R s m args below meth c H locs 0 0 Q (F0 m 95 ls [.int t_19, .int x5_5])) ?_ ?_
          · intro t_19 H locs ls hw hP hS hl
            have hD : va_D A [(q0, .inr (11, [.int zdogs, .ref q1, .ref q2, u0, .ref q3, u1, .int zhungry, u2, u3, u4, u5, u6, u7, .ref q4, .ref q5, .ref q6, .int zatLeft_13, .int zatRight_14, u8, u9, u10, u11, u12])), (q1, .inl (ci, 7, .inl zhalves)), (q2, .inl (ci, 7, .inl zlikes)), (q3, .inl (ci, 7, .inl zfears)), (q4, .inl (ci, 7, .inl zorder_15)), (q5, .inl (ci, 7, .inl zwent_16)), (q6, .inl (ci, 7, .inl zfill_17))] := gD_re hD rfl
            refine lv_iadd hx hb dX12_night_95 ?_
            refine lv_istore (lv' := [(5, .int (x5_5 + t_19)), (0, .ref q0), (2, .int a2), (3, .int a3), (4, .int ((((75 : Int32) * x4_4) + (74 : Int32)) - (((75 : Int32) * x4_4) + (74 : Int32)) / (65537 : Int32) * (65537 : Int32))), (6, .int x6_6)]) hx hb dX12_night_96 hl (by decide) rfl (fun ls hl => ?_)
            refine lv_iinc (v := (x6_6 + (1 : Int32))) (lv' := [(6, .int (x6_6 + (1 : Int32))), (5, .int (x5_5 + t_19)), (0, .ref q0), (2, .int a2), (3, .int a3), (4, .int ((((75 : Int32) * x4_4) + (74 : Int32)) - (((75 : Int32) * x4_4) + (74 : Int32)) / (65537 : Int32) * (65537 : Int32)))]) hx hb dX12_night_98 hl (k := 5) rfl rfl (by decide) rfl (fun ls hl => ?_)
            refine lv_goto (tgt := 42) hx hb dX12_night_101 (by decide) ?_
            exact hG42 _ _ _ _ _ _ _ _ H locs ls hw hP hS (lv_sub hl [2, 3, 4, 5, 1, 0] rfl)
          · intro J95 hJ95 hw
            refine lv_icmp_ne (tgt := 94) hx hb dX12_night_87 (by decide) (fun hc => ?_) (fun hc => ?_)
            · have hw := hw.1 hc
              refine lv_iconst (v := (0 : Int32)) hx hb dX12_night_94 (by decide) ?_
              exact hJ95 _ H locs ls hw hP hS (lv_sub hl [1, 2, 3, 0, 5] rfl)
            · have hw := hw.2 hc
              refine lv_iconst (v := (1 : Int32)) hx hb dX12_night_90 (by decide) ?_
              refine lv_goto (tgt := 95) hx hb dX12_night_91 (by decide) ?_
              exact hJ95 _ H locs ls hw hP hS (lv_sub hl [1, 2, 3, 0, 5] rfl)
      · have hw := hw.2 hc
        refine lv_bipush (v := (-2 : Int32)) hx hb dX12_night_30 (by decide) ?_
        exact hret _ _ H locs _ _ ⟨_, _, _, _, _, rfl, hw⟩ hP hS dX12_night_32

def wp_X12_worthTo  (a0 : Int32) (a1 : Int32) (a2 : Int32) (post : Int32 → Prop) : Prop :=
  jn (fun (t_1 : Int32) => post (t_1 - a2) ) (fun (J21 : Int32 → Prop) => ((¬ a1 = a0 → ((¬ a1 = (2 : Int32) → J21 (0 : Int32)) ∧ (a1 = (2 : Int32) → J21 (10 : Int32)))) ∧ (a1 = a0 → J21 (20 : Int32))))
set_option maxHeartbeats 4000000 in
set_option maxRecDepth 100000 in
theorem c_X12_worthTo (l : Launch) (D : va_G) (ci cz : ClassId) (tr : List (ClassId × FieldType)) (sz : Nat)  (a0 : Int32) (a1 : Int32) (a2 : Int32) (post : Int32 → Prop) (hw : wp_X12_worthTo a0 a1 a2 post) : gM l yX12_worthTo cX12_worthTo 3 (some .int) 0 0 D ci cz tr [] sz [.int a0, .int a1, .int a2] (gQi D [] sz (fun (r : Int32) w => w = [] ∧ post r )) := by
  refine gmet_i RX12 (by decide +kernel) rfl (Nat.le_of_ble_eq_true rfl) ?_
  intro p e s m args below meth c A R Q C hfr hlc hP hD hret ls hl
  obtain ⟨hx, hb, hml, hown, ht, hK, hZ, hA⟩ := C
  have hl : lv_has ls 3 [(0, .int a0), (1, .int a1), (2, .int a2)] := hl
  unfold wp_X12_worthTo at hw
  refine g_in (fun H locs => W p l e R s m args below meth c H locs 0 0 Q (F0 m 0 ls [])) (fun H locs hS0 hP => ?_) hP (va_S.rf (A := A) (H0 := s.heap))
  have hS : va_S A s.heap H locs := hS0
  clear hS0
  refine lv_iload_n hx hb dX12_worthTo_0 rfl (lv_at hl 1 rfl) ?_
  refine lv_iload_n hx hb dX12_worthTo_1 rfl (lv_at hl 0 rfl) ?_
  refine jn_walk hw (fun J21 => ∀ (t_1 : Int32) (H : Heap) (locs : List Loc) (ls : Array Slot), J21 t_1 → va_P D vwCl [] H → va_S A s.heap H locs → lv_has ls 3 [(2, .int a2)] → W p l e R s m args below meth c H locs 0 0 Q (F0 m 21 ls [.int t_1])) ?_ ?_
  · intro t_1 H locs ls hw hP hS hl
    have hD : va_D A [] := gD_re hD rfl
    refine lv_iload_n hx hb dX12_worthTo_21 rfl (lv_at hl 0 rfl) ?_
    refine lv_isub hx hb dX12_worthTo_22 ?_
    exact hret _ _ H locs _ _ ⟨rfl, hw⟩ hP hS dX12_worthTo_23
  · intro J21 hJ21 hw
    refine lv_icmp_ne (tgt := 10) hx hb dX12_worthTo_2 (by decide) (fun hc => ?_) (fun hc => ?_)
    · have hw := hw.1 hc
      refine lv_iload_n hx hb dX12_worthTo_10 rfl (lv_at hl 1 rfl) ?_
      refine lv_iconst (v := (2 : Int32)) hx hb dX12_worthTo_11 (by decide) ?_
      refine lv_icmp_ne (tgt := 20) hx hb dX12_worthTo_12 (by decide) (fun hc => ?_) (fun hc => ?_)
      · have hw := hw.1 hc
        refine lv_iconst (v := (0 : Int32)) hx hb dX12_worthTo_20 (by decide) ?_
        exact hJ21 _ H locs ls hw hP hS (lv_sub hl [2] rfl)
      · have hw := hw.2 hc
        refine lv_bipush (v := (10 : Int32)) hx hb dX12_worthTo_15 (by decide) ?_
        refine lv_goto (tgt := 21) hx hb dX12_worthTo_17 (by decide) ?_
        exact hJ21 _ H locs ls hw hP hS (lv_sub hl [2] rfl)
    · have hw := hw.2 hc
      refine lv_bipush (v := (20 : Int32)) hx hb dX12_worthTo_5 (by decide) ?_
      refine lv_goto (tgt := 21) hx hb dX12_worthTo_7 (by decide) ?_
      exact hJ21 _ H locs ls hw hP hS (lv_sub hl [2] rfl)

def wp_X12_rest (zwinners : Nat → Int32) (a1 : Int32) (a2 : Int32) (post : Int32 → Prop) : Prop :=
  lo (fun _ _ => False) (fun (G5 : Int32 → Int32 → Prop) (x3_1 : Int32) (x4_2 : Int32) => (((10 : Int32) ≤ x4_2 → ((x3_1 = 0 ∨ x3_1 = 1) ∧ post x3_1 )) ∧ (¬ (10 : Int32) ≤ x4_2 → jn (fun (t_3 : Int32) => jn (fun (t_4 : Int32) => G5 t_4 (x4_2 + (1 : Int32))) (fun (J105 : Int32 → Prop) => jn ( J105 (0 : Int32)) (fun (J104 : Prop) => ((t_3 = 0 → J104) ∧ (¬ t_3 = 0 → (vp_in (((10 : Int32) * a1) + x4_2) 100 ∧ wp_X12_worthTo (1 : Int32) (zwinners ((((10 : Int32) * a1) + x4_2)).toNatClampNeg) x4_2 (fun (r_5 : Int32) => (vp_in (((10 : Int32) * a1) + a2) 100 ∧ wp_X12_worthTo (1 : Int32) (zwinners ((((10 : Int32) * a1) + a2)).toNatClampNeg) a2 (fun (r_6 : Int32) => ((r_6 < r_5 → J104) ∧ (¬ r_6 < r_5 → J105 (1 : Int32)))))))))))) (fun (J58 : Int32 → Prop) => jn ( J58 (0 : Int32)) (fun (J57 : Prop) => ((x3_1 = 0 → J57) ∧ (¬ x3_1 = 0 → (vp_in (((10 : Int32) * x4_2) + a2) 100 ∧ wp_X12_worthTo (0 : Int32) (zwinners ((((10 : Int32) * x4_2) + a2)).toNatClampNeg) x4_2 (fun (r_7 : Int32) => (vp_in (((10 : Int32) * a1) + a2) 100 ∧ wp_X12_worthTo (0 : Int32) (zwinners ((((10 : Int32) * a1) + a2)).toNatClampNeg) a1 (fun (r_8 : Int32) => ((r_8 < r_7 → J57) ∧ (¬ r_8 < r_7 → J58 (1 : Int32)))))))))))))) (fun G5 => G5 (1 : Int32) (0 : Int32))
set_option maxHeartbeats 4000000 in
set_option maxRecDepth 100000 in
theorem c_X12_rest (l : Launch) (D : va_G) (ci cz : ClassId) (tr : List (ClassId × FieldType)) (q0 q1 : Nat) (sz : Nat) (u0 u1 u2 u3 u4 u5 u6 u7 u8 u9 u10 u11 u12 u13 u14 u15 u16 u17 u18 u19 u20 u21 : Value) (zwinners : Nat → Int32) (a1 : Int32) (a2 : Int32) (post : Int32 → Prop) (hw : wp_X12_rest zwinners a1 a2 post) : gM l yX12_rest cX12_rest 5 (some .boolean) 1 22 D ci cz tr [(q0, .inr (11, [u0, u1, u2, u3, u4, u5, u6, u7, u8, u9, u10, u11, u12, u13, u14, u15, u16, u17, .ref q1, u18, u19, u20, u21])), (q1, .inl (ci, 100, .inl zwinners))] sz [.ref q0, .int a1, .int a2] (gQi D [(q0, .inr (11, [u0, u1, u2, u3, u4, u5, u6, u7, u8, u9, u10, u11, u12, u13, u14, u15, u16, u17, .ref q1, u18, u19, u20, u21])), (q1, .inl (ci, 100, .inl zwinners))] sz (fun (r : Int32) w => w = [(q0, .inr (11, [u0, u1, u2, u3, u4, u5, u6, u7, u8, u9, u10, u11, u12, u13, u14, u15, u16, u17, .ref q1, u18, u19, u20, u21])), (q1, .inl (ci, 100, .inl zwinners))] ∧ post r )) := by
  refine gmet_z RX12 (by decide +kernel) rfl (Nat.le_of_ble_eq_true rfl) ?_
  intro p e s m args below meth c A R Q C hfr hlc hP hD hret ls hl
  obtain ⟨hx, hb, hml, hown, ht, hK, hZ, hA⟩ := C
  have hl : lv_has ls 5 [(0, .ref q0), (1, .int a1), (2, .int a2)] := hl
  unfold wp_X12_rest at hw
  refine g_in (fun H locs => W p l e R s m args below meth c H locs 0 0 Q (F0 m 0 ls [])) (fun H locs hS0 hP => ?_) hP (va_S.rf (A := A) (H0 := s.heap))
  have hS : va_S A s.heap H locs := hS0
  clear hS0
  refine lv_iconst (v := (1 : Int32)) hx hb dX12_rest_0 (by decide) ?_
  refine lv_istore_n (lv' := [(3, .int (1 : Int32)), (0, .ref q0), (1, .int a1), (2, .int a2)]) hx hb dX12_rest_1 rfl hl (by decide) rfl (fun ls hl => ?_)
  refine lv_iconst (v := (0 : Int32)) hx hb dX12_rest_2 (by decide) ?_
  refine lv_istore (lv' := [(4, .int (0 : Int32)), (3, .int (1 : Int32)), (0, .ref q0), (1, .int a1), (2, .int a2)]) hx hb dX12_rest_3 hl (by decide) rfl (fun ls hl => ?_)
  refine lo_walk hw (fun G5 => ∀ (x3_1 : Int32) (x4_2 : Int32) (H : Heap) (locs : List Loc) (ls : Array Slot), G5 x3_1 x4_2 → va_P D vwCl [(q0, .inr (11, [u0, u1, u2, u3, u4, u5, u6, u7, u8, u9, u10, u11, u12, u13, u14, u15, u16, u17, .ref q1, u18, u19, u20, u21])), (q1, .inl (ci, 100, .inl zwinners))] H → va_S A s.heap H locs → lv_has ls 5 [(0, .ref q0), (1, .int a1), (2, .int a2), (3, .int x3_1), (4, .int x4_2)] → W p l e R s m args below meth c H locs 0 0 Q (F0 m 5 ls [])) (fun _ _ _ _ _ hw _ _ _ => False.elim hw) (fun G5 hG5 x3_1 x4_2 H locs ls hw hP hS hl => ?_) (fun G5 hG5 hw => hG5 _ _ H locs ls hw hP hS (lv_sub hl [2, 3, 4, 1, 0] rfl))
  have hD : va_D A [(q0, .inr (11, [u0, u1, u2, u3, u4, u5, u6, u7, u8, u9, u10, u11, u12, u13, u14, u15, u16, u17, .ref q1, u18, u19, u20, u21])), (q1, .inl (ci, 100, .inl zwinners))] := gD_re hD rfl
  refine lv_iload hx hb dX12_rest_5 (lv_at hl 4 rfl) ?_
  refine lv_bipush (v := (10 : Int32)) hx hb dX12_rest_7 (by decide) ?_
  refine lv_icmp_ge (tgt := 112) hx hb dX12_rest_9 (by decide) (fun hc => ?_) (fun hc => ?_)
  · have hw := hw.1 hc
    refine lv_iload_n hx hb dX12_rest_112 rfl (lv_at hl 3 rfl) ?_
    obtain ⟨h01, hw⟩ := hw
    exact hret _ _ H locs _ _ h01 ⟨rfl, hw⟩ hP hS dX12_rest_113
  · have hw := hw.2 hc
    refine lv_iload_n hx hb dX12_rest_12 rfl (lv_at hl 3 rfl) ?_
    refine jn_walk hw (fun J58 => ∀ (t_3 : Int32) (H : Heap) (locs : List Loc) (ls : Array Slot), J58 t_3 → va_P D vwCl [(q0, .inr (11, [u0, u1, u2, u3, u4, u5, u6, u7, u8, u9, u10, u11, u12, u13, u14, u15, u16, u17, .ref q1, u18, u19, u20, u21])), (q1, .inl (ci, 100, .inl zwinners))] H → va_S A s.heap H locs → lv_has ls 5 [(0, .ref q0), (1, .int a1), (2, .int a2), (4, .int x4_2)] → W p l e R s m args below meth c H locs 0 0 Q (F0 m 58 ls [.int t_3])) ?_ ?_
    · intro t_3 H locs ls hw hP hS hl
      have hD : va_D A [(q0, .inr (11, [u0, u1, u2, u3, u4, u5, u6, u7, u8, u9, u10, u11, u12, u13, u14, u15, u16, u17, .ref q1, u18, u19, u20, u21])), (q1, .inl (ci, 100, .inl zwinners))] := gD_re hD rfl
      refine lv_istore_n (lv' := [(3, .int t_3), (0, .ref q0), (1, .int a1), (2, .int a2), (4, .int x4_2)]) hx hb dX12_rest_58 rfl hl (by decide) rfl (fun ls hl => ?_)
      refine lv_iload_n hx hb dX12_rest_59 rfl (lv_at hl 0 rfl) ?_
      refine jn_walk hw (fun J105 => ∀ (t_4 : Int32) (H : Heap) (locs : List Loc) (ls : Array Slot), J105 t_4 → va_P D vwCl [(q0, .inr (11, [u0, u1, u2, u3, u4, u5, u6, u7, u8, u9, u10, u11, u12, u13, u14, u15, u16, u17, .ref q1, u18, u19, u20, u21])), (q1, .inl (ci, 100, .inl zwinners))] H → va_S A s.heap H locs → lv_has ls 5 [(0, .ref q0), (1, .int a1), (2, .int a2), (4, .int x4_2)] → W p l e R s m args below meth c H locs 0 0 Q (F0 m 105 ls [.int t_4])) ?_ ?_
      · intro t_4 H locs ls hw hP hS hl
        have hD : va_D A [(q0, .inr (11, [u0, u1, u2, u3, u4, u5, u6, u7, u8, u9, u10, u11, u12, u13, u14, u15, u16, u17, .ref q1, u18, u19, u20, u21])), (q1, .inl (ci, 100, .inl zwinners))] := gD_re hD rfl
        refine lv_istore_n (lv' := [(3, .int t_4), (0, .ref q0), (1, .int a1), (2, .int a2), (4, .int x4_2)]) hx hb dX12_rest_105 rfl hl (by decide) rfl (fun ls hl => ?_)
        refine lv_iinc (v := (x4_2 + (1 : Int32))) (lv' := [(4, .int (x4_2 + (1 : Int32))), (3, .int t_4), (0, .ref q0), (1, .int a1), (2, .int a2)]) hx hb dX12_rest_106 hl (k := 4) rfl rfl (by decide) rfl (fun ls hl => ?_)
        refine lv_goto (tgt := 5) hx hb dX12_rest_109 (by decide) ?_
        exact hG5 _ _ H locs ls hw hP hS (lv_sub hl [2, 3, 4, 1, 0] rfl)
      · intro J105 hJ105 hw
        refine jn_walk hw (fun J104 => ∀  (H : Heap) (locs : List Loc) (ls : Array Slot), J104 → va_P D vwCl [(q0, .inr (11, [u0, u1, u2, u3, u4, u5, u6, u7, u8, u9, u10, u11, u12, u13, u14, u15, u16, u17, .ref q1, u18, u19, u20, u21])), (q1, .inl (ci, 100, .inl zwinners))] H → va_S A s.heap H locs → lv_has ls 5 [(0, .ref q0), (1, .int a1), (2, .int a2), (4, .int x4_2)] → W p l e R s m args below meth c H locs 0 0 Q (F0 m 104 ls [])) ?_ ?_
        · intro  H locs ls hw hP hS hl
          have hD : va_D A [(q0, .inr (11, [u0, u1, u2, u3, u4, u5, u6, u7, u8, u9, u10, u11, u12, u13, u14, u15, u16, u17, .ref q1, u18, u19, u20, u21])), (q1, .inl (ci, 100, .inl zwinners))] := gD_re hD rfl
          refine lv_iconst (v := (0 : Int32)) hx hb dX12_rest_104 (by decide) ?_
          exact hJ105 _ H locs ls hw hP hS (lv_sub hl [0, 1, 2, 3] rfl)
        · intro J104 hJ104 hw
          refine lv_if_eq (tgt := 104) hx hb dX12_rest_60 (by decide) (fun hc => ?_) (fun hc => ?_)
          · have hw := hw.1 hc
            exact hJ104  H locs ls hw hP hS (lv_sub hl [1, 2, 3, 4] rfl)
          · have hw := hw.2 hc
            refine lv_iconst (v := (1 : Int32)) hx hb dX12_rest_63 (by decide) ?_
            refine lv_aload_n hx hb dX12_rest_64 rfl (lv_at hl 1 rfl) ?_
            refine va_get (D := D) (ci := 11) (v := .ref q1) (C := RX12) (T := TX12) (N := 23) hx hb ht in_X12 hown hK.1 hP 0 rfl rfl 18 (by decide) (ht _ mF_X12_48) (fun _ h9 => h9) rfl dX12_rest_65 ?_
            refine lv_bipush (v := (10 : Int32)) hx hb dX12_rest_68 (by decide) ?_
            refine lv_iload_n hx hb dX12_rest_70 rfl (lv_at hl 2 rfl) ?_
            refine lv_imul hx hb dX12_rest_71 ?_
            refine lv_iload hx hb dX12_rest_72 (lv_at hl 4 rfl) ?_
            refine lv_iadd hx hb dX12_rest_74 ?_
            obtain ⟨hin, hw⟩ := hw
            refine va_iald (D := D) hx hb hK.1 hP 1 0 rfl rfl hin dX12_rest_75 ?_
            refine lv_iload hx hb dX12_rest_76 (lv_at hl 4 rfl) ?_
            refine gcalli (va_runS (As := [.int (1 : Int32), .int (zwinners ((((10 : Int32) * a1) + x4_2)).toNatClampNeg), .int x4_2]) (rest := []) ⟨hx, hb, hml, hown, ht⟩ (c_X12_worthTo l D ci cz tr  H.size (1 : Int32) (zwinners ((((10 : Int32) * a1) + x4_2)).toNatClampNeg) x4_2 _ hw) (va_cwS 3 ht (gi_S mM_X12_116 mT_X12_worthTo mN_X12 mC_X12_worthTo) rfl rfl rfl (by decide +kernel) ⟨Nat.le_trans (Nat.le_of_ble_eq_true rfl) hfr, Nat.le_trans (Nat.le_of_ble_eq_true rfl) hlc⟩) (gpre (wc := []) hK hZ hP hD hS hA [] rfl rfl) rfl rfl hl.1 rfl (lv_room (Nat.le_of_ble_eq_true rfl)) dX12_rest_78 ⟨Nat.zero_le _, Nat.zero_le _⟩) hD hS hA [] rfl (fun r_5 w9 H locs hw hP9 hk9 hS => ?_)
            obtain ⟨rfl, hw⟩ := hw
            have hP : va_P D vwCl [(q0, .inr (11, [u0, u1, u2, u3, u4, u5, u6, u7, u8, u9, u10, u11, u12, u13, u14, u15, u16, u17, .ref q1, u18, u19, u20, u21])), (q1, .inl (ci, 100, .inl zwinners))] H := gjoin3 hP hD [] hP9 hk9 rfl rfl [none, none] rfl rfl
            clear hP9 hk9
            refine lv_iconst (v := (1 : Int32)) hx hb dX12_rest_81 (by decide) ?_
            refine lv_aload_n hx hb dX12_rest_82 rfl (lv_at hl 1 rfl) ?_
            refine va_get (D := D) (ci := 11) (v := .ref q1) (C := RX12) (T := TX12) (N := 23) hx hb ht in_X12 hown hK.1 hP 0 rfl rfl 18 (by decide) (ht _ mF_X12_48) (fun _ h9 => h9) rfl dX12_rest_83 ?_
            refine lv_bipush (v := (10 : Int32)) hx hb dX12_rest_86 (by decide) ?_
            refine lv_iload_n hx hb dX12_rest_88 rfl (lv_at hl 2 rfl) ?_
            refine lv_imul hx hb dX12_rest_89 ?_
            refine lv_iload_n hx hb dX12_rest_90 rfl (lv_at hl 3 rfl) ?_
            refine lv_iadd hx hb dX12_rest_91 ?_
            obtain ⟨hin, hw⟩ := hw
            refine va_iald (D := D) hx hb hK.1 hP 1 0 rfl rfl hin dX12_rest_92 ?_
            refine lv_iload_n hx hb dX12_rest_93 rfl (lv_at hl 3 rfl) ?_
            refine gcalli (va_runS (As := [.int (1 : Int32), .int (zwinners ((((10 : Int32) * a1) + a2)).toNatClampNeg), .int a2]) (rest := [.int r_5]) ⟨hx, hb, hml, hown, ht⟩ (c_X12_worthTo l D ci cz tr  H.size (1 : Int32) (zwinners ((((10 : Int32) * a1) + a2)).toNatClampNeg) a2 _ hw) (va_cwS 3 ht (gi_S mM_X12_116 mT_X12_worthTo mN_X12 mC_X12_worthTo) rfl rfl rfl (by decide +kernel) ⟨Nat.le_trans (Nat.le_of_ble_eq_true rfl) hfr, Nat.le_trans (Nat.le_of_ble_eq_true rfl) hlc⟩) (gpre (wc := []) hK hZ hP hD hS hA [] rfl rfl) rfl rfl hl.1 rfl (lv_room (Nat.le_of_ble_eq_true rfl)) dX12_rest_94 ⟨Nat.zero_le _, Nat.zero_le _⟩) hD hS hA [] rfl (fun r_6 w9 H locs hw hP9 hk9 hS => ?_)
            obtain ⟨rfl, hw⟩ := hw
            have hP : va_P D vwCl [(q0, .inr (11, [u0, u1, u2, u3, u4, u5, u6, u7, u8, u9, u10, u11, u12, u13, u14, u15, u16, u17, .ref q1, u18, u19, u20, u21])), (q1, .inl (ci, 100, .inl zwinners))] H := gjoin3 hP hD [] hP9 hk9 rfl rfl [none, none] rfl rfl
            clear hP9 hk9
            refine lv_icmp_gt (tgt := 104) hx hb dX12_rest_97 (by decide) (fun hc => ?_) (fun hc => ?_)
            · have hw := hw.1 hc
              exact hJ104  H locs ls hw hP hS (lv_sub hl [1, 2, 3, 4] rfl)
            · have hw := hw.2 hc
              refine lv_iconst (v := (1 : Int32)) hx hb dX12_rest_100 (by decide) ?_
              refine lv_goto (tgt := 105) hx hb dX12_rest_101 (by decide) ?_
              exact hJ105 _ H locs ls hw hP hS (lv_sub hl [1, 2, 3, 4] rfl)
    · intro J58 hJ58 hw
      refine jn_walk hw (fun J57 => ∀  (H : Heap) (locs : List Loc) (ls : Array Slot), J57 → va_P D vwCl [(q0, .inr (11, [u0, u1, u2, u3, u4, u5, u6, u7, u8, u9, u10, u11, u12, u13, u14, u15, u16, u17, .ref q1, u18, u19, u20, u21])), (q1, .inl (ci, 100, .inl zwinners))] H → va_S A s.heap H locs → lv_has ls 5 [(0, .ref q0), (1, .int a1), (2, .int a2), (4, .int x4_2)] → W p l e R s m args below meth c H locs 0 0 Q (F0 m 57 ls [])) ?_ ?_
      · intro  H locs ls hw hP hS hl
        have hD : va_D A [(q0, .inr (11, [u0, u1, u2, u3, u4, u5, u6, u7, u8, u9, u10, u11, u12, u13, u14, u15, u16, u17, .ref q1, u18, u19, u20, u21])), (q1, .inl (ci, 100, .inl zwinners))] := gD_re hD rfl
        refine lv_iconst (v := (0 : Int32)) hx hb dX12_rest_57 (by decide) ?_
        exact hJ58 _ H locs ls hw hP hS (lv_sub hl [0, 1, 2, 3] rfl)
      · intro J57 hJ57 hw
        refine lv_if_eq (tgt := 57) hx hb dX12_rest_13 (by decide) (fun hc => ?_) (fun hc => ?_)
        · have hw := hw.1 hc
          exact hJ57  H locs ls hw hP hS (lv_sub hl [0, 1, 2, 4] rfl)
        · have hw := hw.2 hc
          refine lv_iconst (v := (0 : Int32)) hx hb dX12_rest_16 (by decide) ?_
          refine lv_aload_n hx hb dX12_rest_17 rfl (lv_at hl 0 rfl) ?_
          refine va_get (D := D) (ci := 11) (v := .ref q1) (C := RX12) (T := TX12) (N := 23) hx hb ht in_X12 hown hK.1 hP 0 rfl rfl 18 (by decide) (ht _ mF_X12_48) (fun _ h9 => h9) rfl dX12_rest_18 ?_
          refine lv_bipush (v := (10 : Int32)) hx hb dX12_rest_21 (by decide) ?_
          refine lv_iload hx hb dX12_rest_23 (lv_at hl 4 rfl) ?_
          refine lv_imul hx hb dX12_rest_25 ?_
          refine lv_iload_n hx hb dX12_rest_26 rfl (lv_at hl 2 rfl) ?_
          refine lv_iadd hx hb dX12_rest_27 ?_
          obtain ⟨hin, hw⟩ := hw
          refine va_iald (D := D) hx hb hK.1 hP 1 0 rfl rfl hin dX12_rest_28 ?_
          refine lv_iload hx hb dX12_rest_29 (lv_at hl 4 rfl) ?_
          refine gcalli (va_runS (As := [.int (0 : Int32), .int (zwinners ((((10 : Int32) * x4_2) + a2)).toNatClampNeg), .int x4_2]) (rest := []) ⟨hx, hb, hml, hown, ht⟩ (c_X12_worthTo l D ci cz tr  H.size (0 : Int32) (zwinners ((((10 : Int32) * x4_2) + a2)).toNatClampNeg) x4_2 _ hw) (va_cwS 3 ht (gi_S mM_X12_116 mT_X12_worthTo mN_X12 mC_X12_worthTo) rfl rfl rfl (by decide +kernel) ⟨Nat.le_trans (Nat.le_of_ble_eq_true rfl) hfr, Nat.le_trans (Nat.le_of_ble_eq_true rfl) hlc⟩) (gpre (wc := []) hK hZ hP hD hS hA [] rfl rfl) rfl rfl hl.1 rfl (lv_room (Nat.le_of_ble_eq_true rfl)) dX12_rest_31 ⟨Nat.zero_le _, Nat.zero_le _⟩) hD hS hA [] rfl (fun r_7 w9 H locs hw hP9 hk9 hS => ?_)
          obtain ⟨rfl, hw⟩ := hw
          have hP : va_P D vwCl [(q0, .inr (11, [u0, u1, u2, u3, u4, u5, u6, u7, u8, u9, u10, u11, u12, u13, u14, u15, u16, u17, .ref q1, u18, u19, u20, u21])), (q1, .inl (ci, 100, .inl zwinners))] H := gjoin3 hP hD [] hP9 hk9 rfl rfl [none, none] rfl rfl
          clear hP9 hk9
          refine lv_iconst (v := (0 : Int32)) hx hb dX12_rest_34 (by decide) ?_
          refine lv_aload_n hx hb dX12_rest_35 rfl (lv_at hl 0 rfl) ?_
          refine va_get (D := D) (ci := 11) (v := .ref q1) (C := RX12) (T := TX12) (N := 23) hx hb ht in_X12 hown hK.1 hP 0 rfl rfl 18 (by decide) (ht _ mF_X12_48) (fun _ h9 => h9) rfl dX12_rest_36 ?_
          refine lv_bipush (v := (10 : Int32)) hx hb dX12_rest_39 (by decide) ?_
          refine lv_iload_n hx hb dX12_rest_41 rfl (lv_at hl 1 rfl) ?_
          refine lv_imul hx hb dX12_rest_42 ?_
          refine lv_iload_n hx hb dX12_rest_43 rfl (lv_at hl 2 rfl) ?_
          refine lv_iadd hx hb dX12_rest_44 ?_
          obtain ⟨hin, hw⟩ := hw
          refine va_iald (D := D) hx hb hK.1 hP 1 0 rfl rfl hin dX12_rest_45 ?_
          refine lv_iload_n hx hb dX12_rest_46 rfl (lv_at hl 1 rfl) ?_
          refine gcalli (va_runS (As := [.int (0 : Int32), .int (zwinners ((((10 : Int32) * a1) + a2)).toNatClampNeg), .int a1]) (rest := [.int r_7]) ⟨hx, hb, hml, hown, ht⟩ (c_X12_worthTo l D ci cz tr  H.size (0 : Int32) (zwinners ((((10 : Int32) * a1) + a2)).toNatClampNeg) a1 _ hw) (va_cwS 3 ht (gi_S mM_X12_116 mT_X12_worthTo mN_X12 mC_X12_worthTo) rfl rfl rfl (by decide +kernel) ⟨Nat.le_trans (Nat.le_of_ble_eq_true rfl) hfr, Nat.le_trans (Nat.le_of_ble_eq_true rfl) hlc⟩) (gpre (wc := []) hK hZ hP hD hS hA [] rfl rfl) rfl rfl hl.1 rfl (lv_room (Nat.le_of_ble_eq_true rfl)) dX12_rest_47 ⟨Nat.zero_le _, Nat.zero_le _⟩) hD hS hA [] rfl (fun r_8 w9 H locs hw hP9 hk9 hS => ?_)
          obtain ⟨rfl, hw⟩ := hw
          have hP : va_P D vwCl [(q0, .inr (11, [u0, u1, u2, u3, u4, u5, u6, u7, u8, u9, u10, u11, u12, u13, u14, u15, u16, u17, .ref q1, u18, u19, u20, u21])), (q1, .inl (ci, 100, .inl zwinners))] H := gjoin3 hP hD [] hP9 hk9 rfl rfl [none, none] rfl rfl
          clear hP9 hk9
          refine lv_icmp_gt (tgt := 57) hx hb dX12_rest_50 (by decide) (fun hc => ?_) (fun hc => ?_)
          · have hw := hw.1 hc
            exact hJ57  H locs ls hw hP hS (lv_sub hl [0, 1, 2, 4] rfl)
          · have hw := hw.2 hc
            refine lv_iconst (v := (1 : Int32)) hx hb dX12_rest_53 (by decide) ?_
            refine lv_goto (tgt := 58) hx hb dX12_rest_54 (by decide) ?_
            exact hJ58 _ H locs ls hw hP hS (lv_sub hl [0, 1, 2, 4] rfl)

def wp_X12_restore (zdogs : Int32) (zhungry : Int32) (zcounts : Int32) (zasked : Int32) (zhalves : Nat → Int32) (zlikes : Nat → Int32) (zisTold : Nat → Int32) (zfears : Nat → Int32) (zheirs : Nat → Int32) (zcount : Nat → Int32) (zquestion : Nat → Int32) (zimage : Nat → Int32) (zisKept : Nat → Int32) (a1 : Int32) (post : Int32 → Int32 → Int32 → Int32 → Int32 → (Nat → Int32) → (Nat → Int32) → (Nat → Int32) → (Nat → Int32) → (Nat → Int32) → (Nat → Int32) → (Nat → Int32) → Prop) : Prop :=
  wp_X12_in a1 (0 : Int32) (1 : Int32) (fun (r_1 : Int32) => ((¬ r_1 = 0 → (vp_in a1 2 ∧ ((¬ (zisKept (a1).toNatClampNeg) = 0 → jn (fun (zhalves_2 : Nat → Int32) (zlikes_3 : Nat → Int32) (zisTold_4 : Nat → Int32) (zfears_5 : Nat → Int32) (zheirs_6 : Nat → Int32) => jn (fun (zcount_7 : Nat → Int32) => jn (fun (zquestion_8 : Nat → Int32) => (vp_in (((72 : Int32) * a1) + (68 : Int32)) 144 ∧ (vp_in (((72 : Int32) * a1) + (69 : Int32)) 144 ∧ (vp_in (((72 : Int32) * a1) + (70 : Int32)) 144 ∧ (vp_in (((72 : Int32) * a1) + (71 : Int32)) 144 ∧ post (1 : Int32) (zimage ((((72 : Int32) * a1) + (68 : Int32))).toNatClampNeg) (zimage ((((72 : Int32) * a1) + (71 : Int32))).toNatClampNeg) (zimage ((((72 : Int32) * a1) + (69 : Int32))).toNatClampNeg) (zimage ((((72 : Int32) * a1) + (70 : Int32))).toNatClampNeg) zhalves_2 zlikes_3 zisTold_4 zfears_5 zheirs_6 zcount_7 zquestion_8))))) (fun (J196 : (Nat → Int32) → Prop) => lo (fun _ _ => False) (fun (G167 : Int32 → (Nat → Int32) → Prop) (x3_9 : Int32) (zquestion_10 : Nat → Int32) => (((15 : Int32) ≤ x3_9 → J196 zquestion_10) ∧ (¬ (15 : Int32) ≤ x3_9 → (vp_in ((((72 : Int32) * a1) + (53 : Int32)) + x3_9) 144 ∧ (vp_in x3_9 15 ∧ G167 (x3_9 + (1 : Int32)) (upd zquestion_10 (x3_9).toNatClampNeg (zimage (((((72 : Int32) * a1) + (53 : Int32)) + x3_9)).toNatClampNeg))))))) (fun G167 => G167 (0 : Int32) zquestion))) (fun (J165 : (Nat → Int32) → Prop) => lo (fun _ _ => False) (fun (G136 : Int32 → (Nat → Int32) → Prop) (x3_11 : Int32) (zcount_12 : Nat → Int32) => (((18 : Int32) ≤ x3_11 → J165 zcount_12) ∧ (¬ (18 : Int32) ≤ x3_11 → (vp_in ((((72 : Int32) * a1) + (35 : Int32)) + x3_11) 144 ∧ (vp_in x3_11 18 ∧ G136 (x3_11 + (1 : Int32)) (upd zcount_12 (x3_11).toNatClampNeg (zimage (((((72 : Int32) * a1) + (35 : Int32)) + x3_11)).toNatClampNeg))))))) (fun G136 => G136 (0 : Int32) zcount))) (fun (J134 : (Nat → Int32) → (Nat → Int32) → (Nat → Int32) → (Nat → Int32) → (Nat → Int32) → Prop) => lo (fun _ _ _ _ _ _ => False) (fun (G31 : Int32 → (Nat → Int32) → (Nat → Int32) → (Nat → Int32) → (Nat → Int32) → (Nat → Int32) → Prop) (x3_13 : Int32) (zhalves_14 : Nat → Int32) (zlikes_15 : Nat → Int32) (zisTold_16 : Nat → Int32) (zfears_17 : Nat → Int32) (zheirs_18 : Nat → Int32) => (((7 : Int32) ≤ x3_13 → J134 zhalves_14 zlikes_15 zisTold_16 zfears_17 zheirs_18) ∧ (¬ (7 : Int32) ≤ x3_13 → (vp_in (((72 : Int32) * a1) + x3_13) 144 ∧ (vp_in x3_13 7 ∧ (vp_in ((((72 : Int32) * a1) + (7 : Int32)) + x3_13) 144 ∧ (vp_in x3_13 7 ∧ (vp_in ((((72 : Int32) * a1) + (14 : Int32)) + x3_13) 144 ∧ jn (fun (t_19 : Int32) => (vp_in x3_13 7 ∧ (vp_in ((((72 : Int32) * a1) + (21 : Int32)) + x3_13) 144 ∧ (vp_in x3_13 7 ∧ (vp_in ((((72 : Int32) * a1) + (28 : Int32)) + x3_13) 144 ∧ (vp_in x3_13 7 ∧ G31 (x3_13 + (1 : Int32)) (upd zhalves_14 (x3_13).toNatClampNeg (zimage ((((72 : Int32) * a1) + x3_13)).toNatClampNeg)) (upd zlikes_15 (x3_13).toNatClampNeg (zimage (((((72 : Int32) * a1) + (7 : Int32)) + x3_13)).toNatClampNeg)) (upd zisTold_16 (x3_13).toNatClampNeg (vp_nar .boolean t_19)) (upd zfears_17 (x3_13).toNatClampNeg (zimage (((((72 : Int32) * a1) + (21 : Int32)) + x3_13)).toNatClampNeg)) (upd zheirs_18 (x3_13).toNatClampNeg (zimage (((((72 : Int32) * a1) + (28 : Int32)) + x3_13)).toNatClampNeg)))))))) (fun (J93 : Int32 → Prop) => ((¬ (zimage (((((72 : Int32) * a1) + (14 : Int32)) + x3_13)).toNatClampNeg) = (1 : Int32) → J93 (0 : Int32)) ∧ ((zimage (((((72 : Int32) * a1) + (14 : Int32)) + x3_13)).toNatClampNeg) = (1 : Int32) → J93 (1 : Int32)))))))))))) (fun G31 => G31 (0 : Int32) zhalves zlikes zisTold zfears zheirs))) ∧ ((zisKept (a1).toNatClampNeg) = 0 → post (-3 : Int32) zdogs zhungry zcounts zasked zhalves zlikes zisTold zfears zheirs zcount zquestion)))) ∧ (r_1 = 0 → post (-2 : Int32) zdogs zhungry zcounts zasked zhalves zlikes zisTold zfears zheirs zcount zquestion)))
set_option maxHeartbeats 4000000 in
set_option maxRecDepth 100000 in
theorem c_X12_restore (l : Launch) (D : va_G) (ci cz : ClassId) (tr : List (ClassId × FieldType)) (q0 q1 q2 q3 q4 q5 q6 q7 q8 q9 : Nat) (sz : Nat) (u0 u1 u2 u3 u4 u5 u6 u7 u8 u9 : Value) (zdogs : Int32) (zhungry : Int32) (zcounts : Int32) (zasked : Int32) (zhalves : Nat → Int32) (zlikes : Nat → Int32) (zisTold : Nat → Int32) (zfears : Nat → Int32) (zheirs : Nat → Int32) (zcount : Nat → Int32) (zquestion : Nat → Int32) (zimage : Nat → Int32) (zisKept : Nat → Int32) (a1 : Int32) (post : Int32 → Int32 → Int32 → Int32 → Int32 → (Nat → Int32) → (Nat → Int32) → (Nat → Int32) → (Nat → Int32) → (Nat → Int32) → (Nat → Int32) → (Nat → Int32) → Prop) (hw : wp_X12_restore zdogs zhungry zcounts zasked zhalves zlikes zisTold zfears zheirs zcount zquestion zimage zisKept a1 post) : gM l yX12_restore cX12_restore 4 (some .int) 1 22 D ci cz tr [(q0, .inr (11, [.int zdogs, .ref q1, .ref q2, .ref q3, .ref q4, .ref q5, .int zhungry, .int zcounts, .ref q6, .int zasked, .ref q7, u0, u1, u2, u3, u4, u5, u6, u7, u8, u9, .ref q8, .ref q9])), (q1, .inl (ci, 7, .inl zhalves)), (q2, .inl (ci, 7, .inl zlikes)), (q3, .inl (cz, 7, .inl zisTold)), (q4, .inl (ci, 7, .inl zfears)), (q5, .inl (ci, 7, .inl zheirs)), (q6, .inl (ci, 18, .inl zcount)), (q7, .inl (ci, 15, .inl zquestion)), (q8, .inl (ci, 144, .inl zimage)), (q9, .inl (cz, 2, .inl zisKept))] sz [.ref q0, .int a1] (gQi D [(q0, .inr (11, [.int zdogs, .ref q1, .ref q2, .ref q3, .ref q4, .ref q5, .int zhungry, .int zcounts, .ref q6, .int zasked, .ref q7, u0, u1, u2, u3, u4, u5, u6, u7, u8, u9, .ref q8, .ref q9])), (q1, .inl (ci, 7, .inl zhalves)), (q2, .inl (ci, 7, .inl zlikes)), (q3, .inl (cz, 7, .inl zisTold)), (q4, .inl (ci, 7, .inl zfears)), (q5, .inl (ci, 7, .inl zheirs)), (q6, .inl (ci, 18, .inl zcount)), (q7, .inl (ci, 15, .inl zquestion)), (q8, .inl (ci, 144, .inl zimage)), (q9, .inl (cz, 2, .inl zisKept))] sz (fun (r : Int32) w => ∃ (o_zdogs : Int32) (o_zhungry : Int32) (o_zcounts : Int32) (o_zasked : Int32) (o_zhalves : Nat → Int32) (o_zlikes : Nat → Int32) (o_zisTold : Nat → Int32) (o_zfears : Nat → Int32) (o_zheirs : Nat → Int32) (o_zcount : Nat → Int32) (o_zquestion : Nat → Int32), w = [(q0, .inr (11, [.int o_zdogs, .ref q1, .ref q2, .ref q3, .ref q4, .ref q5, .int o_zhungry, .int o_zcounts, .ref q6, .int o_zasked, .ref q7, u0, u1, u2, u3, u4, u5, u6, u7, u8, u9, .ref q8, .ref q9])), (q1, .inl (ci, 7, .inl o_zhalves)), (q2, .inl (ci, 7, .inl o_zlikes)), (q3, .inl (cz, 7, .inl o_zisTold)), (q4, .inl (ci, 7, .inl o_zfears)), (q5, .inl (ci, 7, .inl o_zheirs)), (q6, .inl (ci, 18, .inl o_zcount)), (q7, .inl (ci, 15, .inl o_zquestion)), (q8, .inl (ci, 144, .inl zimage)), (q9, .inl (cz, 2, .inl zisKept))] ∧ post r o_zdogs o_zhungry o_zcounts o_zasked o_zhalves o_zlikes o_zisTold o_zfears o_zheirs o_zcount o_zquestion)) := by
  refine gmet_i RX12 (by decide +kernel) rfl (Nat.le_of_ble_eq_true rfl) ?_
  intro p e s m args below meth c A R Q C hfr hlc hP hD hret ls hl
  obtain ⟨hx, hb, hml, hown, ht, hK, hZ, hA⟩ := C
  have hl : lv_has ls 4 [(0, .ref q0), (1, .int a1)] := hl
  unfold wp_X12_restore at hw
  refine g_in (fun H locs => W p l e R s m args below meth c H locs 0 0 Q (F0 m 0 ls [])) (fun H locs hS0 hP => ?_) hP (va_S.rf (A := A) (H0 := s.heap))
  have hS : va_S A s.heap H locs := hS0
  clear hS0
  refine lv_iload_n hx hb dX12_restore_0 rfl (lv_at hl 1 rfl) ?_
  refine lv_iconst (v := (0 : Int32)) hx hb dX12_restore_1 (by decide) ?_
  refine lv_iconst (v := (1 : Int32)) hx hb dX12_restore_2 (by decide) ?_
  refine gcalli (va_runS (As := [.int a1, .int (0 : Int32), .int (1 : Int32)]) (rest := []) ⟨hx, hb, hml, hown, ht⟩ (c_X12_in l D ci cz tr  H.size a1 (0 : Int32) (1 : Int32) _ hw) (va_cwS 3 ht (gi_S mM_X12_66 mT_X12_in mN_X12 mC_X12_in) rfl rfl rfl (by decide +kernel) ⟨Nat.le_trans (Nat.le_of_ble_eq_true rfl) hfr, Nat.le_trans (Nat.le_of_ble_eq_true rfl) hlc⟩) (gpre (wc := []) hK hZ hP hD hS hA [] rfl rfl) rfl rfl hl.1 rfl (lv_room (Nat.le_of_ble_eq_true rfl)) dX12_restore_3 ⟨Nat.zero_le _, Nat.zero_le _⟩) hD hS hA [] rfl (fun r_1 w9 H locs hw hP9 hk9 hS => ?_)
  obtain ⟨rfl, hw⟩ := hw
  have hP : va_P D vwCl [(q0, .inr (11, [.int zdogs, .ref q1, .ref q2, .ref q3, .ref q4, .ref q5, .int zhungry, .int zcounts, .ref q6, .int zasked, .ref q7, u0, u1, u2, u3, u4, u5, u6, u7, u8, u9, .ref q8, .ref q9])), (q1, .inl (ci, 7, .inl zhalves)), (q2, .inl (ci, 7, .inl zlikes)), (q3, .inl (cz, 7, .inl zisTold)), (q4, .inl (ci, 7, .inl zfears)), (q5, .inl (ci, 7, .inl zheirs)), (q6, .inl (ci, 18, .inl zcount)), (q7, .inl (ci, 15, .inl zquestion)), (q8, .inl (ci, 144, .inl zimage)), (q9, .inl (cz, 2, .inl zisKept))] H := gjoin3 hP hD [] hP9 hk9 rfl rfl [none, none, none, none, none, none, none, none, none, none] rfl rfl
  clear hP9 hk9
  refine lv_if_ne (tgt := 12) hx hb dX12_restore_6 (by decide) (fun hc => ?_) (fun hc => ?_)
  · have hw := hw.1 hc
    refine lv_aload_n hx hb dX12_restore_12 rfl (lv_at hl 0 rfl) ?_
    refine va_get (D := D) (ci := 11) (v := .ref q9) (C := RX12) (T := TX12) (N := 23) hx hb ht in_X12 hown hK.1 hP 0 rfl rfl 22 (by decide) (ht _ mF_X12_60) (fun _ h9 => h9) rfl dX12_restore_13 ?_
    refine lv_iload_n hx hb dX12_restore_16 rfl (lv_at hl 1 rfl) ?_
    obtain ⟨hin, hw⟩ := hw
    refine va_zald (D := D) hx hb hK.1 hP 9 1 rfl rfl hin dX12_restore_17 ?_
    refine lv_if_ne (tgt := 24) hx hb dX12_restore_18 (by decide) (fun hc => ?_) (fun hc => ?_)
    · have hw := hw.1 hc
      refine lv_bipush (v := (72 : Int32)) hx hb dX12_restore_24 (by decide) ?_
      refine lv_iload_n hx hb dX12_restore_26 rfl (lv_at hl 1 rfl) ?_
      refine lv_imul hx hb dX12_restore_27 ?_
      refine lv_istore_n (lv' := [(2, .int ((72 : Int32) * a1)), (0, .ref q0), (1, .int a1)]) hx hb dX12_restore_28 rfl hl (by decide) rfl (fun ls hl => ?_)
      refine lv_iconst (v := (0 : Int32)) hx hb dX12_restore_29 (by decide) ?_
      refine lv_istore_n (lv' := [(3, .int (0 : Int32)), (2, .int ((72 : Int32) * a1)), (0, .ref q0), (1, .int a1)]) hx hb dX12_restore_30 rfl hl (by decide) rfl (fun ls hl => ?_)
      refine jn_walk hw (fun J134 => ∀ (zhalves_2 : Nat → Int32) (zlikes_3 : Nat → Int32) (zisTold_4 : Nat → Int32) (zfears_5 : Nat → Int32) (zheirs_6 : Nat → Int32) (H : Heap) (locs : List Loc) (ls : Array Slot), J134 zhalves_2 zlikes_3 zisTold_4 zfears_5 zheirs_6 → va_P D vwCl [(q0, .inr (11, [.int zdogs, .ref q1, .ref q2, .ref q3, .ref q4, .ref q5, .int zhungry, .int zcounts, .ref q6, .int zasked, .ref q7, u0, u1, u2, u3, u4, u5, u6, u7, u8, u9, .ref q8, .ref q9])), (q1, .inl (ci, 7, .inl zhalves_2)), (q2, .inl (ci, 7, .inl zlikes_3)), (q3, .inl (cz, 7, .inl zisTold_4)), (q4, .inl (ci, 7, .inl zfears_5)), (q5, .inl (ci, 7, .inl zheirs_6)), (q6, .inl (ci, 18, .inl zcount)), (q7, .inl (ci, 15, .inl zquestion)), (q8, .inl (ci, 144, .inl zimage)), (q9, .inl (cz, 2, .inl zisKept))] H → va_S A s.heap H locs → lv_has ls 4 [(0, .ref q0), (2, .int ((72 : Int32) * a1))] → W p l e R s m args below meth c H locs 0 0 Q (F0 m 134 ls [])) ?_ ?_
      · intro zhalves_2 zlikes_3 zisTold_4 zfears_5 zheirs_6 H locs ls hw hP hS hl
        have hD : va_D A [(q0, .inr (11, [.int zdogs, .ref q1, .ref q2, .ref q3, .ref q4, .ref q5, .int zhungry, .int zcounts, .ref q6, .int zasked, .ref q7, u0, u1, u2, u3, u4, u5, u6, u7, u8, u9, .ref q8, .ref q9])), (q1, .inl (ci, 7, .inl zhalves_2)), (q2, .inl (ci, 7, .inl zlikes_3)), (q3, .inl (cz, 7, .inl zisTold_4)), (q4, .inl (ci, 7, .inl zfears_5)), (q5, .inl (ci, 7, .inl zheirs_6)), (q6, .inl (ci, 18, .inl zcount)), (q7, .inl (ci, 15, .inl zquestion)), (q8, .inl (ci, 144, .inl zimage)), (q9, .inl (cz, 2, .inl zisKept))] := gD_re hD rfl
        refine lv_iconst (v := (0 : Int32)) hx hb dX12_restore_134 (by decide) ?_
        refine lv_istore_n (lv' := [(3, .int (0 : Int32)), (0, .ref q0), (2, .int ((72 : Int32) * a1))]) hx hb dX12_restore_135 rfl hl (by decide) rfl (fun ls hl => ?_)
        refine jn_walk hw (fun J165 => ∀ (zcount_7 : Nat → Int32) (H : Heap) (locs : List Loc) (ls : Array Slot), J165 zcount_7 → va_P D vwCl [(q0, .inr (11, [.int zdogs, .ref q1, .ref q2, .ref q3, .ref q4, .ref q5, .int zhungry, .int zcounts, .ref q6, .int zasked, .ref q7, u0, u1, u2, u3, u4, u5, u6, u7, u8, u9, .ref q8, .ref q9])), (q1, .inl (ci, 7, .inl zhalves_2)), (q2, .inl (ci, 7, .inl zlikes_3)), (q3, .inl (cz, 7, .inl zisTold_4)), (q4, .inl (ci, 7, .inl zfears_5)), (q5, .inl (ci, 7, .inl zheirs_6)), (q6, .inl (ci, 18, .inl zcount_7)), (q7, .inl (ci, 15, .inl zquestion)), (q8, .inl (ci, 144, .inl zimage)), (q9, .inl (cz, 2, .inl zisKept))] H → va_S A s.heap H locs → lv_has ls 4 [(0, .ref q0), (2, .int ((72 : Int32) * a1))] → W p l e R s m args below meth c H locs 0 0 Q (F0 m 165 ls [])) ?_ ?_
        · intro zcount_7 H locs ls hw hP hS hl
          have hD : va_D A [(q0, .inr (11, [.int zdogs, .ref q1, .ref q2, .ref q3, .ref q4, .ref q5, .int zhungry, .int zcounts, .ref q6, .int zasked, .ref q7, u0, u1, u2, u3, u4, u5, u6, u7, u8, u9, .ref q8, .ref q9])), (q1, .inl (ci, 7, .inl zhalves_2)), (q2, .inl (ci, 7, .inl zlikes_3)), (q3, .inl (cz, 7, .inl zisTold_4)), (q4, .inl (ci, 7, .inl zfears_5)), (q5, .inl (ci, 7, .inl zheirs_6)), (q6, .inl (ci, 18, .inl zcount_7)), (q7, .inl (ci, 15, .inl zquestion)), (q8, .inl (ci, 144, .inl zimage)), (q9, .inl (cz, 2, .inl zisKept))] := gD_re hD rfl
          refine lv_iconst (v := (0 : Int32)) hx hb dX12_restore_165 (by decide) ?_
          refine lv_istore_n (lv' := [(3, .int (0 : Int32)), (0, .ref q0), (2, .int ((72 : Int32) * a1))]) hx hb dX12_restore_166 rfl hl (by decide) rfl (fun ls hl => ?_)
          refine jn_walk hw (fun J196 => ∀ (zquestion_8 : Nat → Int32) (H : Heap) (locs : List Loc) (ls : Array Slot), J196 zquestion_8 → va_P D vwCl [(q0, .inr (11, [.int zdogs, .ref q1, .ref q2, .ref q3, .ref q4, .ref q5, .int zhungry, .int zcounts, .ref q6, .int zasked, .ref q7, u0, u1, u2, u3, u4, u5, u6, u7, u8, u9, .ref q8, .ref q9])), (q1, .inl (ci, 7, .inl zhalves_2)), (q2, .inl (ci, 7, .inl zlikes_3)), (q3, .inl (cz, 7, .inl zisTold_4)), (q4, .inl (ci, 7, .inl zfears_5)), (q5, .inl (ci, 7, .inl zheirs_6)), (q6, .inl (ci, 18, .inl zcount_7)), (q7, .inl (ci, 15, .inl zquestion_8)), (q8, .inl (ci, 144, .inl zimage)), (q9, .inl (cz, 2, .inl zisKept))] H → va_S A s.heap H locs → lv_has ls 4 [(0, .ref q0), (2, .int ((72 : Int32) * a1))] → W p l e R s m args below meth c H locs 0 0 Q (F0 m 196 ls [])) ?_ ?_
          · intro zquestion_8 H locs ls hw hP hS hl
            have hD : va_D A [(q0, .inr (11, [.int zdogs, .ref q1, .ref q2, .ref q3, .ref q4, .ref q5, .int zhungry, .int zcounts, .ref q6, .int zasked, .ref q7, u0, u1, u2, u3, u4, u5, u6, u7, u8, u9, .ref q8, .ref q9])), (q1, .inl (ci, 7, .inl zhalves_2)), (q2, .inl (ci, 7, .inl zlikes_3)), (q3, .inl (cz, 7, .inl zisTold_4)), (q4, .inl (ci, 7, .inl zfears_5)), (q5, .inl (ci, 7, .inl zheirs_6)), (q6, .inl (ci, 18, .inl zcount_7)), (q7, .inl (ci, 15, .inl zquestion_8)), (q8, .inl (ci, 144, .inl zimage)), (q9, .inl (cz, 2, .inl zisKept))] := gD_re hD rfl
            refine lv_aload_n hx hb dX12_restore_196 rfl (lv_at hl 0 rfl) ?_
            refine lv_aload_n hx hb dX12_restore_197 rfl (lv_at hl 0 rfl) ?_
            refine va_get (D := D) (ci := 11) (v := .ref q8) (C := RX12) (T := TX12) (N := 23) hx hb ht in_X12 hown hK.1 hP 0 rfl rfl 21 (by decide) (ht _ mF_X12_57) (fun _ h9 => h9) rfl dX12_restore_198 ?_
            refine lv_iload_n hx hb dX12_restore_201 rfl (lv_at hl 1 rfl) ?_
            refine lv_bipush (v := (68 : Int32)) hx hb dX12_restore_202 (by decide) ?_
            refine lv_iadd hx hb dX12_restore_204 ?_
            obtain ⟨hin, hw⟩ := hw
            refine va_iald (D := D) hx hb hK.1 hP 8 0 rfl rfl hin dX12_restore_205 ?_
            refine va_put (D := D) (ci := 11) (v := .int (zimage ((((72 : Int32) * a1) + (68 : Int32))).toNatClampNeg)) (ty := .int) (C := RX12) (T := TX12) (N := 23) hx hb ht in_X12 tyX12 tyX12_ok nmX12 hown hK.1 hP hD hS 0 rfl rfl 0 (by decide) (ht _ mF_X12_63) (fun _ h9 => h9) rfl (by decide +kernel) rfl rfl (Nat.le_of_ble_eq_true rfl) dX12_restore_206 (fun H locs hP hD hS => ?_)
            have hP : va_P D vwCl [(q0, .inr (11, [.int (zimage ((((72 : Int32) * a1) + (68 : Int32))).toNatClampNeg), .ref q1, .ref q2, .ref q3, .ref q4, .ref q5, .int zhungry, .int zcounts, .ref q6, .int zasked, .ref q7, u0, u1, u2, u3, u4, u5, u6, u7, u8, u9, .ref q8, .ref q9])), (q1, .inl (ci, 7, .inl zhalves_2)), (q2, .inl (ci, 7, .inl zlikes_3)), (q3, .inl (cz, 7, .inl zisTold_4)), (q4, .inl (ci, 7, .inl zfears_5)), (q5, .inl (ci, 7, .inl zheirs_6)), (q6, .inl (ci, 18, .inl zcount_7)), (q7, .inl (ci, 15, .inl zquestion_8)), (q8, .inl (ci, 144, .inl zimage)), (q9, .inl (cz, 2, .inl zisKept))] H := hP
            have hD : va_D A [(q0, .inr (11, [.int (zimage ((((72 : Int32) * a1) + (68 : Int32))).toNatClampNeg), .ref q1, .ref q2, .ref q3, .ref q4, .ref q5, .int zhungry, .int zcounts, .ref q6, .int zasked, .ref q7, u0, u1, u2, u3, u4, u5, u6, u7, u8, u9, .ref q8, .ref q9])), (q1, .inl (ci, 7, .inl zhalves_2)), (q2, .inl (ci, 7, .inl zlikes_3)), (q3, .inl (cz, 7, .inl zisTold_4)), (q4, .inl (ci, 7, .inl zfears_5)), (q5, .inl (ci, 7, .inl zheirs_6)), (q6, .inl (ci, 18, .inl zcount_7)), (q7, .inl (ci, 15, .inl zquestion_8)), (q8, .inl (ci, 144, .inl zimage)), (q9, .inl (cz, 2, .inl zisKept))] := hD
            refine lv_aload_n hx hb dX12_restore_209 rfl (lv_at hl 0 rfl) ?_
            refine lv_aload_n hx hb dX12_restore_210 rfl (lv_at hl 0 rfl) ?_
            refine va_get (D := D) (ci := 11) (v := .ref q8) (C := RX12) (T := TX12) (N := 23) hx hb ht in_X12 hown hK.1 hP 0 rfl rfl 21 (by decide) (ht _ mF_X12_57) (fun _ h9 => h9) rfl dX12_restore_211 ?_
            refine lv_iload_n hx hb dX12_restore_214 rfl (lv_at hl 1 rfl) ?_
            refine lv_bipush (v := (69 : Int32)) hx hb dX12_restore_215 (by decide) ?_
            refine lv_iadd hx hb dX12_restore_217 ?_
            obtain ⟨hin, hw⟩ := hw
            refine va_iald (D := D) hx hb hK.1 hP 8 0 rfl rfl hin dX12_restore_218 ?_
            refine va_put (D := D) (ci := 11) (v := .int (zimage ((((72 : Int32) * a1) + (69 : Int32))).toNatClampNeg)) (ty := .int) (C := RX12) (T := TX12) (N := 23) hx hb ht in_X12 tyX12 tyX12_ok nmX12 hown hK.1 hP hD hS 0 rfl rfl 7 (by decide) (ht _ mF_X12_77) (fun _ h9 => h9) rfl (by decide +kernel) rfl rfl (Nat.le_of_ble_eq_true rfl) dX12_restore_219 (fun H locs hP hD hS => ?_)
            have hP : va_P D vwCl [(q0, .inr (11, [.int (zimage ((((72 : Int32) * a1) + (68 : Int32))).toNatClampNeg), .ref q1, .ref q2, .ref q3, .ref q4, .ref q5, .int zhungry, .int (zimage ((((72 : Int32) * a1) + (69 : Int32))).toNatClampNeg), .ref q6, .int zasked, .ref q7, u0, u1, u2, u3, u4, u5, u6, u7, u8, u9, .ref q8, .ref q9])), (q1, .inl (ci, 7, .inl zhalves_2)), (q2, .inl (ci, 7, .inl zlikes_3)), (q3, .inl (cz, 7, .inl zisTold_4)), (q4, .inl (ci, 7, .inl zfears_5)), (q5, .inl (ci, 7, .inl zheirs_6)), (q6, .inl (ci, 18, .inl zcount_7)), (q7, .inl (ci, 15, .inl zquestion_8)), (q8, .inl (ci, 144, .inl zimage)), (q9, .inl (cz, 2, .inl zisKept))] H := hP
            have hD : va_D A [(q0, .inr (11, [.int (zimage ((((72 : Int32) * a1) + (68 : Int32))).toNatClampNeg), .ref q1, .ref q2, .ref q3, .ref q4, .ref q5, .int zhungry, .int (zimage ((((72 : Int32) * a1) + (69 : Int32))).toNatClampNeg), .ref q6, .int zasked, .ref q7, u0, u1, u2, u3, u4, u5, u6, u7, u8, u9, .ref q8, .ref q9])), (q1, .inl (ci, 7, .inl zhalves_2)), (q2, .inl (ci, 7, .inl zlikes_3)), (q3, .inl (cz, 7, .inl zisTold_4)), (q4, .inl (ci, 7, .inl zfears_5)), (q5, .inl (ci, 7, .inl zheirs_6)), (q6, .inl (ci, 18, .inl zcount_7)), (q7, .inl (ci, 15, .inl zquestion_8)), (q8, .inl (ci, 144, .inl zimage)), (q9, .inl (cz, 2, .inl zisKept))] := hD
            refine lv_aload_n hx hb dX12_restore_222 rfl (lv_at hl 0 rfl) ?_
            refine lv_aload_n hx hb dX12_restore_223 rfl (lv_at hl 0 rfl) ?_
            refine va_get (D := D) (ci := 11) (v := .ref q8) (C := RX12) (T := TX12) (N := 23) hx hb ht in_X12 hown hK.1 hP 0 rfl rfl 21 (by decide) (ht _ mF_X12_57) (fun _ h9 => h9) rfl dX12_restore_224 ?_
            refine lv_iload_n hx hb dX12_restore_227 rfl (lv_at hl 1 rfl) ?_
            refine lv_bipush (v := (70 : Int32)) hx hb dX12_restore_228 (by decide) ?_
            refine lv_iadd hx hb dX12_restore_230 ?_
            obtain ⟨hin, hw⟩ := hw
            refine va_iald (D := D) hx hb hK.1 hP 8 0 rfl rfl hin dX12_restore_231 ?_
            refine va_put (D := D) (ci := 11) (v := .int (zimage ((((72 : Int32) * a1) + (70 : Int32))).toNatClampNeg)) (ty := .int) (C := RX12) (T := TX12) (N := 23) hx hb ht in_X12 tyX12 tyX12_ok nmX12 hown hK.1 hP hD hS 0 rfl rfl 9 (by decide) (ht _ mF_X12_165) (fun _ h9 => h9) rfl (by decide +kernel) rfl rfl (Nat.le_of_ble_eq_true rfl) dX12_restore_232 (fun H locs hP hD hS => ?_)
            have hP : va_P D vwCl [(q0, .inr (11, [.int (zimage ((((72 : Int32) * a1) + (68 : Int32))).toNatClampNeg), .ref q1, .ref q2, .ref q3, .ref q4, .ref q5, .int zhungry, .int (zimage ((((72 : Int32) * a1) + (69 : Int32))).toNatClampNeg), .ref q6, .int (zimage ((((72 : Int32) * a1) + (70 : Int32))).toNatClampNeg), .ref q7, u0, u1, u2, u3, u4, u5, u6, u7, u8, u9, .ref q8, .ref q9])), (q1, .inl (ci, 7, .inl zhalves_2)), (q2, .inl (ci, 7, .inl zlikes_3)), (q3, .inl (cz, 7, .inl zisTold_4)), (q4, .inl (ci, 7, .inl zfears_5)), (q5, .inl (ci, 7, .inl zheirs_6)), (q6, .inl (ci, 18, .inl zcount_7)), (q7, .inl (ci, 15, .inl zquestion_8)), (q8, .inl (ci, 144, .inl zimage)), (q9, .inl (cz, 2, .inl zisKept))] H := hP
            have hD : va_D A [(q0, .inr (11, [.int (zimage ((((72 : Int32) * a1) + (68 : Int32))).toNatClampNeg), .ref q1, .ref q2, .ref q3, .ref q4, .ref q5, .int zhungry, .int (zimage ((((72 : Int32) * a1) + (69 : Int32))).toNatClampNeg), .ref q6, .int (zimage ((((72 : Int32) * a1) + (70 : Int32))).toNatClampNeg), .ref q7, u0, u1, u2, u3, u4, u5, u6, u7, u8, u9, .ref q8, .ref q9])), (q1, .inl (ci, 7, .inl zhalves_2)), (q2, .inl (ci, 7, .inl zlikes_3)), (q3, .inl (cz, 7, .inl zisTold_4)), (q4, .inl (ci, 7, .inl zfears_5)), (q5, .inl (ci, 7, .inl zheirs_6)), (q6, .inl (ci, 18, .inl zcount_7)), (q7, .inl (ci, 15, .inl zquestion_8)), (q8, .inl (ci, 144, .inl zimage)), (q9, .inl (cz, 2, .inl zisKept))] := hD
            refine lv_aload_n hx hb dX12_restore_235 rfl (lv_at hl 0 rfl) ?_
            refine lv_aload_n hx hb dX12_restore_236 rfl (lv_at hl 0 rfl) ?_
            refine va_get (D := D) (ci := 11) (v := .ref q8) (C := RX12) (T := TX12) (N := 23) hx hb ht in_X12 hown hK.1 hP 0 rfl rfl 21 (by decide) (ht _ mF_X12_57) (fun _ h9 => h9) rfl dX12_restore_237 ?_
            refine lv_iload_n hx hb dX12_restore_240 rfl (lv_at hl 1 rfl) ?_
            refine lv_bipush (v := (71 : Int32)) hx hb dX12_restore_241 (by decide) ?_
            refine lv_iadd hx hb dX12_restore_243 ?_
            obtain ⟨hin, hw⟩ := hw
            refine va_iald (D := D) hx hb hK.1 hP 8 0 rfl rfl hin dX12_restore_244 ?_
            refine va_put (D := D) (ci := 11) (v := .int (zimage ((((72 : Int32) * a1) + (71 : Int32))).toNatClampNeg)) (ty := .int) (C := RX12) (T := TX12) (N := 23) hx hb ht in_X12 tyX12 tyX12_ok nmX12 hown hK.1 hP hD hS 0 rfl rfl 6 (by decide) (ht _ mF_X12_26) (fun _ h9 => h9) rfl (by decide +kernel) rfl rfl (Nat.le_of_ble_eq_true rfl) dX12_restore_245 (fun H locs hP hD hS => ?_)
            have hP : va_P D vwCl [(q0, .inr (11, [.int (zimage ((((72 : Int32) * a1) + (68 : Int32))).toNatClampNeg), .ref q1, .ref q2, .ref q3, .ref q4, .ref q5, .int (zimage ((((72 : Int32) * a1) + (71 : Int32))).toNatClampNeg), .int (zimage ((((72 : Int32) * a1) + (69 : Int32))).toNatClampNeg), .ref q6, .int (zimage ((((72 : Int32) * a1) + (70 : Int32))).toNatClampNeg), .ref q7, u0, u1, u2, u3, u4, u5, u6, u7, u8, u9, .ref q8, .ref q9])), (q1, .inl (ci, 7, .inl zhalves_2)), (q2, .inl (ci, 7, .inl zlikes_3)), (q3, .inl (cz, 7, .inl zisTold_4)), (q4, .inl (ci, 7, .inl zfears_5)), (q5, .inl (ci, 7, .inl zheirs_6)), (q6, .inl (ci, 18, .inl zcount_7)), (q7, .inl (ci, 15, .inl zquestion_8)), (q8, .inl (ci, 144, .inl zimage)), (q9, .inl (cz, 2, .inl zisKept))] H := hP
            have hD : va_D A [(q0, .inr (11, [.int (zimage ((((72 : Int32) * a1) + (68 : Int32))).toNatClampNeg), .ref q1, .ref q2, .ref q3, .ref q4, .ref q5, .int (zimage ((((72 : Int32) * a1) + (71 : Int32))).toNatClampNeg), .int (zimage ((((72 : Int32) * a1) + (69 : Int32))).toNatClampNeg), .ref q6, .int (zimage ((((72 : Int32) * a1) + (70 : Int32))).toNatClampNeg), .ref q7, u0, u1, u2, u3, u4, u5, u6, u7, u8, u9, .ref q8, .ref q9])), (q1, .inl (ci, 7, .inl zhalves_2)), (q2, .inl (ci, 7, .inl zlikes_3)), (q3, .inl (cz, 7, .inl zisTold_4)), (q4, .inl (ci, 7, .inl zfears_5)), (q5, .inl (ci, 7, .inl zheirs_6)), (q6, .inl (ci, 18, .inl zcount_7)), (q7, .inl (ci, 15, .inl zquestion_8)), (q8, .inl (ci, 144, .inl zimage)), (q9, .inl (cz, 2, .inl zisKept))] := hD
            refine lv_iconst (v := (1 : Int32)) hx hb dX12_restore_248 (by decide) ?_
            exact hret _ _ H locs _ _ ⟨_, _, _, _, _, _, _, _, _, _, _, rfl, hw⟩ hP hS dX12_restore_249
          · intro J196 hJ196 hw
            refine lo_walk hw (fun G167 => ∀ (x3_9 : Int32) (zquestion_10 : Nat → Int32) (H : Heap) (locs : List Loc) (ls : Array Slot), G167 x3_9 zquestion_10 → va_P D vwCl [(q0, .inr (11, [.int zdogs, .ref q1, .ref q2, .ref q3, .ref q4, .ref q5, .int zhungry, .int zcounts, .ref q6, .int zasked, .ref q7, u0, u1, u2, u3, u4, u5, u6, u7, u8, u9, .ref q8, .ref q9])), (q1, .inl (ci, 7, .inl zhalves_2)), (q2, .inl (ci, 7, .inl zlikes_3)), (q3, .inl (cz, 7, .inl zisTold_4)), (q4, .inl (ci, 7, .inl zfears_5)), (q5, .inl (ci, 7, .inl zheirs_6)), (q6, .inl (ci, 18, .inl zcount_7)), (q7, .inl (ci, 15, .inl zquestion_10)), (q8, .inl (ci, 144, .inl zimage)), (q9, .inl (cz, 2, .inl zisKept))] H → va_S A s.heap H locs → lv_has ls 4 [(0, .ref q0), (2, .int ((72 : Int32) * a1)), (3, .int x3_9)] → W p l e R s m args below meth c H locs 0 0 Q (F0 m 167 ls [])) (fun _ _ _ _ _ hw _ _ _ => False.elim hw) (fun G167 hG167 x3_9 zquestion_10 H locs ls hw hP hS hl => ?_) (fun G167 hG167 hw => hG167 _ _ H locs ls hw hP hS (lv_sub hl [1, 2, 0] rfl))
            have hD : va_D A [(q0, .inr (11, [.int zdogs, .ref q1, .ref q2, .ref q3, .ref q4, .ref q5, .int zhungry, .int zcounts, .ref q6, .int zasked, .ref q7, u0, u1, u2, u3, u4, u5, u6, u7, u8, u9, .ref q8, .ref q9])), (q1, .inl (ci, 7, .inl zhalves_2)), (q2, .inl (ci, 7, .inl zlikes_3)), (q3, .inl (cz, 7, .inl zisTold_4)), (q4, .inl (ci, 7, .inl zfears_5)), (q5, .inl (ci, 7, .inl zheirs_6)), (q6, .inl (ci, 18, .inl zcount_7)), (q7, .inl (ci, 15, .inl zquestion_10)), (q8, .inl (ci, 144, .inl zimage)), (q9, .inl (cz, 2, .inl zisKept))] := gD_re hD rfl
            refine lv_iload_n hx hb dX12_restore_167 rfl (lv_at hl 2 rfl) ?_
            refine lv_bipush (v := (15 : Int32)) hx hb dX12_restore_168 (by decide) ?_
            refine lv_icmp_ge (tgt := 196) hx hb dX12_restore_170 (by decide) (fun hc => ?_) (fun hc => ?_)
            · have hw := hw.1 hc
              exact hJ196 _ H locs ls hw hP hS (lv_sub hl [0, 1] rfl)
            · have hw := hw.2 hc
              refine lv_aload_n hx hb dX12_restore_173 rfl (lv_at hl 0 rfl) ?_
              refine va_get (D := D) (ci := 11) (v := .ref q7) (C := RX12) (T := TX12) (N := 23) hx hb ht in_X12 hown hK.1 hP 0 rfl rfl 10 (by decide) (ht _ mF_X12_33) (fun _ h9 => h9) rfl dX12_restore_174 ?_
              refine lv_iload_n hx hb dX12_restore_177 rfl (lv_at hl 2 rfl) ?_
              refine lv_aload_n hx hb dX12_restore_178 rfl (lv_at hl 0 rfl) ?_
              refine va_get (D := D) (ci := 11) (v := .ref q8) (C := RX12) (T := TX12) (N := 23) hx hb ht in_X12 hown hK.1 hP 0 rfl rfl 21 (by decide) (ht _ mF_X12_57) (fun _ h9 => h9) rfl dX12_restore_179 ?_
              refine lv_iload_n hx hb dX12_restore_182 rfl (lv_at hl 1 rfl) ?_
              refine lv_bipush (v := (53 : Int32)) hx hb dX12_restore_183 (by decide) ?_
              refine lv_iadd hx hb dX12_restore_185 ?_
              refine lv_iload_n hx hb dX12_restore_186 rfl (lv_at hl 2 rfl) ?_
              refine lv_iadd hx hb dX12_restore_187 ?_
              obtain ⟨hin, hw⟩ := hw
              refine va_iald (D := D) hx hb hK.1 hP 8 0 rfl rfl hin dX12_restore_188 ?_
              obtain ⟨hin, hw⟩ := hw
              refine va_iast (D := D) hx hb hK.1 hP hD hS 7 0 rfl rfl hin dX12_restore_189 (fun H locs hP hD hS => ?_)
              have hP : va_P D vwCl [(q0, .inr (11, [.int zdogs, .ref q1, .ref q2, .ref q3, .ref q4, .ref q5, .int zhungry, .int zcounts, .ref q6, .int zasked, .ref q7, u0, u1, u2, u3, u4, u5, u6, u7, u8, u9, .ref q8, .ref q9])), (q1, .inl (ci, 7, .inl zhalves_2)), (q2, .inl (ci, 7, .inl zlikes_3)), (q3, .inl (cz, 7, .inl zisTold_4)), (q4, .inl (ci, 7, .inl zfears_5)), (q5, .inl (ci, 7, .inl zheirs_6)), (q6, .inl (ci, 18, .inl zcount_7)), (q7, .inl (ci, 15, .inl (upd zquestion_10 (x3_9).toNatClampNeg (zimage (((((72 : Int32) * a1) + (53 : Int32)) + x3_9)).toNatClampNeg)))), (q8, .inl (ci, 144, .inl zimage)), (q9, .inl (cz, 2, .inl zisKept))] H := hP
              have hD : va_D A [(q0, .inr (11, [.int zdogs, .ref q1, .ref q2, .ref q3, .ref q4, .ref q5, .int zhungry, .int zcounts, .ref q6, .int zasked, .ref q7, u0, u1, u2, u3, u4, u5, u6, u7, u8, u9, .ref q8, .ref q9])), (q1, .inl (ci, 7, .inl zhalves_2)), (q2, .inl (ci, 7, .inl zlikes_3)), (q3, .inl (cz, 7, .inl zisTold_4)), (q4, .inl (ci, 7, .inl zfears_5)), (q5, .inl (ci, 7, .inl zheirs_6)), (q6, .inl (ci, 18, .inl zcount_7)), (q7, .inl (ci, 15, .inl (upd zquestion_10 (x3_9).toNatClampNeg (zimage (((((72 : Int32) * a1) + (53 : Int32)) + x3_9)).toNatClampNeg)))), (q8, .inl (ci, 144, .inl zimage)), (q9, .inl (cz, 2, .inl zisKept))] := hD
              refine lv_iinc (v := (x3_9 + (1 : Int32))) (lv' := [(3, .int (x3_9 + (1 : Int32))), (0, .ref q0), (2, .int ((72 : Int32) * a1))]) hx hb dX12_restore_190 hl (k := 2) rfl rfl (by decide) rfl (fun ls hl => ?_)
              refine lv_goto (tgt := 167) hx hb dX12_restore_193 (by decide) ?_
              exact hG167 _ _ H locs ls hw hP hS (lv_sub hl [1, 2, 0] rfl)
        · intro J165 hJ165 hw
          refine lo_walk hw (fun G136 => ∀ (x3_11 : Int32) (zcount_12 : Nat → Int32) (H : Heap) (locs : List Loc) (ls : Array Slot), G136 x3_11 zcount_12 → va_P D vwCl [(q0, .inr (11, [.int zdogs, .ref q1, .ref q2, .ref q3, .ref q4, .ref q5, .int zhungry, .int zcounts, .ref q6, .int zasked, .ref q7, u0, u1, u2, u3, u4, u5, u6, u7, u8, u9, .ref q8, .ref q9])), (q1, .inl (ci, 7, .inl zhalves_2)), (q2, .inl (ci, 7, .inl zlikes_3)), (q3, .inl (cz, 7, .inl zisTold_4)), (q4, .inl (ci, 7, .inl zfears_5)), (q5, .inl (ci, 7, .inl zheirs_6)), (q6, .inl (ci, 18, .inl zcount_12)), (q7, .inl (ci, 15, .inl zquestion)), (q8, .inl (ci, 144, .inl zimage)), (q9, .inl (cz, 2, .inl zisKept))] H → va_S A s.heap H locs → lv_has ls 4 [(0, .ref q0), (2, .int ((72 : Int32) * a1)), (3, .int x3_11)] → W p l e R s m args below meth c H locs 0 0 Q (F0 m 136 ls [])) (fun _ _ _ _ _ hw _ _ _ => False.elim hw) (fun G136 hG136 x3_11 zcount_12 H locs ls hw hP hS hl => ?_) (fun G136 hG136 hw => hG136 _ _ H locs ls hw hP hS (lv_sub hl [1, 2, 0] rfl))
          have hD : va_D A [(q0, .inr (11, [.int zdogs, .ref q1, .ref q2, .ref q3, .ref q4, .ref q5, .int zhungry, .int zcounts, .ref q6, .int zasked, .ref q7, u0, u1, u2, u3, u4, u5, u6, u7, u8, u9, .ref q8, .ref q9])), (q1, .inl (ci, 7, .inl zhalves_2)), (q2, .inl (ci, 7, .inl zlikes_3)), (q3, .inl (cz, 7, .inl zisTold_4)), (q4, .inl (ci, 7, .inl zfears_5)), (q5, .inl (ci, 7, .inl zheirs_6)), (q6, .inl (ci, 18, .inl zcount_12)), (q7, .inl (ci, 15, .inl zquestion)), (q8, .inl (ci, 144, .inl zimage)), (q9, .inl (cz, 2, .inl zisKept))] := gD_re hD rfl
          refine lv_iload_n hx hb dX12_restore_136 rfl (lv_at hl 2 rfl) ?_
          refine lv_bipush (v := (18 : Int32)) hx hb dX12_restore_137 (by decide) ?_
          refine lv_icmp_ge (tgt := 165) hx hb dX12_restore_139 (by decide) (fun hc => ?_) (fun hc => ?_)
          · have hw := hw.1 hc
            exact hJ165 _ H locs ls hw hP hS (lv_sub hl [0, 1] rfl)
          · have hw := hw.2 hc
            refine lv_aload_n hx hb dX12_restore_142 rfl (lv_at hl 0 rfl) ?_
            refine va_get (D := D) (ci := 11) (v := .ref q6) (C := RX12) (T := TX12) (N := 23) hx hb ht in_X12 hown hK.1 hP 0 rfl rfl 8 (by decide) (ht _ mF_X12_30) (fun _ h9 => h9) rfl dX12_restore_143 ?_
            refine lv_iload_n hx hb dX12_restore_146 rfl (lv_at hl 2 rfl) ?_
            refine lv_aload_n hx hb dX12_restore_147 rfl (lv_at hl 0 rfl) ?_
            refine va_get (D := D) (ci := 11) (v := .ref q8) (C := RX12) (T := TX12) (N := 23) hx hb ht in_X12 hown hK.1 hP 0 rfl rfl 21 (by decide) (ht _ mF_X12_57) (fun _ h9 => h9) rfl dX12_restore_148 ?_
            refine lv_iload_n hx hb dX12_restore_151 rfl (lv_at hl 1 rfl) ?_
            refine lv_bipush (v := (35 : Int32)) hx hb dX12_restore_152 (by decide) ?_
            refine lv_iadd hx hb dX12_restore_154 ?_
            refine lv_iload_n hx hb dX12_restore_155 rfl (lv_at hl 2 rfl) ?_
            refine lv_iadd hx hb dX12_restore_156 ?_
            obtain ⟨hin, hw⟩ := hw
            refine va_iald (D := D) hx hb hK.1 hP 8 0 rfl rfl hin dX12_restore_157 ?_
            obtain ⟨hin, hw⟩ := hw
            refine va_iast (D := D) hx hb hK.1 hP hD hS 6 0 rfl rfl hin dX12_restore_158 (fun H locs hP hD hS => ?_)
            have hP : va_P D vwCl [(q0, .inr (11, [.int zdogs, .ref q1, .ref q2, .ref q3, .ref q4, .ref q5, .int zhungry, .int zcounts, .ref q6, .int zasked, .ref q7, u0, u1, u2, u3, u4, u5, u6, u7, u8, u9, .ref q8, .ref q9])), (q1, .inl (ci, 7, .inl zhalves_2)), (q2, .inl (ci, 7, .inl zlikes_3)), (q3, .inl (cz, 7, .inl zisTold_4)), (q4, .inl (ci, 7, .inl zfears_5)), (q5, .inl (ci, 7, .inl zheirs_6)), (q6, .inl (ci, 18, .inl (upd zcount_12 (x3_11).toNatClampNeg (zimage (((((72 : Int32) * a1) + (35 : Int32)) + x3_11)).toNatClampNeg)))), (q7, .inl (ci, 15, .inl zquestion)), (q8, .inl (ci, 144, .inl zimage)), (q9, .inl (cz, 2, .inl zisKept))] H := hP
            have hD : va_D A [(q0, .inr (11, [.int zdogs, .ref q1, .ref q2, .ref q3, .ref q4, .ref q5, .int zhungry, .int zcounts, .ref q6, .int zasked, .ref q7, u0, u1, u2, u3, u4, u5, u6, u7, u8, u9, .ref q8, .ref q9])), (q1, .inl (ci, 7, .inl zhalves_2)), (q2, .inl (ci, 7, .inl zlikes_3)), (q3, .inl (cz, 7, .inl zisTold_4)), (q4, .inl (ci, 7, .inl zfears_5)), (q5, .inl (ci, 7, .inl zheirs_6)), (q6, .inl (ci, 18, .inl (upd zcount_12 (x3_11).toNatClampNeg (zimage (((((72 : Int32) * a1) + (35 : Int32)) + x3_11)).toNatClampNeg)))), (q7, .inl (ci, 15, .inl zquestion)), (q8, .inl (ci, 144, .inl zimage)), (q9, .inl (cz, 2, .inl zisKept))] := hD
            refine lv_iinc (v := (x3_11 + (1 : Int32))) (lv' := [(3, .int (x3_11 + (1 : Int32))), (0, .ref q0), (2, .int ((72 : Int32) * a1))]) hx hb dX12_restore_159 hl (k := 2) rfl rfl (by decide) rfl (fun ls hl => ?_)
            refine lv_goto (tgt := 136) hx hb dX12_restore_162 (by decide) ?_
            exact hG136 _ _ H locs ls hw hP hS (lv_sub hl [1, 2, 0] rfl)
      · intro J134 hJ134 hw
        refine lo_walk hw (fun G31 => ∀ (x3_13 : Int32) (zhalves_14 : Nat → Int32) (zlikes_15 : Nat → Int32) (zisTold_16 : Nat → Int32) (zfears_17 : Nat → Int32) (zheirs_18 : Nat → Int32) (H : Heap) (locs : List Loc) (ls : Array Slot), G31 x3_13 zhalves_14 zlikes_15 zisTold_16 zfears_17 zheirs_18 → va_P D vwCl [(q0, .inr (11, [.int zdogs, .ref q1, .ref q2, .ref q3, .ref q4, .ref q5, .int zhungry, .int zcounts, .ref q6, .int zasked, .ref q7, u0, u1, u2, u3, u4, u5, u6, u7, u8, u9, .ref q8, .ref q9])), (q1, .inl (ci, 7, .inl zhalves_14)), (q2, .inl (ci, 7, .inl zlikes_15)), (q3, .inl (cz, 7, .inl zisTold_16)), (q4, .inl (ci, 7, .inl zfears_17)), (q5, .inl (ci, 7, .inl zheirs_18)), (q6, .inl (ci, 18, .inl zcount)), (q7, .inl (ci, 15, .inl zquestion)), (q8, .inl (ci, 144, .inl zimage)), (q9, .inl (cz, 2, .inl zisKept))] H → va_S A s.heap H locs → lv_has ls 4 [(0, .ref q0), (2, .int ((72 : Int32) * a1)), (3, .int x3_13)] → W p l e R s m args below meth c H locs 0 0 Q (F0 m 31 ls [])) (fun _ _ _ _ _ _ _ _ _ hw _ _ _ => False.elim hw) (fun G31 hG31 x3_13 zhalves_14 zlikes_15 zisTold_16 zfears_17 zheirs_18 H locs ls hw hP hS hl => ?_) (fun G31 hG31 hw => hG31 _ _ _ _ _ _ H locs ls hw hP hS (lv_sub hl [2, 1, 0] rfl))
        have hD : va_D A [(q0, .inr (11, [.int zdogs, .ref q1, .ref q2, .ref q3, .ref q4, .ref q5, .int zhungry, .int zcounts, .ref q6, .int zasked, .ref q7, u0, u1, u2, u3, u4, u5, u6, u7, u8, u9, .ref q8, .ref q9])), (q1, .inl (ci, 7, .inl zhalves_14)), (q2, .inl (ci, 7, .inl zlikes_15)), (q3, .inl (cz, 7, .inl zisTold_16)), (q4, .inl (ci, 7, .inl zfears_17)), (q5, .inl (ci, 7, .inl zheirs_18)), (q6, .inl (ci, 18, .inl zcount)), (q7, .inl (ci, 15, .inl zquestion)), (q8, .inl (ci, 144, .inl zimage)), (q9, .inl (cz, 2, .inl zisKept))] := gD_re hD rfl
        refine lv_iload_n hx hb dX12_restore_31 rfl (lv_at hl 2 rfl) ?_
        refine lv_bipush (v := (7 : Int32)) hx hb dX12_restore_32 (by decide) ?_
        refine lv_icmp_ge (tgt := 134) hx hb dX12_restore_34 (by decide) (fun hc => ?_) (fun hc => ?_)
        · have hw := hw.1 hc
          exact hJ134 _ _ _ _ _ H locs ls hw hP hS (lv_sub hl [0, 1] rfl)
        · have hw := hw.2 hc
          refine lv_aload_n hx hb dX12_restore_37 rfl (lv_at hl 0 rfl) ?_
          refine va_get (D := D) (ci := 11) (v := .ref q1) (C := RX12) (T := TX12) (N := 23) hx hb ht in_X12 hown hK.1 hP 0 rfl rfl 1 (by decide) (ht _ mF_X12_7) (fun _ h9 => h9) rfl dX12_restore_38 ?_
          refine lv_iload_n hx hb dX12_restore_41 rfl (lv_at hl 2 rfl) ?_
          refine lv_aload_n hx hb dX12_restore_42 rfl (lv_at hl 0 rfl) ?_
          refine va_get (D := D) (ci := 11) (v := .ref q8) (C := RX12) (T := TX12) (N := 23) hx hb ht in_X12 hown hK.1 hP 0 rfl rfl 21 (by decide) (ht _ mF_X12_57) (fun _ h9 => h9) rfl dX12_restore_43 ?_
          refine lv_iload_n hx hb dX12_restore_46 rfl (lv_at hl 1 rfl) ?_
          refine lv_iload_n hx hb dX12_restore_47 rfl (lv_at hl 2 rfl) ?_
          refine lv_iadd hx hb dX12_restore_48 ?_
          obtain ⟨hin, hw⟩ := hw
          refine va_iald (D := D) hx hb hK.1 hP 8 0 rfl rfl hin dX12_restore_49 ?_
          obtain ⟨hin, hw⟩ := hw
          refine va_iast (D := D) hx hb hK.1 hP hD hS 1 0 rfl rfl hin dX12_restore_50 (fun H locs hP hD hS => ?_)
          have hP : va_P D vwCl [(q0, .inr (11, [.int zdogs, .ref q1, .ref q2, .ref q3, .ref q4, .ref q5, .int zhungry, .int zcounts, .ref q6, .int zasked, .ref q7, u0, u1, u2, u3, u4, u5, u6, u7, u8, u9, .ref q8, .ref q9])), (q1, .inl (ci, 7, .inl (upd zhalves_14 (x3_13).toNatClampNeg (zimage ((((72 : Int32) * a1) + x3_13)).toNatClampNeg)))), (q2, .inl (ci, 7, .inl zlikes_15)), (q3, .inl (cz, 7, .inl zisTold_16)), (q4, .inl (ci, 7, .inl zfears_17)), (q5, .inl (ci, 7, .inl zheirs_18)), (q6, .inl (ci, 18, .inl zcount)), (q7, .inl (ci, 15, .inl zquestion)), (q8, .inl (ci, 144, .inl zimage)), (q9, .inl (cz, 2, .inl zisKept))] H := hP
          have hD : va_D A [(q0, .inr (11, [.int zdogs, .ref q1, .ref q2, .ref q3, .ref q4, .ref q5, .int zhungry, .int zcounts, .ref q6, .int zasked, .ref q7, u0, u1, u2, u3, u4, u5, u6, u7, u8, u9, .ref q8, .ref q9])), (q1, .inl (ci, 7, .inl (upd zhalves_14 (x3_13).toNatClampNeg (zimage ((((72 : Int32) * a1) + x3_13)).toNatClampNeg)))), (q2, .inl (ci, 7, .inl zlikes_15)), (q3, .inl (cz, 7, .inl zisTold_16)), (q4, .inl (ci, 7, .inl zfears_17)), (q5, .inl (ci, 7, .inl zheirs_18)), (q6, .inl (ci, 18, .inl zcount)), (q7, .inl (ci, 15, .inl zquestion)), (q8, .inl (ci, 144, .inl zimage)), (q9, .inl (cz, 2, .inl zisKept))] := hD
          refine lv_aload_n hx hb dX12_restore_51 rfl (lv_at hl 0 rfl) ?_
          refine va_get (D := D) (ci := 11) (v := .ref q2) (C := RX12) (T := TX12) (N := 23) hx hb ht in_X12 hown hK.1 hP 0 rfl rfl 2 (by decide) (ht _ mF_X12_13) (fun _ h9 => h9) rfl dX12_restore_52 ?_
          refine lv_iload_n hx hb dX12_restore_55 rfl (lv_at hl 2 rfl) ?_
          refine lv_aload_n hx hb dX12_restore_56 rfl (lv_at hl 0 rfl) ?_
          refine va_get (D := D) (ci := 11) (v := .ref q8) (C := RX12) (T := TX12) (N := 23) hx hb ht in_X12 hown hK.1 hP 0 rfl rfl 21 (by decide) (ht _ mF_X12_57) (fun _ h9 => h9) rfl dX12_restore_57 ?_
          refine lv_iload_n hx hb dX12_restore_60 rfl (lv_at hl 1 rfl) ?_
          refine lv_bipush (v := (7 : Int32)) hx hb dX12_restore_61 (by decide) ?_
          refine lv_iadd hx hb dX12_restore_63 ?_
          refine lv_iload_n hx hb dX12_restore_64 rfl (lv_at hl 2 rfl) ?_
          refine lv_iadd hx hb dX12_restore_65 ?_
          obtain ⟨hin, hw⟩ := hw
          refine va_iald (D := D) hx hb hK.1 hP 8 0 rfl rfl hin dX12_restore_66 ?_
          obtain ⟨hin, hw⟩ := hw
          refine va_iast (D := D) hx hb hK.1 hP hD hS 2 0 rfl rfl hin dX12_restore_67 (fun H locs hP hD hS => ?_)
          have hP : va_P D vwCl [(q0, .inr (11, [.int zdogs, .ref q1, .ref q2, .ref q3, .ref q4, .ref q5, .int zhungry, .int zcounts, .ref q6, .int zasked, .ref q7, u0, u1, u2, u3, u4, u5, u6, u7, u8, u9, .ref q8, .ref q9])), (q1, .inl (ci, 7, .inl (upd zhalves_14 (x3_13).toNatClampNeg (zimage ((((72 : Int32) * a1) + x3_13)).toNatClampNeg)))), (q2, .inl (ci, 7, .inl (upd zlikes_15 (x3_13).toNatClampNeg (zimage (((((72 : Int32) * a1) + (7 : Int32)) + x3_13)).toNatClampNeg)))), (q3, .inl (cz, 7, .inl zisTold_16)), (q4, .inl (ci, 7, .inl zfears_17)), (q5, .inl (ci, 7, .inl zheirs_18)), (q6, .inl (ci, 18, .inl zcount)), (q7, .inl (ci, 15, .inl zquestion)), (q8, .inl (ci, 144, .inl zimage)), (q9, .inl (cz, 2, .inl zisKept))] H := hP
          have hD : va_D A [(q0, .inr (11, [.int zdogs, .ref q1, .ref q2, .ref q3, .ref q4, .ref q5, .int zhungry, .int zcounts, .ref q6, .int zasked, .ref q7, u0, u1, u2, u3, u4, u5, u6, u7, u8, u9, .ref q8, .ref q9])), (q1, .inl (ci, 7, .inl (upd zhalves_14 (x3_13).toNatClampNeg (zimage ((((72 : Int32) * a1) + x3_13)).toNatClampNeg)))), (q2, .inl (ci, 7, .inl (upd zlikes_15 (x3_13).toNatClampNeg (zimage (((((72 : Int32) * a1) + (7 : Int32)) + x3_13)).toNatClampNeg)))), (q3, .inl (cz, 7, .inl zisTold_16)), (q4, .inl (ci, 7, .inl zfears_17)), (q5, .inl (ci, 7, .inl zheirs_18)), (q6, .inl (ci, 18, .inl zcount)), (q7, .inl (ci, 15, .inl zquestion)), (q8, .inl (ci, 144, .inl zimage)), (q9, .inl (cz, 2, .inl zisKept))] := hD
          refine lv_aload_n hx hb dX12_restore_68 rfl (lv_at hl 0 rfl) ?_
          refine va_get (D := D) (ci := 11) (v := .ref q3) (C := RX12) (T := TX12) (N := 23) hx hb ht in_X12 hown hK.1 hP 0 rfl rfl 3 (by decide) (ht _ mF_X12_16) (fun _ h9 => h9) rfl dX12_restore_69 ?_
          refine lv_iload_n hx hb dX12_restore_72 rfl (lv_at hl 2 rfl) ?_
          refine lv_aload_n hx hb dX12_restore_73 rfl (lv_at hl 0 rfl) ?_
          refine va_get (D := D) (ci := 11) (v := .ref q8) (C := RX12) (T := TX12) (N := 23) hx hb ht in_X12 hown hK.1 hP 0 rfl rfl 21 (by decide) (ht _ mF_X12_57) (fun _ h9 => h9) rfl dX12_restore_74 ?_
          refine lv_iload_n hx hb dX12_restore_77 rfl (lv_at hl 1 rfl) ?_
          refine lv_bipush (v := (14 : Int32)) hx hb dX12_restore_78 (by decide) ?_
          refine lv_iadd hx hb dX12_restore_80 ?_
          refine lv_iload_n hx hb dX12_restore_81 rfl (lv_at hl 2 rfl) ?_
          refine lv_iadd hx hb dX12_restore_82 ?_
          obtain ⟨hin, hw⟩ := hw
          refine va_iald (D := D) hx hb hK.1 hP 8 0 rfl rfl hin dX12_restore_83 ?_
          refine lv_iconst (v := (1 : Int32)) hx hb dX12_restore_84 (by decide) ?_
          refine jn_walk hw (fun J93 => ∀ (t_19 : Int32) (H : Heap) (locs : List Loc) (ls : Array Slot), J93 t_19 → va_P D vwCl [(q0, .inr (11, [.int zdogs, .ref q1, .ref q2, .ref q3, .ref q4, .ref q5, .int zhungry, .int zcounts, .ref q6, .int zasked, .ref q7, u0, u1, u2, u3, u4, u5, u6, u7, u8, u9, .ref q8, .ref q9])), (q1, .inl (ci, 7, .inl (upd zhalves_14 (x3_13).toNatClampNeg (zimage ((((72 : Int32) * a1) + x3_13)).toNatClampNeg)))), (q2, .inl (ci, 7, .inl (upd zlikes_15 (x3_13).toNatClampNeg (zimage (((((72 : Int32) * a1) + (7 : Int32)) + x3_13)).toNatClampNeg)))), (q3, .inl (cz, 7, .inl zisTold_16)), (q4, .inl (ci, 7, .inl zfears_17)), (q5, .inl (ci, 7, .inl zheirs_18)), (q6, .inl (ci, 18, .inl zcount)), (q7, .inl (ci, 15, .inl zquestion)), (q8, .inl (ci, 144, .inl zimage)), (q9, .inl (cz, 2, .inl zisKept))] H → va_S A s.heap H locs → lv_has ls 4 [(0, .ref q0), (2, .int ((72 : Int32) * a1)), (3, .int x3_13)] → W p l e R s m args below meth c H locs 0 0 Q (F0 m 93 ls [.int t_19, .int x3_13, .ref q3])) ?_ ?_
          · intro t_19 H locs ls hw hP hS hl
            have hD : va_D A [(q0, .inr (11, [.int zdogs, .ref q1, .ref q2, .ref q3, .ref q4, .ref q5, .int zhungry, .int zcounts, .ref q6, .int zasked, .ref q7, u0, u1, u2, u3, u4, u5, u6, u7, u8, u9, .ref q8, .ref q9])), (q1, .inl (ci, 7, .inl (upd zhalves_14 (x3_13).toNatClampNeg (zimage ((((72 : Int32) * a1) + x3_13)).toNatClampNeg)))), (q2, .inl (ci, 7, .inl (upd zlikes_15 (x3_13).toNatClampNeg (zimage (((((72 : Int32) * a1) + (7 : Int32)) + x3_13)).toNatClampNeg)))), (q3, .inl (cz, 7, .inl zisTold_16)), (q4, .inl (ci, 7, .inl zfears_17)), (q5, .inl (ci, 7, .inl zheirs_18)), (q6, .inl (ci, 18, .inl zcount)), (q7, .inl (ci, 15, .inl zquestion)), (q8, .inl (ci, 144, .inl zimage)), (q9, .inl (cz, 2, .inl zisKept))] := gD_re hD rfl
            obtain ⟨hin, hw⟩ := hw
            refine va_zast (D := D) hx hb hK.1 hP hD hS 3 1 rfl rfl hin dX12_restore_93 (fun H locs hP hD hS => ?_)
            have hP : va_P D vwCl [(q0, .inr (11, [.int zdogs, .ref q1, .ref q2, .ref q3, .ref q4, .ref q5, .int zhungry, .int zcounts, .ref q6, .int zasked, .ref q7, u0, u1, u2, u3, u4, u5, u6, u7, u8, u9, .ref q8, .ref q9])), (q1, .inl (ci, 7, .inl (upd zhalves_14 (x3_13).toNatClampNeg (zimage ((((72 : Int32) * a1) + x3_13)).toNatClampNeg)))), (q2, .inl (ci, 7, .inl (upd zlikes_15 (x3_13).toNatClampNeg (zimage (((((72 : Int32) * a1) + (7 : Int32)) + x3_13)).toNatClampNeg)))), (q3, .inl (cz, 7, .inl (upd zisTold_16 (x3_13).toNatClampNeg (vp_nar .boolean t_19)))), (q4, .inl (ci, 7, .inl zfears_17)), (q5, .inl (ci, 7, .inl zheirs_18)), (q6, .inl (ci, 18, .inl zcount)), (q7, .inl (ci, 15, .inl zquestion)), (q8, .inl (ci, 144, .inl zimage)), (q9, .inl (cz, 2, .inl zisKept))] H := hP
            have hD : va_D A [(q0, .inr (11, [.int zdogs, .ref q1, .ref q2, .ref q3, .ref q4, .ref q5, .int zhungry, .int zcounts, .ref q6, .int zasked, .ref q7, u0, u1, u2, u3, u4, u5, u6, u7, u8, u9, .ref q8, .ref q9])), (q1, .inl (ci, 7, .inl (upd zhalves_14 (x3_13).toNatClampNeg (zimage ((((72 : Int32) * a1) + x3_13)).toNatClampNeg)))), (q2, .inl (ci, 7, .inl (upd zlikes_15 (x3_13).toNatClampNeg (zimage (((((72 : Int32) * a1) + (7 : Int32)) + x3_13)).toNatClampNeg)))), (q3, .inl (cz, 7, .inl (upd zisTold_16 (x3_13).toNatClampNeg (vp_nar .boolean t_19)))), (q4, .inl (ci, 7, .inl zfears_17)), (q5, .inl (ci, 7, .inl zheirs_18)), (q6, .inl (ci, 18, .inl zcount)), (q7, .inl (ci, 15, .inl zquestion)), (q8, .inl (ci, 144, .inl zimage)), (q9, .inl (cz, 2, .inl zisKept))] := hD
            refine lv_aload_n hx hb dX12_restore_94 rfl (lv_at hl 0 rfl) ?_
            refine va_get (D := D) (ci := 11) (v := .ref q4) (C := RX12) (T := TX12) (N := 23) hx hb ht in_X12 hown hK.1 hP 0 rfl rfl 4 (by decide) (ht _ mF_X12_20) (fun _ h9 => h9) rfl dX12_restore_95 ?_
            refine lv_iload_n hx hb dX12_restore_98 rfl (lv_at hl 2 rfl) ?_
            refine lv_aload_n hx hb dX12_restore_99 rfl (lv_at hl 0 rfl) ?_
            refine va_get (D := D) (ci := 11) (v := .ref q8) (C := RX12) (T := TX12) (N := 23) hx hb ht in_X12 hown hK.1 hP 0 rfl rfl 21 (by decide) (ht _ mF_X12_57) (fun _ h9 => h9) rfl dX12_restore_100 ?_
            refine lv_iload_n hx hb dX12_restore_103 rfl (lv_at hl 1 rfl) ?_
            refine lv_bipush (v := (21 : Int32)) hx hb dX12_restore_104 (by decide) ?_
            refine lv_iadd hx hb dX12_restore_106 ?_
            refine lv_iload_n hx hb dX12_restore_107 rfl (lv_at hl 2 rfl) ?_
            refine lv_iadd hx hb dX12_restore_108 ?_
            obtain ⟨hin, hw⟩ := hw
            refine va_iald (D := D) hx hb hK.1 hP 8 0 rfl rfl hin dX12_restore_109 ?_
            obtain ⟨hin, hw⟩ := hw
            refine va_iast (D := D) hx hb hK.1 hP hD hS 4 0 rfl rfl hin dX12_restore_110 (fun H locs hP hD hS => ?_)
            have hP : va_P D vwCl [(q0, .inr (11, [.int zdogs, .ref q1, .ref q2, .ref q3, .ref q4, .ref q5, .int zhungry, .int zcounts, .ref q6, .int zasked, .ref q7, u0, u1, u2, u3, u4, u5, u6, u7, u8, u9, .ref q8, .ref q9])), (q1, .inl (ci, 7, .inl (upd zhalves_14 (x3_13).toNatClampNeg (zimage ((((72 : Int32) * a1) + x3_13)).toNatClampNeg)))), (q2, .inl (ci, 7, .inl (upd zlikes_15 (x3_13).toNatClampNeg (zimage (((((72 : Int32) * a1) + (7 : Int32)) + x3_13)).toNatClampNeg)))), (q3, .inl (cz, 7, .inl (upd zisTold_16 (x3_13).toNatClampNeg (vp_nar .boolean t_19)))), (q4, .inl (ci, 7, .inl (upd zfears_17 (x3_13).toNatClampNeg (zimage (((((72 : Int32) * a1) + (21 : Int32)) + x3_13)).toNatClampNeg)))), (q5, .inl (ci, 7, .inl zheirs_18)), (q6, .inl (ci, 18, .inl zcount)), (q7, .inl (ci, 15, .inl zquestion)), (q8, .inl (ci, 144, .inl zimage)), (q9, .inl (cz, 2, .inl zisKept))] H := hP
            have hD : va_D A [(q0, .inr (11, [.int zdogs, .ref q1, .ref q2, .ref q3, .ref q4, .ref q5, .int zhungry, .int zcounts, .ref q6, .int zasked, .ref q7, u0, u1, u2, u3, u4, u5, u6, u7, u8, u9, .ref q8, .ref q9])), (q1, .inl (ci, 7, .inl (upd zhalves_14 (x3_13).toNatClampNeg (zimage ((((72 : Int32) * a1) + x3_13)).toNatClampNeg)))), (q2, .inl (ci, 7, .inl (upd zlikes_15 (x3_13).toNatClampNeg (zimage (((((72 : Int32) * a1) + (7 : Int32)) + x3_13)).toNatClampNeg)))), (q3, .inl (cz, 7, .inl (upd zisTold_16 (x3_13).toNatClampNeg (vp_nar .boolean t_19)))), (q4, .inl (ci, 7, .inl (upd zfears_17 (x3_13).toNatClampNeg (zimage (((((72 : Int32) * a1) + (21 : Int32)) + x3_13)).toNatClampNeg)))), (q5, .inl (ci, 7, .inl zheirs_18)), (q6, .inl (ci, 18, .inl zcount)), (q7, .inl (ci, 15, .inl zquestion)), (q8, .inl (ci, 144, .inl zimage)), (q9, .inl (cz, 2, .inl zisKept))] := hD
            refine lv_aload_n hx hb dX12_restore_111 rfl (lv_at hl 0 rfl) ?_
            refine va_get (D := D) (ci := 11) (v := .ref q5) (C := RX12) (T := TX12) (N := 23) hx hb ht in_X12 hown hK.1 hP 0 rfl rfl 5 (by decide) (ht _ mF_X12_23) (fun _ h9 => h9) rfl dX12_restore_112 ?_
            refine lv_iload_n hx hb dX12_restore_115 rfl (lv_at hl 2 rfl) ?_
            refine lv_aload_n hx hb dX12_restore_116 rfl (lv_at hl 0 rfl) ?_
            refine va_get (D := D) (ci := 11) (v := .ref q8) (C := RX12) (T := TX12) (N := 23) hx hb ht in_X12 hown hK.1 hP 0 rfl rfl 21 (by decide) (ht _ mF_X12_57) (fun _ h9 => h9) rfl dX12_restore_117 ?_
            refine lv_iload_n hx hb dX12_restore_120 rfl (lv_at hl 1 rfl) ?_
            refine lv_bipush (v := (28 : Int32)) hx hb dX12_restore_121 (by decide) ?_
            refine lv_iadd hx hb dX12_restore_123 ?_
            refine lv_iload_n hx hb dX12_restore_124 rfl (lv_at hl 2 rfl) ?_
            refine lv_iadd hx hb dX12_restore_125 ?_
            obtain ⟨hin, hw⟩ := hw
            refine va_iald (D := D) hx hb hK.1 hP 8 0 rfl rfl hin dX12_restore_126 ?_
            obtain ⟨hin, hw⟩ := hw
            refine va_iast (D := D) hx hb hK.1 hP hD hS 5 0 rfl rfl hin dX12_restore_127 (fun H locs hP hD hS => ?_)
            have hP : va_P D vwCl [(q0, .inr (11, [.int zdogs, .ref q1, .ref q2, .ref q3, .ref q4, .ref q5, .int zhungry, .int zcounts, .ref q6, .int zasked, .ref q7, u0, u1, u2, u3, u4, u5, u6, u7, u8, u9, .ref q8, .ref q9])), (q1, .inl (ci, 7, .inl (upd zhalves_14 (x3_13).toNatClampNeg (zimage ((((72 : Int32) * a1) + x3_13)).toNatClampNeg)))), (q2, .inl (ci, 7, .inl (upd zlikes_15 (x3_13).toNatClampNeg (zimage (((((72 : Int32) * a1) + (7 : Int32)) + x3_13)).toNatClampNeg)))), (q3, .inl (cz, 7, .inl (upd zisTold_16 (x3_13).toNatClampNeg (vp_nar .boolean t_19)))), (q4, .inl (ci, 7, .inl (upd zfears_17 (x3_13).toNatClampNeg (zimage (((((72 : Int32) * a1) + (21 : Int32)) + x3_13)).toNatClampNeg)))), (q5, .inl (ci, 7, .inl (upd zheirs_18 (x3_13).toNatClampNeg (zimage (((((72 : Int32) * a1) + (28 : Int32)) + x3_13)).toNatClampNeg)))), (q6, .inl (ci, 18, .inl zcount)), (q7, .inl (ci, 15, .inl zquestion)), (q8, .inl (ci, 144, .inl zimage)), (q9, .inl (cz, 2, .inl zisKept))] H := hP
            have hD : va_D A [(q0, .inr (11, [.int zdogs, .ref q1, .ref q2, .ref q3, .ref q4, .ref q5, .int zhungry, .int zcounts, .ref q6, .int zasked, .ref q7, u0, u1, u2, u3, u4, u5, u6, u7, u8, u9, .ref q8, .ref q9])), (q1, .inl (ci, 7, .inl (upd zhalves_14 (x3_13).toNatClampNeg (zimage ((((72 : Int32) * a1) + x3_13)).toNatClampNeg)))), (q2, .inl (ci, 7, .inl (upd zlikes_15 (x3_13).toNatClampNeg (zimage (((((72 : Int32) * a1) + (7 : Int32)) + x3_13)).toNatClampNeg)))), (q3, .inl (cz, 7, .inl (upd zisTold_16 (x3_13).toNatClampNeg (vp_nar .boolean t_19)))), (q4, .inl (ci, 7, .inl (upd zfears_17 (x3_13).toNatClampNeg (zimage (((((72 : Int32) * a1) + (21 : Int32)) + x3_13)).toNatClampNeg)))), (q5, .inl (ci, 7, .inl (upd zheirs_18 (x3_13).toNatClampNeg (zimage (((((72 : Int32) * a1) + (28 : Int32)) + x3_13)).toNatClampNeg)))), (q6, .inl (ci, 18, .inl zcount)), (q7, .inl (ci, 15, .inl zquestion)), (q8, .inl (ci, 144, .inl zimage)), (q9, .inl (cz, 2, .inl zisKept))] := hD
            refine lv_iinc (v := (x3_13 + (1 : Int32))) (lv' := [(3, .int (x3_13 + (1 : Int32))), (0, .ref q0), (2, .int ((72 : Int32) * a1))]) hx hb dX12_restore_128 hl (k := 2) rfl rfl (by decide) rfl (fun ls hl => ?_)
            refine lv_goto (tgt := 31) hx hb dX12_restore_131 (by decide) ?_
            exact hG31 _ _ _ _ _ _ H locs ls hw hP hS (lv_sub hl [1, 2, 0] rfl)
          · intro J93 hJ93 hw
            refine lv_icmp_ne (tgt := 92) hx hb dX12_restore_85 (by decide) (fun hc => ?_) (fun hc => ?_)
            · have hw := hw.1 hc
              refine lv_iconst (v := (0 : Int32)) hx hb dX12_restore_92 (by decide) ?_
              exact hJ93 _ H locs ls hw hP hS (lv_sub hl [0, 1, 2] rfl)
            · have hw := hw.2 hc
              refine lv_iconst (v := (1 : Int32)) hx hb dX12_restore_88 (by decide) ?_
              refine lv_goto (tgt := 93) hx hb dX12_restore_89 (by decide) ?_
              exact hJ93 _ H locs ls hw hP hS (lv_sub hl [0, 1, 2] rfl)
    · have hw := hw.2 hc
      refine lv_bipush (v := (-3 : Int32)) hx hb dX12_restore_21 (by decide) ?_
      exact hret _ _ H locs _ _ ⟨_, _, _, _, _, _, _, _, _, _, _, rfl, hw⟩ hP hS dX12_restore_23
  · have hw := hw.2 hc
    refine lv_bipush (v := (-2 : Int32)) hx hb dX12_restore_9 (by decide) ?_
    exact hret _ _ H locs _ _ ⟨_, _, _, _, _, _, _, _, _, _, _, rfl, hw⟩ hP hS dX12_restore_11
