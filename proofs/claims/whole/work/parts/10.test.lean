def wp_X9_has (zdogs : Int32) (a1 : Int32) (post : Int32 → Prop) : Prop :=
  ((a1 < 0 → post (0 : Int32) ) ∧ (¬ a1 < 0 → ((zdogs ≤ a1 → post (0 : Int32) ) ∧ (¬ zdogs ≤ a1 → post (1 : Int32) ))))
set_option maxHeartbeats 4000000 in
set_option maxRecDepth 100000 in
theorem c_X9_has (l : Launch) (D : va_G) (ci cz : ClassId) (tr : List (ClassId × FieldType)) (q0 : Nat) (sz : Nat) (u0 u1 u2 u3 u4 : Value) (zdogs : Int32) (a1 : Int32) (post : Int32 → Prop) (hw : wp_X9_has zdogs a1 post) : gM l yX9_has cX9_has 2 (some .boolean) 0 0 D ci cz tr [(q0, .inr (8, [.int zdogs, u0, u1, u2, u3, u4]))] sz [.ref q0, .int a1] (gQi D [(q0, .inr (8, [.int zdogs, u0, u1, u2, u3, u4]))] sz (fun (r : Int32) w => w = [(q0, .inr (8, [.int zdogs, u0, u1, u2, u3, u4]))] ∧ post r )) := by
  refine gmet_z RX9 (by decide +kernel) rfl (Nat.le_of_ble_eq_true rfl) ?_
  intro p e s m args below meth c A R Q C hfr hlc hP hD hret ls hl
  obtain ⟨hx, hb, hml, hown, ht, hK, hZ, hA⟩ := C
  have hl : lv_has ls 2 [(0, .ref q0), (1, .int a1)] := hl
  unfold wp_X9_has at hw
  refine g_in (fun H locs => W p l e R s m args below meth c H locs 0 0 Q (F0 m 0 ls [])) (fun H locs hS0 hP => ?_) hP (va_S.rf (A := A) (H0 := s.heap))
  have hS : va_S A s.heap H locs := hS0
  clear hS0
  refine lv_iload_n hx hb dX9_has_0 rfl (lv_at hl 1 rfl) ?_
  refine lv_if_lt (tgt := 16) hx hb dX9_has_1 (by decide) (fun hc => ?_) (fun hc => ?_)
  · have hw := hw.1 hc
    refine lv_iconst (v := (0 : Int32)) hx hb dX9_has_16 (by decide) ?_
    exact hret _ _ H locs _ _ (by decide) ⟨rfl, hw⟩ hP hS dX9_has_17
  · have hw := hw.2 hc
    refine lv_iload_n hx hb dX9_has_4 rfl (lv_at hl 1 rfl) ?_
    refine lv_aload_n hx hb dX9_has_5 rfl (lv_at hl 0 rfl) ?_
    refine va_get (D := D) (ci := 8) (v := .int zdogs) (C := RX9) (T := TX9) (N := 6) hx hb ht in_X9 hown hK.1 hP 0 rfl rfl 0 (by decide) (ht _ mF_X9_24) (fun _ h9 => h9) rfl dX9_has_6 ?_
    refine lv_icmp_ge (tgt := 16) hx hb dX9_has_9 (by decide) (fun hc => ?_) (fun hc => ?_)
    · have hw := hw.1 hc
      refine lv_iconst (v := (0 : Int32)) hx hb dX9_has_16 (by decide) ?_
      exact hret _ _ H locs _ _ (by decide) ⟨rfl, hw⟩ hP hS dX9_has_17
    · have hw := hw.2 hc
      refine lv_iconst (v := (1 : Int32)) hx hb dX9_has_12 (by decide) ?_
      refine lv_goto (tgt := 17) hx hb dX9_has_13 (by decide) ?_
      exact hret _ _ H locs _ _ (by decide) ⟨rfl, hw⟩ hP hS dX9_has_17

def wp_X9_isDead (zhalves : Nat → Int32) (a1 : Int32) (post : Int32 → Prop) : Prop :=
  (vp_in a1 7 ∧ ((¬ (zhalves (a1).toNatClampNeg) = 0 → post (0 : Int32) ) ∧ ((zhalves (a1).toNatClampNeg) = 0 → post (1 : Int32) )))
set_option maxHeartbeats 4000000 in
set_option maxRecDepth 100000 in
theorem c_X9_isDead (l : Launch) (D : va_G) (ci cz : ClassId) (tr : List (ClassId × FieldType)) (q0 q1 : Nat) (sz : Nat) (u0 u1 u2 u3 u4 : Value) (zhalves : Nat → Int32) (a1 : Int32) (post : Int32 → Prop) (hw : wp_X9_isDead zhalves a1 post) : gM l yX9_isDead cX9_isDead 2 (some .boolean) 0 0 D ci cz tr [(q0, .inr (8, [u0, u1, .ref q1, u2, u3, u4])), (q1, .inl (ci, 7, .inl zhalves))] sz [.ref q0, .int a1] (gQi D [(q0, .inr (8, [u0, u1, .ref q1, u2, u3, u4])), (q1, .inl (ci, 7, .inl zhalves))] sz (fun (r : Int32) w => w = [(q0, .inr (8, [u0, u1, .ref q1, u2, u3, u4])), (q1, .inl (ci, 7, .inl zhalves))] ∧ post r )) := by
  refine gmet_z RX9 (by decide +kernel) rfl (Nat.le_of_ble_eq_true rfl) ?_
  intro p e s m args below meth c A R Q C hfr hlc hP hD hret ls hl
  obtain ⟨hx, hb, hml, hown, ht, hK, hZ, hA⟩ := C
  have hl : lv_has ls 2 [(0, .ref q0), (1, .int a1)] := hl
  unfold wp_X9_isDead at hw
  refine g_in (fun H locs => W p l e R s m args below meth c H locs 0 0 Q (F0 m 0 ls [])) (fun H locs hS0 hP => ?_) hP (va_S.rf (A := A) (H0 := s.heap))
  have hS : va_S A s.heap H locs := hS0
  clear hS0
  refine lv_aload_n hx hb dX9_isDead_0 rfl (lv_at hl 0 rfl) ?_
  refine va_get (D := D) (ci := 8) (v := .ref q1) (C := RX9) (T := TX9) (N := 6) hx hb ht in_X9 hown hK.1 hP 0 rfl rfl 2 (by decide) (ht _ mF_X9_9) (fun _ h9 => h9) rfl dX9_isDead_1 ?_
  refine lv_iload_n hx hb dX9_isDead_4 rfl (lv_at hl 1 rfl) ?_
  obtain ⟨hin, hw⟩ := hw
  refine va_iald (D := D) hx hb hK.1 hP 1 0 rfl rfl hin dX9_isDead_5 ?_
  refine lv_if_ne (tgt := 13) hx hb dX9_isDead_6 (by decide) (fun hc => ?_) (fun hc => ?_)
  · have hw := hw.1 hc
    refine lv_iconst (v := (0 : Int32)) hx hb dX9_isDead_13 (by decide) ?_
    exact hret _ _ H locs _ _ (by decide) ⟨rfl, hw⟩ hP hS dX9_isDead_14
  · have hw := hw.2 hc
    refine lv_iconst (v := (1 : Int32)) hx hb dX9_isDead_9 (by decide) ?_
    refine lv_goto (tgt := 14) hx hb dX9_isDead_10 (by decide) ?_
    exact hret _ _ H locs _ _ (by decide) ⟨rfl, hw⟩ hP hS dX9_isDead_14

def wp_X9_living (zdogs : Int32) (zhalves : Nat → Int32)  (post : Int32 → Prop) : Prop :=
  lo (fun _ _ => False) (fun (G4 : Int32 → Int32 → Prop) (x1_1 : Int32) (x2_2 : Int32) => ((zdogs ≤ x2_2 → post x1_1 ) ∧ (¬ zdogs ≤ x2_2 → wp_X9_isDead zhalves x2_2 (fun (r_3 : Int32) => ((¬ r_3 = 0 → G4 x1_1 (x2_2 + (1 : Int32))) ∧ (r_3 = 0 → G4 (x1_1 ||| ((1 : Int32) <<< (x2_2 &&& 31))) (x2_2 + (1 : Int32)))))))) (fun G4 => G4 (0 : Int32) (0 : Int32))
set_option maxHeartbeats 4000000 in
set_option maxRecDepth 100000 in
theorem c_X9_living (l : Launch) (D : va_G) (ci cz : ClassId) (tr : List (ClassId × FieldType)) (q0 q1 : Nat) (sz : Nat) (u0 u1 u2 u3 : Value) (zdogs : Int32) (zhalves : Nat → Int32)  (post : Int32 → Prop) (hw : wp_X9_living zdogs zhalves post) : gM l yX9_living cX9_living 3 (some .int) 1 21 D ci cz tr [(q0, .inr (8, [.int zdogs, u0, .ref q1, u1, u2, u3])), (q1, .inl (ci, 7, .inl zhalves))] sz [.ref q0] (gQi D [(q0, .inr (8, [.int zdogs, u0, .ref q1, u1, u2, u3])), (q1, .inl (ci, 7, .inl zhalves))] sz (fun (r : Int32) w => w = [(q0, .inr (8, [.int zdogs, u0, .ref q1, u1, u2, u3])), (q1, .inl (ci, 7, .inl zhalves))] ∧ post r )) := by
  refine gmet_i RX9 (by decide +kernel) rfl (Nat.le_of_ble_eq_true rfl) ?_
  intro p e s m args below meth c A R Q C hfr hlc hP hD hret ls hl
  obtain ⟨hx, hb, hml, hown, ht, hK, hZ, hA⟩ := C
  have hl : lv_has ls 3 [(0, .ref q0)] := hl
  unfold wp_X9_living at hw
  refine g_in (fun H locs => W p l e R s m args below meth c H locs 0 0 Q (F0 m 0 ls [])) (fun H locs hS0 hP => ?_) hP (va_S.rf (A := A) (H0 := s.heap))
  have hS : va_S A s.heap H locs := hS0
  clear hS0
  refine lv_iconst (v := (0 : Int32)) hx hb dX9_living_0 (by decide) ?_
  refine lv_istore_n (lv' := [(1, .int (0 : Int32)), (0, .ref q0)]) hx hb dX9_living_1 rfl hl (by decide) rfl (fun ls hl => ?_)
  refine lv_iconst (v := (0 : Int32)) hx hb dX9_living_2 (by decide) ?_
  refine lv_istore_n (lv' := [(2, .int (0 : Int32)), (1, .int (0 : Int32)), (0, .ref q0)]) hx hb dX9_living_3 rfl hl (by decide) rfl (fun ls hl => ?_)
  refine lo_walk hw (fun G4 => ∀ (x1_1 : Int32) (x2_2 : Int32) (H : Heap) (locs : List Loc) (ls : Array Slot), G4 x1_1 x2_2 → va_P D vwCl [(q0, .inr (8, [.int zdogs, u0, .ref q1, u1, u2, u3])), (q1, .inl (ci, 7, .inl zhalves))] H → va_S A s.heap H locs → lv_has ls 3 [(0, .ref q0), (1, .int x1_1), (2, .int x2_2)] → W p l e R s m args below meth c H locs 0 0 Q (F0 m 4 ls [])) (fun _ _ _ _ _ hw _ _ _ => False.elim hw) (fun G4 hG4 x1_1 x2_2 H locs ls hw hP hS hl => ?_) (fun G4 hG4 hw => hG4 _ _ H locs ls hw hP hS (lv_sub hl [2, 1, 0] rfl))
  have hD : va_D A [(q0, .inr (8, [.int zdogs, u0, .ref q1, u1, u2, u3])), (q1, .inl (ci, 7, .inl zhalves))] := gD_re hD rfl
  refine lv_iload_n hx hb dX9_living_4 rfl (lv_at hl 2 rfl) ?_
  refine lv_aload_n hx hb dX9_living_5 rfl (lv_at hl 0 rfl) ?_
  refine va_get (D := D) (ci := 8) (v := .int zdogs) (C := RX9) (T := TX9) (N := 6) hx hb ht in_X9 hown hK.1 hP 0 rfl rfl 0 (by decide) (ht _ mF_X9_24) (fun _ h9 => h9) rfl dX9_living_6 ?_
  refine lv_icmp_ge (tgt := 32) hx hb dX9_living_9 (by decide) (fun hc => ?_) (fun hc => ?_)
  · have hw := hw.1 hc
    refine lv_iload_n hx hb dX9_living_32 rfl (lv_at hl 1 rfl) ?_
    exact hret _ _ H locs _ _ ⟨rfl, hw⟩ hP hS dX9_living_33
  · have hw := hw.2 hc
    refine lv_aload_n hx hb dX9_living_12 rfl (lv_at hl 0 rfl) ?_
    refine lv_iload_n hx hb dX9_living_13 rfl (lv_at hl 2 rfl) ?_
    refine gcalli (va_runV (As := [.int x2_2]) (rest := []) ⟨hx, hb, hml, hown, ht⟩ (c_X9_isDead l D ci cz tr q0 q1 H.size (.int zdogs) u0 u1 u2 u3 zhalves x2_2 _ hw) (cwV 1 ht (gi_V mM_X9_37 mI_X9_isDead mS_X9_isDead mN_X9 mC_X9_isDead) rfl rfl rfl (by decide +kernel) ⟨Nat.le_trans (Nat.le_of_ble_eq_true rfl) hfr, Nat.le_trans (Nat.le_of_ble_eq_true rfl) hlc⟩) (gpreV (wc := [(q0, .inr (8, [.int zdogs, u0, .ref q1, u1, u2, u3])), (q1, .inl (ci, 7, .inl zhalves))]) (k := 8) (q0 := 0) hK hZ hP hD hS hA [0, 1] rfl rfl rfl rfl rfl) rfl rfl hl.1 rfl (lv_room (Nat.le_of_ble_eq_true rfl)) dX9_living_14 ⟨Nat.zero_le _, Nat.zero_le _⟩) hP hD hS hA [0, 1] rfl (fun r9 w9 h9 => by obtain ⟨rfl, _⟩ := h9; rfl) (fun r_3 w9 H locs hw hP hS => ?_)
    obtain ⟨rfl, hw⟩ := hw
    have hP : va_P D vwCl [(q0, .inr (8, [.int zdogs, u0, .ref q1, u1, u2, u3])), (q1, .inl (ci, 7, .inl zhalves))] H := hP
    have hD : va_D A [(q0, .inr (8, [.int zdogs, u0, .ref q1, u1, u2, u3])), (q1, .inl (ci, 7, .inl zhalves))] := gD_re hD rfl
    refine lv_if_ne (tgt := 26) hx hb dX9_living_17 (by decide) (fun hc => ?_) (fun hc => ?_)
    · have hw := hw.1 hc
      refine lv_iinc (v := (x2_2 + (1 : Int32))) (lv' := [(2, .int (x2_2 + (1 : Int32))), (0, .ref q0), (1, .int x1_1)]) hx hb dX9_living_26 hl (k := 2) rfl rfl (by decide) rfl (fun ls hl => ?_)
      refine lv_goto (tgt := 4) hx hb dX9_living_29 (by decide) ?_
      exact hG4 _ _ H locs ls hw hP hS (lv_sub hl [1, 2, 0] rfl)
    · have hw := hw.2 hc
      refine lv_iload_n hx hb dX9_living_20 rfl (lv_at hl 1 rfl) ?_
      refine lv_iconst (v := (1 : Int32)) hx hb dX9_living_21 (by decide) ?_
      refine lv_iload_n hx hb dX9_living_22 rfl (lv_at hl 2 rfl) ?_
      refine lv_ishl hx hb dX9_living_23 ?_
      refine lv_ior hx hb dX9_living_24 ?_
      refine lv_istore_n (lv' := [(1, .int (x1_1 ||| ((1 : Int32) <<< (x2_2 &&& 31)))), (0, .ref q0), (2, .int x2_2)]) hx hb dX9_living_25 rfl hl (by decide) rfl (fun ls hl => ?_)
      refine lv_iinc (v := (x2_2 + (1 : Int32))) (lv' := [(2, .int (x2_2 + (1 : Int32))), (1, .int (x1_1 ||| ((1 : Int32) <<< (x2_2 &&& 31)))), (0, .ref q0)]) hx hb dX9_living_26 hl (k := 2) rfl rfl (by decide) rfl (fun ls hl => ?_)
      refine lv_goto (tgt := 4) hx hb dX9_living_29 (by decide) ?_
      exact hG4 _ _ H locs ls hw hP hS (lv_sub hl [2, 1, 0] rfl)

def wp_X0_winner (zleft : Int32) (zright : Int32)  (post : Int32 → Prop) : Prop :=
  ((¬ zleft = zright → ((zleft ≤ zright → post (1 : Int32) ) ∧ (¬ zleft ≤ zright → post (0 : Int32) ))) ∧ (zleft = zright → post (2 : Int32) ))
set_option maxHeartbeats 4000000 in
set_option maxRecDepth 100000 in
theorem c_X0_winner (l : Launch) (D : va_G) (ci cz : ClassId) (tr : List (ClassId × FieldType)) (q0 : Nat) (sz : Nat) (u0 u1 : Value) (zleft : Int32) (zright : Int32)  (post : Int32 → Prop) (hw : wp_X0_winner zleft zright post) : gM l yX0_winner cX0_winner 1 (some .int) 0 0 D ci cz tr [(q0, .inr (0, [.int zleft, .int zright, u0, u1]))] sz [.ref q0] (gQi D [(q0, .inr (0, [.int zleft, .int zright, u0, u1]))] sz (fun (r : Int32) w => w = [(q0, .inr (0, [.int zleft, .int zright, u0, u1]))] ∧ post r )) := by
  refine gmet_i RX0 (by decide +kernel) rfl (Nat.le_of_ble_eq_true rfl) ?_
  intro p e s m args below meth c A R Q C hfr hlc hP hD hret ls hl
  obtain ⟨hx, hb, hml, hown, ht, hK, hZ, hA⟩ := C
  have hl : lv_has ls 1 [(0, .ref q0)] := hl
  unfold wp_X0_winner at hw
  refine g_in (fun H locs => W p l e R s m args below meth c H locs 0 0 Q (F0 m 0 ls [])) (fun H locs hS0 hP => ?_) hP (va_S.rf (A := A) (H0 := s.heap))
  have hS : va_S A s.heap H locs := hS0
  clear hS0
  refine lv_aload_n hx hb dX0_winner_0 rfl (lv_at hl 0 rfl) ?_
  refine va_get (D := D) (ci := 0) (v := .int zleft) (C := RX0) (T := TX0) (N := 4) hx hb ht in_X0 hown hK.1 hP 0 rfl rfl 0 (by decide) (ht _ mF_X0_9) (fun _ h9 => h9) rfl dX0_winner_1 ?_
  refine lv_aload_n hx hb dX0_winner_4 rfl (lv_at hl 0 rfl) ?_
  refine va_get (D := D) (ci := 0) (v := .int zright) (C := RX0) (T := TX0) (N := 4) hx hb ht in_X0 hown hK.1 hP 0 rfl rfl 1 (by decide) (ht _ mF_X0_15) (fun _ h9 => h9) rfl dX0_winner_5 ?_
  refine lv_icmp_ne (tgt := 13) hx hb dX0_winner_8 (by decide) (fun hc => ?_) (fun hc => ?_)
  · have hw := hw.1 hc
    refine lv_aload_n hx hb dX0_winner_13 rfl (lv_at hl 0 rfl) ?_
    refine va_get (D := D) (ci := 0) (v := .int zleft) (C := RX0) (T := TX0) (N := 4) hx hb ht in_X0 hown hK.1 hP 0 rfl rfl 0 (by decide) (ht _ mF_X0_9) (fun _ h9 => h9) rfl dX0_winner_14 ?_
    refine lv_aload_n hx hb dX0_winner_17 rfl (lv_at hl 0 rfl) ?_
    refine va_get (D := D) (ci := 0) (v := .int zright) (C := RX0) (T := TX0) (N := 4) hx hb ht in_X0 hown hK.1 hP 0 rfl rfl 1 (by decide) (ht _ mF_X0_15) (fun _ h9 => h9) rfl dX0_winner_18 ?_
    refine lv_icmp_le (tgt := 28) hx hb dX0_winner_21 (by decide) (fun hc => ?_) (fun hc => ?_)
    · have hw := hw.1 hc
      refine lv_iconst (v := (1 : Int32)) hx hb dX0_winner_28 (by decide) ?_
      exact hret _ _ H locs _ _ ⟨rfl, hw⟩ hP hS dX0_winner_29
    · have hw := hw.2 hc
      refine lv_iconst (v := (0 : Int32)) hx hb dX0_winner_24 (by decide) ?_
      refine lv_goto (tgt := 29) hx hb dX0_winner_25 (by decide) ?_
      exact hret _ _ H locs _ _ ⟨rfl, hw⟩ hP hS dX0_winner_29
  · have hw := hw.2 hc
    refine lv_iconst (v := (2 : Int32)) hx hb dX0_winner_11 (by decide) ?_
    exact hret _ _ H locs _ _ ⟨rfl, hw⟩ hP hS dX0_winner_12
