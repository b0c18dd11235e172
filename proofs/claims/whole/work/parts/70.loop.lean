set_option maxHeartbeats 4000000 in
set_option maxRecDepth 100000 in
/-- the loop of the law -/
theorem law_loop {p : Program} {e : Env} {s : State} {m : MethodId} {below : List Frame} {meth : Method} {c : Code} (l : Launch) {b L : Nat} {xs : Nat → Int32} {D : va_G} {ci cz cr : ClassId} {aq : Nat → Nat} (hC : lC p s m c b L xs D ci cz cr aq) (hr : meth.sig.returnType = ret) (hlocks : meth.locks = false) (hL : L ≤ 2048) : ∀ (n i : Nat), L + 5 - i < n → i ≤ L + 4 → ∀ (H : Heap) (locs : List Loc) (ls : Array Slot), LI D ci cz cr aq H → va_S (fun q : Nat => s.heap.size ≤ q) s.heap H locs → lv_has ls 4 [(0, .ref b), (1, .ref (aq 0)), (2, .ref (aq 77)), (3, .int (nI i))] → W p l e room_1 s m #[Value.ref b] below meth c H locs 600000 7302250 (lw_Z below #[Value.ref b] s) (F0 m 18 ls []) := by
  intro n
  induction n with
  | zero => intro i h; exact absurd h (Nat.not_lt_zero _)
  | succ n ih =>
    intro i hn hi4 H locs ls hI hS hl
    obtain ⟨hx, hb, hml, hown, ht, hK, hZ, hX, hbl, hDA⟩ := id hC
    have hbA : ¬ (fun q : Nat => s.heap.size ≤ q) b := Nat.not_le.mpr hbl
    refine lv_iload_n hx hb dL_law_18 rfl (lv_at hl 3 rfl) ?_
    refine lv_aload_n hx hb dL_law_19 rfl (lv_at hl 0 rfl) ?_
    refine va_slen hx hb hX hbl hbA hS dL_law_20 ?_
    refine lv_iconst (v := (4 : Int32)) hx hb dL_law_21 (by decide) ?_
    refine lv_isub hx hb dL_law_22 ?_
    have h3 : (Int32.ofNat L - 4).toInt = (L : Int) - 4 := pk_sub_toInt (a := L) (b := 4) (by omega) (by omega)
    refine lv_icmp_gt (tgt := 904) hx hb dL_law_23 (by decide) (fun hc => ?_) (fun hc => ?_)
    · refine lv_iconst (v := (1 : Int32)) hx hb dL_law_904 (by decide) ?_
      refine va_forget hS.2.2 ?_
      exact lw_ret hx hb hr hlocks dL_law_905
    · have h4 : i + 4 ≤ L := by
        rw [i_lt, h3, nI_toInt (by omega)] at hc
        omega
      have hin0 : vp_in (nI i) L := vp_in_nI (by omega) (by omega)
      have hin1 : vp_in (nI i + (1 : Int32)) L := by rw [show nI i + (1 : Int32) = nI (i + 1) from nI_add _ 1]; exact vp_in_nI (by omega) (by omega)
      have hin2 : vp_in (nI i + (2 : Int32)) L := by rw [show nI i + (2 : Int32) = nI (i + 2) from nI_add _ 2]; exact vp_in_nI (by omega) (by omega)
      have hin3 : vp_in (nI i + (3 : Int32)) L := by rw [show nI i + (3 : Int32) = nI (i + 3) from nI_add _ 3]; exact vp_in_nI (by omega) (by omega)
      have again : ∀ (H : Heap) (locs : List Loc) (ls : Array Slot), LI D ci cz cr aq H → va_S (fun q : Nat => s.heap.size ≤ q) s.heap H locs → lv_has ls 4 [(0, .ref b), (1, .ref (aq 0)), (2, .ref (aq 77)), (3, .int (nI i))] → W p l e room_1 s m #[Value.ref b] below meth c H locs 600000 7302250 (lw_Z below #[Value.ref b] s) (F0 m 898 ls []) := by
        intro H locs ls hI hS hl
        refine lv_iinc (v := nI i + (4 : Int32)) (lv' := [(3, .int (nI i + (4 : Int32))), (0, .ref b), (1, .ref (aq 0)), (2, .ref (aq 77))]) hx hb dL_law_898 hl (k := 3) rfl rfl (by decide) rfl (fun ls hl => ?_)
        refine lv_goto (tgt := 18) hx hb dL_law_901 (by decide) ?_
        rw [show nI i + (4 : Int32) = nI (i + 4) from nI_add _ 4] at hl
        exact ih (i + 4) (by omega) (by omega) H locs ls hI hS (lv_sub hl [1, 2, 3, 0] rfl)
      refine lv_aload_n hx hb dL_law_26 rfl (lv_at hl 0 rfl) ?_
      refine lv_iload_n hx hb dL_law_27 rfl (lv_at hl 3 rfl) ?_
      refine va_sld hx hb hX hbl hbA hS hin0 dL_law_28 ?_
      refine lv_bipush (v := (31 : Int32)) hx hb dL_law_29 (by decide) ?_
      refine lv_iand hx hb dL_law_31 ?_
      refine lv_topi (fun v ev => ?_)
      by_cases hk0 : v = (0 : Int32)
      · refine lv_tableIn (tgt := 156) hx hb dL_law_32 (by rw [hk0]; decide) (by rw [hk0]; decide) (by rw [hk0]; rfl) (by decide) ?_
        exact k_say l hC hin1 hin2 hin3 hI hS hl again
      by_cases hk1 : v = (1 : Int32)
      · refine lv_tableIn (tgt := 179) hx hb dL_law_32 (by rw [hk1]; decide) (by rw [hk1]; decide) (by rw [hk1]; rfl) (by decide) ?_
        exact k_wipe l hC hin1 hin2 hin3 hI hS hl again
      by_cases hk2 : v = (2 : Int32)
      · refine lv_tableIn (tgt := 192) hx hb dL_law_32 (by rw [hk2]; decide) (by rw [hk2]; decide) (by rw [hk2]; rfl) (by decide) ?_
        exact k_fault l hC hin1 hin2 hin3 hI hS hl again
      by_cases hk3 : v = (3 : Int32)
      · refine lv_tableIn (tgt := 205) hx hb dL_law_32 (by rw [hk3]; decide) (by rw [hk3]; decide) (by rw [hk3]; rfl) (by decide) ?_
        exact k_roll l hC hin1 hin2 hin3 hI hS hl again
      by_cases hk4 : v = (4 : Int32)
      · refine lv_tableIn (tgt := 218) hx hb dL_law_32 (by rw [hk4]; decide) (by rw [hk4]; decide) (by rw [hk4]; rfl) (by decide) ?_
        exact k_dog l hC hin1 hin2 hin3 hI hS hl again
      by_cases hk5 : v = (5 : Int32)
      · refine lv_tableIn (tgt := 251) hx hb dL_law_32 (by rw [hk5]; decide) (by rw [hk5]; decide) (by rw [hk5]; rfl) (by decide) ?_
        exact k_heir l hC hin1 hin2 hin3 hI hS hl again
      by_cases hk6 : v = (6 : Int32)
      · refine lv_tableIn (tgt := 284) hx hb dL_law_32 (by rw [hk6]; decide) (by rw [hk6]; decide) (by rw [hk6]; rfl) (by decide) ?_
        exact k_dies l hC hin1 hin2 hin3 hI hS hl again
      by_cases hk7 : v = (7 : Int32)
      · refine lv_tableIn (tgt := 307) hx hb dL_law_32 (by rw [hk7]; decide) (by rw [hk7]; decide) (by rw [hk7]; rfl) (by decide) ?_
        exact k_goes l hC hin1 hin2 hin3 hI hS hl again
      by_cases hk8 : v = (8 : Int32)
      · refine lv_tableIn (tgt := 350) hx hb dL_law_32 (by rw [hk8]; decide) (by rw [hk8]; decide) (by rw [hk8]; rfl) (by decide) ?_
        exact k_vote l hC hin1 hin2 hin3 hI hS hl again
      by_cases hk9 : v = (9 : Int32)
      · refine lv_tableIn (tgt := 393) hx hb dL_law_32 (by rw [hk9]; decide) (by rw [hk9]; decide) (by rw [hk9]; rfl) (by decide) ?_
        exact k_stolen l hC hin1 hin2 hin3 hI hS hl again
      by_cases hk10 : v = (10 : Int32)
      · refine lv_tableIn (tgt := 426) hx hb dL_law_32 (by rw [hk10]; decide) (by rw [hk10]; decide) (by rw [hk10]; rfl) (by decide) ?_
        exact k_won l hC hin1 hin2 hin3 hI hS hl again
      by_cases hk11 : v = (11 : Int32)
      · refine lv_tableIn (tgt := 449) hx hb dL_law_32 (by rw [hk11]; decide) (by rw [hk11]; decide) (by rw [hk11]; rfl) (by decide) ?_
        exact k_rests l hC hin1 hin2 hin3 hI hS hl again
      by_cases hk12 : v = (12 : Int32)
      · refine lv_tableIn (tgt := 472) hx hb dL_law_32 (by rw [hk12]; decide) (by rw [hk12]; decide) (by rw [hk12]; rfl) (by decide) ?_
        exact k_letOut l hC hin1 hin2 hin3 hI hS hl again
      by_cases hk13 : v = (13 : Int32)
      · refine lv_tableIn (tgt := 515) hx hb dL_law_32 (by rw [hk13]; decide) (by rw [hk13]; decide) (by rw [hk13]; rfl) (by decide) ?_
        exact k_swings l hC hin1 hin2 hin3 hI hS hl again
      by_cases hk14 : v = (14 : Int32)
      · refine lv_tableIn (tgt := 538) hx hb dL_law_32 (by rw [hk14]; decide) (by rw [hk14]; decide) (by rw [hk14]; rfl) (by decide) ?_
        exact k_turn l hC hin1 hin2 hin3 hI hS hl again
      by_cases hk15 : v = (15 : Int32)
      · refine lv_tableIn (tgt := 572) hx hb dL_law_32 (by rw [hk15]; decide) (by rw [hk15]; decide) (by rw [hk15]; rfl) (by decide) ?_
        exact k_counted l hC hin1 hin2 hin3 hI hS hl again
      by_cases hk16 : v = (16 : Int32)
      · refine lv_tableIn (tgt := 615) hx hb dL_law_32 (by rw [hk16]; decide) (by rw [hk16]; decide) (by rw [hk16]; rfl) (by decide) ?_
        exact k_forget l hC hin1 hin2 hin3 hI hS hl again
      by_cases hk17 : v = (17 : Int32)
      · refine lv_tableIn (tgt := 628) hx hb dL_law_32 (by rw [hk17]; decide) (by rw [hk17]; decide) (by rw [hk17]; rfl) (by decide) ?_
        exact k_fits l hC hin1 hin2 hin3 hI hS hl again
      by_cases hk18 : v = (18 : Int32)
      · refine lv_tableIn (tgt := 651) hx hb dL_law_32 (by rw [hk18]; decide) (by rw [hk18]; decide) (by rw [hk18]; rfl) (by decide) ?_
        exact k_liking l hC hin1 hin2 hin3 hI hS hl again
      by_cases hk19 : v = (19 : Int32)
      · refine lv_tableIn (tgt := 684) hx hb dL_law_32 (by rw [hk19]; decide) (by rw [hk19]; decide) (by rw [hk19]; rfl) (by decide) ?_
        exact k_ask l hC hin1 hin2 hin3 hI hS hl again
      by_cases hk20 : v = (20 : Int32)
      · refine lv_tableIn (tgt := 727) hx hb dL_law_32 (by rw [hk20]; decide) (by rw [hk20]; decide) (by rw [hk20]; rfl) (by decide) ?_
        exact k_drop l hC hin1 hin2 hin3 hI hS hl again
      by_cases hk21 : v = (21 : Int32)
      · refine lv_tableIn (tgt := 740) hx hb dL_law_32 (by rw [hk21]; decide) (by rw [hk21]; decide) (by rw [hk21]; rfl) (by decide) ?_
        exact k_hunger l hC hin1 hin2 hin3 hI hS hl again
      by_cases hk22 : v = (22 : Int32)
      · refine lv_tableIn (tgt := 763) hx hb dL_law_32 (by rw [hk22]; decide) (by rw [hk22]; decide) (by rw [hk22]; rfl) (by decide) ?_
        exact k_best l hC hin1 hin2 hin3 hI hS hl again
      by_cases hk23 : v = (23 : Int32)
      · refine lv_tableIn (tgt := 786) hx hb dL_law_32 (by rw [hk23]; decide) (by rw [hk23]; decide) (by rw [hk23]; rfl) (by decide) ?_
        exact k_night l hC hin1 hin2 hin3 hI hS hl again
      by_cases hk24 : v = (24 : Int32)
      · refine lv_tableIn (tgt := 829) hx hb dL_law_32 (by rw [hk24]; decide) (by rw [hk24]; decide) (by rw [hk24]; rfl) (by decide) ?_
        exact k_image l hC hin1 hin2 hin3 hI hS hl again
      by_cases hk25 : v = (25 : Int32)
      · refine lv_tableIn (tgt := 852) hx hb dL_law_32 (by rw [hk25]; decide) (by rw [hk25]; decide) (by rw [hk25]; rfl) (by decide) ?_
        exact k_restore l hC hin1 hin2 hin3 hI hS hl again
      by_cases hk26 : v = (26 : Int32)
      · refine lv_tableIn (tgt := 875) hx hb dL_law_32 (by rw [hk26]; decide) (by rw [hk26]; decide) (by rw [hk26]; rfl) (by decide) ?_
        exact k_told l hC hin1 hin2 hin3 hI hS hl again
      have hout : v.toInt < 0 ∨ 26 < v.toInt := by
        have hn0 := lv_neT hk0 (by decide : (0 : Int32).toInt = 0)
        have hn1 := lv_neT hk1 (by decide : (1 : Int32).toInt = 1)
        have hn2 := lv_neT hk2 (by decide : (2 : Int32).toInt = 2)
        have hn3 := lv_neT hk3 (by decide : (3 : Int32).toInt = 3)
        have hn4 := lv_neT hk4 (by decide : (4 : Int32).toInt = 4)
        have hn5 := lv_neT hk5 (by decide : (5 : Int32).toInt = 5)
        have hn6 := lv_neT hk6 (by decide : (6 : Int32).toInt = 6)
        have hn7 := lv_neT hk7 (by decide : (7 : Int32).toInt = 7)
        have hn8 := lv_neT hk8 (by decide : (8 : Int32).toInt = 8)
        have hn9 := lv_neT hk9 (by decide : (9 : Int32).toInt = 9)
        have hn10 := lv_neT hk10 (by decide : (10 : Int32).toInt = 10)
        have hn11 := lv_neT hk11 (by decide : (11 : Int32).toInt = 11)
        have hn12 := lv_neT hk12 (by decide : (12 : Int32).toInt = 12)
        have hn13 := lv_neT hk13 (by decide : (13 : Int32).toInt = 13)
        have hn14 := lv_neT hk14 (by decide : (14 : Int32).toInt = 14)
        have hn15 := lv_neT hk15 (by decide : (15 : Int32).toInt = 15)
        have hn16 := lv_neT hk16 (by decide : (16 : Int32).toInt = 16)
        have hn17 := lv_neT hk17 (by decide : (17 : Int32).toInt = 17)
        have hn18 := lv_neT hk18 (by decide : (18 : Int32).toInt = 18)
        have hn19 := lv_neT hk19 (by decide : (19 : Int32).toInt = 19)
        have hn20 := lv_neT hk20 (by decide : (20 : Int32).toInt = 20)
        have hn21 := lv_neT hk21 (by decide : (21 : Int32).toInt = 21)
        have hn22 := lv_neT hk22 (by decide : (22 : Int32).toInt = 22)
        have hn23 := lv_neT hk23 (by decide : (23 : Int32).toInt = 23)
        have hn24 := lv_neT hk24 (by decide : (24 : Int32).toInt = 24)
        have hn25 := lv_neT hk25 (by decide : (25 : Int32).toInt = 25)
        have hn26 := lv_neT hk26 (by decide : (26 : Int32).toInt = 26)
        omega
      refine lv_tableOut (tgt := 898) hx hb dL_law_32 hout (by decide) ?_
      exact again H locs ls hI hS hl
