
theorem fcL_eq : ∀ (l : List Nat) (k : List Nat → Option (List Nat)), fcL l k = k l
  | [], _ => rfl
  | x :: xs, k => by
    rw [fcL]
    have e : ∀ g : Nat → Option (List Nat), fcN x g = g x := by intro g; cases x <;> rfl
    rw [e, fcL_eq xs]
theorem itC_s (n f : Nat) (l : List Nat) : itC n (f + 1) l = (nxF n l).bind (itC n f) := by
  rw [itC]
  cases nxF n l with
  | none => rfl
  | some l2 => exact fcL_eq l2 _
theorem itC_cat {n : Nat} : ∀ {a b : Nat} {l m o : List Nat}, itC n a l = some m → itC n b m = some o → itC n (a + b) l = some o
  | 0, b, l, m, o, h1, h2 => by
    rw [itC] at h1
    cases h1
    rw [Nat.zero_add]; exact h2
  | a + 1, b, l, m, o, h1, h2 => by
    rw [itC_s] at h1
    rw [show a + 1 + b = (a + b) + 1 by omega, itC_s]
    cases q : nxF n l with
    | none => rw [q] at h1; simp at h1
    | some l2 =>
      rw [q] at h1
      exact itC_cat (a := a) (b := b) h1 h2
theorem itC_cat2 {n a b c : Nat} {l m o : List Nat} (hc : a + b = c) (h1 : itC n a l = some m) (h2 : itC n b m = some o) : itC n c l = some o := hc ▸ itC_cat h1 h2
def fN : Nat → Nat
  | 0 => 1
  | n + 1 => (n + 1) * fN n
theorem of_0 : ∃ m, itC 0 (fN 0 - 1) (List.range 0) = some m ∧ nxF 0 m = none := ⟨_, rfl, oe_0⟩
theorem of_1 : ∃ m, itC 1 (fN 1 - 1) (List.range 1) = some m ∧ nxF 1 m = none := ⟨_, rfl, oe_1⟩
theorem od_2_0 : itC 2 1 [0, 1] = some [1, 0] := oc_2_0
theorem of_2 : ∃ m, itC 2 (fN 2 - 1) (List.range 2) = some m ∧ nxF 2 m = none := ⟨_, (show itC 2 (fN 2 - 1) (List.range 2) = itC 2 1 [0, 1] from by rw [show fN 2 - 1 = 1 from rfl, show List.range 2 = [0, 1] from rfl]).trans od_2_0, oe_2⟩
theorem od_3_0 : itC 3 5 [0, 1, 2] = some [2, 1, 0] := oc_3_0
theorem of_3 : ∃ m, itC 3 (fN 3 - 1) (List.range 3) = some m ∧ nxF 3 m = none := ⟨_, (show itC 3 (fN 3 - 1) (List.range 3) = itC 3 5 [0, 1, 2] from by rw [show fN 3 - 1 = 5 from rfl, show List.range 3 = [0, 1, 2] from rfl]).trans od_3_0, oe_3⟩
theorem od_4_0 : itC 4 23 [0, 1, 2, 3] = some [3, 2, 1, 0] := oc_4_0
theorem of_4 : ∃ m, itC 4 (fN 4 - 1) (List.range 4) = some m ∧ nxF 4 m = none := ⟨_, (show itC 4 (fN 4 - 1) (List.range 4) = itC 4 23 [0, 1, 2, 3] from by rw [show fN 4 - 1 = 23 from rfl, show List.range 4 = [0, 1, 2, 3] from rfl]).trans od_4_0, oe_4⟩
theorem od_5_0 : itC 5 60 [0, 1, 2, 3, 4] = some [2, 3, 0, 1, 4] := oc_5_0
theorem od_5_1 : itC 5 119 [0, 1, 2, 3, 4] = some [4, 3, 2, 1, 0] := itC_cat2 (a := 60) (b := 59) rfl od_5_0 oc_5_1
theorem of_5 : ∃ m, itC 5 (fN 5 - 1) (List.range 5) = some m ∧ nxF 5 m = none := ⟨_, (show itC 5 (fN 5 - 1) (List.range 5) = itC 5 119 [0, 1, 2, 3, 4] from by rw [show fN 5 - 1 = 119 from rfl, show List.range 5 = [0, 1, 2, 3, 4] from rfl]).trans od_5_1, oe_5⟩
theorem od_6_0 : itC 6 60 [0, 1, 2, 3, 4, 5] = some [0, 3, 4, 1, 2, 5] := oc_6_0
theorem od_6_1 : itC 6 120 [0, 1, 2, 3, 4, 5] = some [1, 0, 2, 3, 4, 5] := itC_cat2 (a := 60) (b := 60) rfl od_6_0 oc_6_1
theorem od_6_2 : itC 6 180 [0, 1, 2, 3, 4, 5] = some [1, 3, 4, 0, 2, 5] := itC_cat2 (a := 120) (b := 60) rfl od_6_1 oc_6_2
theorem od_6_3 : itC 6 240 [0, 1, 2, 3, 4, 5] = some [2, 0, 1, 3, 4, 5] := itC_cat2 (a := 180) (b := 60) rfl od_6_2 oc_6_3
theorem od_6_4 : itC 6 300 [0, 1, 2, 3, 4, 5] = some [2, 3, 4, 0, 1, 5] := itC_cat2 (a := 240) (b := 60) rfl od_6_3 oc_6_4
theorem od_6_5 : itC 6 360 [0, 1, 2, 3, 4, 5] = some [3, 0, 1, 2, 4, 5] := itC_cat2 (a := 300) (b := 60) rfl od_6_4 oc_6_5
theorem od_6_6 : itC 6 420 [0, 1, 2, 3, 4, 5] = some [3, 2, 4, 0, 1, 5] := itC_cat2 (a := 360) (b := 60) rfl od_6_5 oc_6_6
theorem od_6_7 : itC 6 480 [0, 1, 2, 3, 4, 5] = some [4, 0, 1, 2, 3, 5] := itC_cat2 (a := 420) (b := 60) rfl od_6_6 oc_6_7
theorem od_6_8 : itC 6 540 [0, 1, 2, 3, 4, 5] = some [4, 2, 3, 0, 1, 5] := itC_cat2 (a := 480) (b := 60) rfl od_6_7 oc_6_8
theorem od_6_9 : itC 6 600 [0, 1, 2, 3, 4, 5] = some [5, 0, 1, 2, 3, 4] := itC_cat2 (a := 540) (b := 60) rfl od_6_8 oc_6_9
theorem od_6_10 : itC 6 660 [0, 1, 2, 3, 4, 5] = some [5, 2, 3, 0, 1, 4] := itC_cat2 (a := 600) (b := 60) rfl od_6_9 oc_6_10
theorem od_6_11 : itC 6 719 [0, 1, 2, 3, 4, 5] = some [5, 4, 3, 2, 1, 0] := itC_cat2 (a := 660) (b := 59) rfl od_6_10 oc_6_11
theorem of_6 : ∃ m, itC 6 (fN 6 - 1) (List.range 6) = some m ∧ nxF 6 m = none := ⟨_, (show itC 6 (fN 6 - 1) (List.range 6) = itC 6 719 [0, 1, 2, 3, 4, 5] from by rw [show fN 6 - 1 = 719 from rfl, show List.range 6 = [0, 1, 2, 3, 4, 5] from rfl]).trans od_6_11, oe_6⟩
theorem od_7_0 : itC 7 60 [0, 1, 2, 3, 4, 5, 6] = some [0, 1, 4, 5, 2, 3, 6] := oc_7_0
theorem od_7_1 : itC 7 120 [0, 1, 2, 3, 4, 5, 6] = some [0, 2, 1, 3, 4, 5, 6] := itC_cat2 (a := 60) (b := 60) rfl od_7_0 oc_7_1
theorem od_7_2 : itC 7 180 [0, 1, 2, 3, 4, 5, 6] = some [0, 2, 4, 5, 1, 3, 6] := itC_cat2 (a := 120) (b := 60) rfl od_7_1 oc_7_2
theorem od_7_3 : itC 7 240 [0, 1, 2, 3, 4, 5, 6] = some [0, 3, 1, 2, 4, 5, 6] := itC_cat2 (a := 180) (b := 60) rfl od_7_2 oc_7_3
theorem od_7_4 : itC 7 300 [0, 1, 2, 3, 4, 5, 6] = some [0, 3, 4, 5, 1, 2, 6] := itC_cat2 (a := 240) (b := 60) rfl od_7_3 oc_7_4
theorem od_7_5 : itC 7 360 [0, 1, 2, 3, 4, 5, 6] = some [0, 4, 1, 2, 3, 5, 6] := itC_cat2 (a := 300) (b := 60) rfl od_7_4 oc_7_5
theorem od_7_6 : itC 7 420 [0, 1, 2, 3, 4, 5, 6] = some [0, 4, 3, 5, 1, 2, 6] := itC_cat2 (a := 360) (b := 60) rfl od_7_5 oc_7_6
theorem od_7_7 : itC 7 480 [0, 1, 2, 3, 4, 5, 6] = some [0, 5, 1, 2, 3, 4, 6] := itC_cat2 (a := 420) (b := 60) rfl od_7_6 oc_7_7
theorem od_7_8 : itC 7 540 [0, 1, 2, 3, 4, 5, 6] = some [0, 5, 3, 4, 1, 2, 6] := itC_cat2 (a := 480) (b := 60) rfl od_7_7 oc_7_8
theorem od_7_9 : itC 7 600 [0, 1, 2, 3, 4, 5, 6] = some [0, 6, 1, 2, 3, 4, 5] := itC_cat2 (a := 540) (b := 60) rfl od_7_8 oc_7_9
theorem od_7_10 : itC 7 660 [0, 1, 2, 3, 4, 5, 6] = some [0, 6, 3, 4, 1, 2, 5] := itC_cat2 (a := 600) (b := 60) rfl od_7_9 oc_7_10
theorem od_7_11 : itC 7 720 [0, 1, 2, 3, 4, 5, 6] = some [1, 0, 2, 3, 4, 5, 6] := itC_cat2 (a := 660) (b := 60) rfl od_7_10 oc_7_11
theorem od_7_12 : itC 7 780 [0, 1, 2, 3, 4, 5, 6] = some [1, 0, 4, 5, 2, 3, 6] := itC_cat2 (a := 720) (b := 60) rfl od_7_11 oc_7_12
theorem od_7_13 : itC 7 840 [0, 1, 2, 3, 4, 5, 6] = some [1, 2, 0, 3, 4, 5, 6] := itC_cat2 (a := 780) (b := 60) rfl od_7_12 oc_7_13
theorem od_7_14 : itC 7 900 [0, 1, 2, 3, 4, 5, 6] = some [1, 2, 4, 5, 0, 3, 6] := itC_cat2 (a := 840) (b := 60) rfl od_7_13 oc_7_14
theorem od_7_15 : itC 7 960 [0, 1, 2, 3, 4, 5, 6] = some [1, 3, 0, 2, 4, 5, 6] := itC_cat2 (a := 900) (b := 60) rfl od_7_14 oc_7_15
theorem od_7_16 : itC 7 1020 [0, 1, 2, 3, 4, 5, 6] = some [1, 3, 4, 5, 0, 2, 6] := itC_cat2 (a := 960) (b := 60) rfl od_7_15 oc_7_16
theorem od_7_17 : itC 7 1080 [0, 1, 2, 3, 4, 5, 6] = some [1, 4, 0, 2, 3, 5, 6] := itC_cat2 (a := 1020) (b := 60) rfl od_7_16 oc_7_17
theorem od_7_18 : itC 7 1140 [0, 1, 2, 3, 4, 5, 6] = some [1, 4, 3, 5, 0, 2, 6] := itC_cat2 (a := 1080) (b := 60) rfl od_7_17 oc_7_18
theorem od_7_19 : itC 7 1200 [0, 1, 2, 3, 4, 5, 6] = some [1, 5, 0, 2, 3, 4, 6] := itC_cat2 (a := 1140) (b := 60) rfl od_7_18 oc_7_19
theorem od_7_20 : itC 7 1260 [0, 1, 2, 3, 4, 5, 6] = some [1, 5, 3, 4, 0, 2, 6] := itC_cat2 (a := 1200) (b := 60) rfl od_7_19 oc_7_20
theorem od_7_21 : itC 7 1320 [0, 1, 2, 3, 4, 5, 6] = some [1, 6, 0, 2, 3, 4, 5] := itC_cat2 (a := 1260) (b := 60) rfl od_7_20 oc_7_21
theorem od_7_22 : itC 7 1380 [0, 1, 2, 3, 4, 5, 6] = some [1, 6, 3, 4, 0, 2, 5] := itC_cat2 (a := 1320) (b := 60) rfl od_7_21 oc_7_22
theorem od_7_23 : itC 7 1440 [0, 1, 2, 3, 4, 5, 6] = some [2, 0, 1, 3, 4, 5, 6] := itC_cat2 (a := 1380) (b := 60) rfl od_7_22 oc_7_23
theorem od_7_24 : itC 7 1500 [0, 1, 2, 3, 4, 5, 6] = some [2, 0, 4, 5, 1, 3, 6] := itC_cat2 (a := 1440) (b := 60) rfl od_7_23 oc_7_24
theorem od_7_25 : itC 7 1560 [0, 1, 2, 3, 4, 5, 6] = some [2, 1, 0, 3, 4, 5, 6] := itC_cat2 (a := 1500) (b := 60) rfl od_7_24 oc_7_25
theorem od_7_26 : itC 7 1620 [0, 1, 2, 3, 4, 5, 6] = some [2, 1, 4, 5, 0, 3, 6] := itC_cat2 (a := 1560) (b := 60) rfl od_7_25 oc_7_26
theorem od_7_27 : itC 7 1680 [0, 1, 2, 3, 4, 5, 6] = some [2, 3, 0, 1, 4, 5, 6] := itC_cat2 (a := 1620) (b := 60) rfl od_7_26 oc_7_27
theorem od_7_28 : itC 7 1740 [0, 1, 2, 3, 4, 5, 6] = some [2, 3, 4, 5, 0, 1, 6] := itC_cat2 (a := 1680) (b := 60) rfl od_7_27 oc_7_28
theorem od_7_29 : itC 7 1800 [0, 1, 2, 3, 4, 5, 6] = some [2, 4, 0, 1, 3, 5, 6] := itC_cat2 (a := 1740) (b := 60) rfl od_7_28 oc_7_29
theorem od_7_30 : itC 7 1860 [0, 1, 2, 3, 4, 5, 6] = some [2, 4, 3, 5, 0, 1, 6] := itC_cat2 (a := 1800) (b := 60) rfl od_7_29 oc_7_30
theorem od_7_31 : itC 7 1920 [0, 1, 2, 3, 4, 5, 6] = some [2, 5, 0, 1, 3, 4, 6] := itC_cat2 (a := 1860) (b := 60) rfl od_7_30 oc_7_31
theorem od_7_32 : itC 7 1980 [0, 1, 2, 3, 4, 5, 6] = some [2, 5, 3, 4, 0, 1, 6] := itC_cat2 (a := 1920) (b := 60) rfl od_7_31 oc_7_32
theorem od_7_33 : itC 7 2040 [0, 1, 2, 3, 4, 5, 6] = some [2, 6, 0, 1, 3, 4, 5] := itC_cat2 (a := 1980) (b := 60) rfl od_7_32 oc_7_33
theorem od_7_34 : itC 7 2100 [0, 1, 2, 3, 4, 5, 6] = some [2, 6, 3, 4, 0, 1, 5] := itC_cat2 (a := 2040) (b := 60) rfl od_7_33 oc_7_34
theorem od_7_35 : itC 7 2160 [0, 1, 2, 3, 4, 5, 6] = some [3, 0, 1, 2, 4, 5, 6] := itC_cat2 (a := 2100) (b := 60) rfl od_7_34 oc_7_35
theorem od_7_36 : itC 7 2220 [0, 1, 2, 3, 4, 5, 6] = some [3, 0, 4, 5, 1, 2, 6] := itC_cat2 (a := 2160) (b := 60) rfl od_7_35 oc_7_36
theorem od_7_37 : itC 7 2280 [0, 1, 2, 3, 4, 5, 6] = some [3, 1, 0, 2, 4, 5, 6] := itC_cat2 (a := 2220) (b := 60) rfl od_7_36 oc_7_37
theorem od_7_38 : itC 7 2340 [0, 1, 2, 3, 4, 5, 6] = some [3, 1, 4, 5, 0, 2, 6] := itC_cat2 (a := 2280) (b := 60) rfl od_7_37 oc_7_38
theorem od_7_39 : itC 7 2400 [0, 1, 2, 3, 4, 5, 6] = some [3, 2, 0, 1, 4, 5, 6] := itC_cat2 (a := 2340) (b := 60) rfl od_7_38 oc_7_39
theorem od_7_40 : itC 7 2460 [0, 1, 2, 3, 4, 5, 6] = some [3, 2, 4, 5, 0, 1, 6] := itC_cat2 (a := 2400) (b := 60) rfl od_7_39 oc_7_40
theorem od_7_41 : itC 7 2520 [0, 1, 2, 3, 4, 5, 6] = some [3, 4, 0, 1, 2, 5, 6] := itC_cat2 (a := 2460) (b := 60) rfl od_7_40 oc_7_41
theorem od_7_42 : itC 7 2580 [0, 1, 2, 3, 4, 5, 6] = some [3, 4, 2, 5, 0, 1, 6] := itC_cat2 (a := 2520) (b := 60) rfl od_7_41 oc_7_42
theorem od_7_43 : itC 7 2640 [0, 1, 2, 3, 4, 5, 6] = some [3, 5, 0, 1, 2, 4, 6] := itC_cat2 (a := 2580) (b := 60) rfl od_7_42 oc_7_43
theorem od_7_44 : itC 7 2700 [0, 1, 2, 3, 4, 5, 6] = some [3, 5, 2, 4, 0, 1, 6] := itC_cat2 (a := 2640) (b := 60) rfl od_7_43 oc_7_44
theorem od_7_45 : itC 7 2760 [0, 1, 2, 3, 4, 5, 6] = some [3, 6, 0, 1, 2, 4, 5] := itC_cat2 (a := 2700) (b := 60) rfl od_7_44 oc_7_45
theorem od_7_46 : itC 7 2820 [0, 1, 2, 3, 4, 5, 6] = some [3, 6, 2, 4, 0, 1, 5] := itC_cat2 (a := 2760) (b := 60) rfl od_7_45 oc_7_46
theorem od_7_47 : itC 7 2880 [0, 1, 2, 3, 4, 5, 6] = some [4, 0, 1, 2, 3, 5, 6] := itC_cat2 (a := 2820) (b := 60) rfl od_7_46 oc_7_47
theorem od_7_48 : itC 7 2940 [0, 1, 2, 3, 4, 5, 6] = some [4, 0, 3, 5, 1, 2, 6] := itC_cat2 (a := 2880) (b := 60) rfl od_7_47 oc_7_48
theorem od_7_49 : itC 7 3000 [0, 1, 2, 3, 4, 5, 6] = some [4, 1, 0, 2, 3, 5, 6] := itC_cat2 (a := 2940) (b := 60) rfl od_7_48 oc_7_49
theorem od_7_50 : itC 7 3060 [0, 1, 2, 3, 4, 5, 6] = some [4, 1, 3, 5, 0, 2, 6] := itC_cat2 (a := 3000) (b := 60) rfl od_7_49 oc_7_50
theorem od_7_51 : itC 7 3120 [0, 1, 2, 3, 4, 5, 6] = some [4, 2, 0, 1, 3, 5, 6] := itC_cat2 (a := 3060) (b := 60) rfl od_7_50 oc_7_51
theorem od_7_52 : itC 7 3180 [0, 1, 2, 3, 4, 5, 6] = some [4, 2, 3, 5, 0, 1, 6] := itC_cat2 (a := 3120) (b := 60) rfl od_7_51 oc_7_52
theorem od_7_53 : itC 7 3240 [0, 1, 2, 3, 4, 5, 6] = some [4, 3, 0, 1, 2, 5, 6] := itC_cat2 (a := 3180) (b := 60) rfl od_7_52 oc_7_53
theorem od_7_54 : itC 7 3300 [0, 1, 2, 3, 4, 5, 6] = some [4, 3, 2, 5, 0, 1, 6] := itC_cat2 (a := 3240) (b := 60) rfl od_7_53 oc_7_54
theorem od_7_55 : itC 7 3360 [0, 1, 2, 3, 4, 5, 6] = some [4, 5, 0, 1, 2, 3, 6] := itC_cat2 (a := 3300) (b := 60) rfl od_7_54 oc_7_55
theorem od_7_56 : itC 7 3420 [0, 1, 2, 3, 4, 5, 6] = some [4, 5, 2, 3, 0, 1, 6] := itC_cat2 (a := 3360) (b := 60) rfl od_7_55 oc_7_56
theorem od_7_57 : itC 7 3480 [0, 1, 2, 3, 4, 5, 6] = some [4, 6, 0, 1, 2, 3, 5] := itC_cat2 (a := 3420) (b := 60) rfl od_7_56 oc_7_57
theorem od_7_58 : itC 7 3540 [0, 1, 2, 3, 4, 5, 6] = some [4, 6, 2, 3, 0, 1, 5] := itC_cat2 (a := 3480) (b := 60) rfl od_7_57 oc_7_58
theorem od_7_59 : itC 7 3600 [0, 1, 2, 3, 4, 5, 6] = some [5, 0, 1, 2, 3, 4, 6] := itC_cat2 (a := 3540) (b := 60) rfl od_7_58 oc_7_59
theorem od_7_60 : itC 7 3660 [0, 1, 2, 3, 4, 5, 6] = some [5, 0, 3, 4, 1, 2, 6] := itC_cat2 (a := 3600) (b := 60) rfl od_7_59 oc_7_60
theorem od_7_61 : itC 7 3720 [0, 1, 2, 3, 4, 5, 6] = some [5, 1, 0, 2, 3, 4, 6] := itC_cat2 (a := 3660) (b := 60) rfl od_7_60 oc_7_61
theorem od_7_62 : itC 7 3780 [0, 1, 2, 3, 4, 5, 6] = some [5, 1, 3, 4, 0, 2, 6] := itC_cat2 (a := 3720) (b := 60) rfl od_7_61 oc_7_62
theorem od_7_63 : itC 7 3840 [0, 1, 2, 3, 4, 5, 6] = some [5, 2, 0, 1, 3, 4, 6] := itC_cat2 (a := 3780) (b := 60) rfl od_7_62 oc_7_63
theorem od_7_64 : itC 7 3900 [0, 1, 2, 3, 4, 5, 6] = some [5, 2, 3, 4, 0, 1, 6] := itC_cat2 (a := 3840) (b := 60) rfl od_7_63 oc_7_64
theorem od_7_65 : itC 7 3960 [0, 1, 2, 3, 4, 5, 6] = some [5, 3, 0, 1, 2, 4, 6] := itC_cat2 (a := 3900) (b := 60) rfl od_7_64 oc_7_65
theorem od_7_66 : itC 7 4020 [0, 1, 2, 3, 4, 5, 6] = some [5, 3, 2, 4, 0, 1, 6] := itC_cat2 (a := 3960) (b := 60) rfl od_7_65 oc_7_66
theorem od_7_67 : itC 7 4080 [0, 1, 2, 3, 4, 5, 6] = some [5, 4, 0, 1, 2, 3, 6] := itC_cat2 (a := 4020) (b := 60) rfl od_7_66 oc_7_67
theorem od_7_68 : itC 7 4140 [0, 1, 2, 3, 4, 5, 6] = some [5, 4, 2, 3, 0, 1, 6] := itC_cat2 (a := 4080) (b := 60) rfl od_7_67 oc_7_68
theorem od_7_69 : itC 7 4200 [0, 1, 2, 3, 4, 5, 6] = some [5, 6, 0, 1, 2, 3, 4] := itC_cat2 (a := 4140) (b := 60) rfl od_7_68 oc_7_69
theorem od_7_70 : itC 7 4260 [0, 1, 2, 3, 4, 5, 6] = some [5, 6, 2, 3, 0, 1, 4] := itC_cat2 (a := 4200) (b := 60) rfl od_7_69 oc_7_70
theorem od_7_71 : itC 7 4320 [0, 1, 2, 3, 4, 5, 6] = some [6, 0, 1, 2, 3, 4, 5] := itC_cat2 (a := 4260) (b := 60) rfl od_7_70 oc_7_71
theorem od_7_72 : itC 7 4380 [0, 1, 2, 3, 4, 5, 6] = some [6, 0, 3, 4, 1, 2, 5] := itC_cat2 (a := 4320) (b := 60) rfl od_7_71 oc_7_72
theorem od_7_73 : itC 7 4440 [0, 1, 2, 3, 4, 5, 6] = some [6, 1, 0, 2, 3, 4, 5] := itC_cat2 (a := 4380) (b := 60) rfl od_7_72 oc_7_73
theorem od_7_74 : itC 7 4500 [0, 1, 2, 3, 4, 5, 6] = some [6, 1, 3, 4, 0, 2, 5] := itC_cat2 (a := 4440) (b := 60) rfl od_7_73 oc_7_74
theorem od_7_75 : itC 7 4560 [0, 1, 2, 3, 4, 5, 6] = some [6, 2, 0, 1, 3, 4, 5] := itC_cat2 (a := 4500) (b := 60) rfl od_7_74 oc_7_75
theorem od_7_76 : itC 7 4620 [0, 1, 2, 3, 4, 5, 6] = some [6, 2, 3, 4, 0, 1, 5] := itC_cat2 (a := 4560) (b := 60) rfl od_7_75 oc_7_76
theorem od_7_77 : itC 7 4680 [0, 1, 2, 3, 4, 5, 6] = some [6, 3, 0, 1, 2, 4, 5] := itC_cat2 (a := 4620) (b := 60) rfl od_7_76 oc_7_77
theorem od_7_78 : itC 7 4740 [0, 1, 2, 3, 4, 5, 6] = some [6, 3, 2, 4, 0, 1, 5] := itC_cat2 (a := 4680) (b := 60) rfl od_7_77 oc_7_78
theorem od_7_79 : itC 7 4800 [0, 1, 2, 3, 4, 5, 6] = some [6, 4, 0, 1, 2, 3, 5] := itC_cat2 (a := 4740) (b := 60) rfl od_7_78 oc_7_79
theorem od_7_80 : itC 7 4860 [0, 1, 2, 3, 4, 5, 6] = some [6, 4, 2, 3, 0, 1, 5] := itC_cat2 (a := 4800) (b := 60) rfl od_7_79 oc_7_80
theorem od_7_81 : itC 7 4920 [0, 1, 2, 3, 4, 5, 6] = some [6, 5, 0, 1, 2, 3, 4] := itC_cat2 (a := 4860) (b := 60) rfl od_7_80 oc_7_81
theorem od_7_82 : itC 7 4980 [0, 1, 2, 3, 4, 5, 6] = some [6, 5, 2, 3, 0, 1, 4] := itC_cat2 (a := 4920) (b := 60) rfl od_7_81 oc_7_82
theorem od_7_83 : itC 7 5039 [0, 1, 2, 3, 4, 5, 6] = some [6, 5, 4, 3, 2, 1, 0] := itC_cat2 (a := 4980) (b := 59) rfl od_7_82 oc_7_83
theorem of_7 : ∃ m, itC 7 (fN 7 - 1) (List.range 7) = some m ∧ nxF 7 m = none := ⟨_, (show itC 7 (fN 7 - 1) (List.range 7) = itC 7 5039 [0, 1, 2, 3, 4, 5, 6] from by rw [show fN 7 - 1 = 5039 from rfl, show List.range 7 = [0, 1, 2, 3, 4, 5, 6] from rfl]).trans od_7_83, oe_7⟩
theorem of_all {n : Nat} (hn : n ≤ 7) : ∃ m, itC n (fN n - 1) (List.range n) = some m ∧ nxF n m = none := by
  rcases (show n = 0 ∨ n = 1 ∨ n = 2 ∨ n = 3 ∨ n = 4 ∨ n = 5 ∨ n = 6 ∨ n = 7 by omega) with rfl | rfl | rfl | rfl | rfl | rfl | rfl | rfl
  · exact of_0
  · exact of_1
  · exact of_2
  · exact of_3
  · exact of_4
  · exact of_5
  · exact of_6
  · exact of_7
theorem fN_fac : ∀ n, n < 8 → facI n = nI (fN n) ∧ 1 ≤ fN n ∧ fN n ≤ 5040 := by decide +kernel
/-- the k-th order of n -/
def sq (n k : Nat) : List Nat := (itC n k (List.range n)).getD []
theorem itC_some {n : Nat} : ∀ {a b : Nat} {l o : List Nat}, itC n (a + b) l = some o → ∃ m, itC n a l = some m ∧ itC n b m = some o
  | 0, b, l, o, h => ⟨l, rfl, by rw [Nat.zero_add] at h; exact h⟩
  | a + 1, b, l, o, h => by
    rw [show a + 1 + b = (a + b) + 1 by omega, itC_s] at h
    cases q : nxF n l with
    | none => rw [q] at h; simp at h
    | some l2 =>
      rw [q] at h
      obtain ⟨m, h1, h2⟩ := itC_some (a := a) (b := b) h
      exact ⟨m, by rw [itC_s, q]; exact h1, h2⟩
theorem sq_it {n k : Nat} (hn : n ≤ 7) (hk : k < fN n) : itC n k (List.range n) = some (sq n k) := by
  obtain ⟨m, h1, -⟩ := of_all hn
  obtain ⟨m2, h3, -⟩ := itC_some (a := k) (b := fN n - 1 - k) (by rw [show k + (fN n - 1 - k) = fN n - 1 by omega]; exact h1)
  unfold sq
  rw [h3]; rfl
theorem sq_0 (n : Nat) : sq n 0 = List.range n := rfl
theorem sq_s {n k : Nat} (hn : n ≤ 7) (hk : k + 1 < fN n) : nxF n (sq n k) = some (sq n (k + 1)) := by
  have h1 := sq_it hn (k := k) (by omega)
  have h2 := sq_it hn hk
  obtain ⟨m, h3, h4⟩ := itC_some (a := k) (b := 1) h2
  rw [h1] at h3
  cases h3
  rw [itC_s] at h4
  cases q : nxF n (sq n k) with
  | none => rw [q] at h4; simp at h4
  | some l2 =>
    rw [q] at h4
    exact h4
theorem sq_e {n : Nat} (hn : n ≤ 7) : nxF n (sq n (fN n - 1)) = none := by
  obtain ⟨m, h1, h2⟩ := of_all hn
  have h3 := sq_it hn (k := fN n - 1) (by have := (fN_fac n (by omega)).2.1; omega)
  rw [h1] at h3
  cases h3
  exact h2
def PM (n : Nat) (l : List Nat) : Prop := l.length = n ∧ (∀ i, i < n → lg l i < n) ∧ (∀ i j, i < n → j < n → lg l i = lg l j → i = j)
theorem lg_set {l : List Nat} {a i x : Nat} (ha : a < l.length) : lg (l.set a x) i = if i = a then x else lg l i := by
  unfold lg
  rw [List.getD_eq_getElem?_getD, List.getD_eq_getElem?_getD]
  by_cases e : i = a
  · subst e
    rw [List.getElem?_set_self ha, if_pos rfl]; rfl
  · rw [List.getElem?_set_ne (fun z => e z.symm), if_neg e]
theorem lg_sw {l : List Nat} {a b i : Nat} (ha : a < l.length) (hb : b < l.length) : lg (swF l a b) i = if i = b then lg l a else if i = a then lg l b else lg l i := by
  unfold swF
  rw [lg_set (by rw [List.length_set]; exact hb)]
  by_cases e : i = b
  · rw [if_pos e, if_pos e]
  · rw [if_neg e, if_neg e, lg_set ha]
theorem PM_sw {n : Nat} {l : List Nat} {a b : Nat} (h : PM n l) (ha : a < n) (hb : b < n) : PM n (swF l a b) := by
  obtain ⟨h1, h2, h3⟩ := h
  have g : ∀ i, lg (swF l a b) i = if i = b then lg l a else if i = a then lg l b else lg l i := fun i => lg_sw (by omega) (by omega)
  refine ⟨by unfold swF; rw [List.length_set, List.length_set]; exact h1, fun i hi => ?_, fun i j hi hj e => ?_⟩
  · rw [g]
    by_cases e1 : i = b
    · rw [if_pos e1]; exact h2 a ha
    · rw [if_neg e1]
      by_cases e2 : i = a
      · rw [if_pos e2]; exact h2 b hb
      · rw [if_neg e2]; exact h2 i hi
  · rw [g, g] at e
    by_cases e1 : i = b
    · by_cases f1 : j = b
      · omega
      · rw [if_pos e1, if_neg f1] at e
        by_cases f2 : j = a
        · rw [if_pos f2] at e
          have := h3 a b ha hb e; omega
        · rw [if_neg f2] at e
          have := h3 a j ha hj e; omega
    · rw [if_neg e1] at e
      by_cases e2 : i = a
      · rw [if_pos e2] at e
        by_cases f1 : j = b
        · rw [if_pos f1] at e
          have := h3 b a hb ha e; omega
        · rw [if_neg f1] at e
          by_cases f2 : j = a
          · omega
          · rw [if_neg f2] at e
            have := h3 b j hb hj e; omega
      · rw [if_neg e2] at e
        by_cases f1 : j = b
        · rw [if_pos f1] at e
          have := h3 i a hi ha e; omega
        · rw [if_neg f1] at e
          by_cases f2 : j = a
          · rw [if_pos f2] at e
            have := h3 i b hi hb e; omega
          · rw [if_neg f2] at e
            exact h3 i j hi hj e
theorem PM_rv {n : Nat} : ∀ (f : Nat) (l : List Nat) (a b : Nat), PM n l → b < n → PM n (rvF f l a b)
  | 0, _, _, _, h, _ => h
  | f + 1, l, a, b, h, hb => by
    rw [rvF]
    cases q : Nat.blt a b with
    | false => exact h
    | true =>
      have hab : a < b := by simpa [Nat.blt_eq] using q
      exact PM_rv f _ _ _ (PM_sw h (by omega) hb) (by omega)
theorem ri_spec {l : List Nat} : ∀ {k r : Nat}, riF l k = some r → r < k ∧ lg l r ≤ lg l (r + 1)
  | 0, r, h => by simp [riF] at h
  | k + 1, r, h => by
    rw [riF] at h
    cases q : Nat.ble (lg l k) (lg l (k + 1)) with
    | true =>
      rw [q] at h
      have e : k = r := by simpa using h
      subst e
      exact ⟨by omega, by simpa [Nat.ble_eq] using q⟩
    | false =>
      rw [q] at h
      have := ri_spec (k := k) h
      exact ⟨by omega, this.2⟩
theorem ab_spec {l : List Nat} {r : Nat} (hr : lg l r ≤ lg l (r + 1)) : ∀ {k : Nat}, r < k → r < abF l r k ∧ abF l r k ≤ k
  | 0, h => absurd h (Nat.not_lt_zero _)
  | k + 1, h => by
    rw [abF]
    cases q : Nat.ble (lg l r) (lg l (k + 1)) with
    | true => exact ⟨h, Nat.le_refl _⟩
    | false =>
      have hk : r < k := by
        rcases Nat.lt_or_ge r k with z | z
        · exact z
        · have e : r = k := by omega
          subst e
          have : Nat.ble (lg l r) (lg l (r + 1)) = true := by simpa [Nat.ble_eq] using hr
          rw [this] at q; simp at q
      have := ab_spec hr (k := k) hk
      exact ⟨this.1, by have := this.2; show abF l r k ≤ k + 1; omega⟩
theorem PM_nx {n : Nat} {l l2 : List Nat} (h : PM n l) (e : nxF n l = some l2) : PM n l2 := by
  unfold nxF at e
  cases q : riF l (n - 1) with
  | none => rw [q] at e; simp at e
  | some r =>
    rw [q] at e
    have e2 : rvF n (swF l r (abF l r (n - 1))) (r + 1) (n - 1) = l2 := by simpa using e
    obtain ⟨r1, r2⟩ := ri_spec q
    obtain ⟨a1, a2⟩ := ab_spec r2 (k := n - 1) r1
    rw [← e2]
    exact PM_rv _ _ _ _ (PM_sw h (by omega) (by omega)) (by omega)
theorem lg_range {n i : Nat} (h : i < n) : lg (List.range n) i = i := by
  unfold lg
  rw [List.getD_eq_getElem?_getD, List.getElem?_range h]; rfl
theorem PM_range (n : Nat) : PM n (List.range n) := ⟨List.length_range, fun i hi => by rw [lg_range hi]; exact hi, fun i j hi hj e => by rw [lg_range hi, lg_range hj] at e; exact e⟩
theorem PM_sq {n : Nat} (hn : n ≤ 7) : ∀ k, k < fN n → PM n (sq n k)
  | 0, _ => PM_range n
  | k + 1, h => PM_nx (PM_sq hn k (by omega)) (sq_s hn h)
/-- an array that holds an order -/
def AR (n : Nat) (od : Nat → Int32) (l : List Nat) : Prop := ∀ i, i < n → od i = nI (lg l i)
theorem AR_sw {n : Nat} (hn : n ≤ 7) {od : Nat → Int32} {l : List Nat} (hl : l.length = n) (h : AR n od l) {a b : Nat} (ha : a < n) (hb : b < n) : AR n (upd (upd od a (od b)) b (od a)) (swF l a b) := by
  intro i hi
  rw [lg_sw (by omega) (by omega)]
  by_cases e1 : i = b
  · subst e1; rw [u_s, if_pos rfl]; exact h a ha
  · rw [u_n e1, if_neg e1]
    by_cases e2 : i = a
    · subst e2; rw [u_s, if_pos rfl]; exact h b hb
    · rw [u_n e2, if_neg e2]; exact h i hi
theorem le_lg {n : Nat} (hn : n ≤ 7) {od : Nat → Int32} {l : List Nat} (hP : PM n l) (h : AR n od l) {a b : Nat} (ha : a < n) (hb : b < n) : od a ≤ od b ↔ Nat.ble (lg l a) (lg l b) = true := by
  have h1 := hP.2.1 a ha
  have h2 := hP.2.1 b hb
  rw [h a ha, h b hb, nI_leI (by omega) (by omega), Nat.ble_eq]
theorem pm1 {k : Nat} : nI (k + 1) + (-1) = nI k := pk_m1 k
/-- turning the tail round, on either side -/
theorem rv_loop {n : Nat} (hn : n ≤ 7) {post : (Nat → Int32) → Prop} {wpc : (Nat → Int32) → Int32 → Int32 → ((Nat → Int32) → Prop) → Prop} (hw : ∀ (od : Nat → Int32) (a b : Nat) (k : (Nat → Int32) → Prop), a < 7 → b < 7 → k (upd (upd od a (od b)) b (od a)) → wpc od (nI a) (nI b) k)
    {l : List Nat} {a b : Nat} {od : Nat → Int32} (hP : PM n l) (hA : AR n od l) (ha : a ≤ n) (hb : b < n) (hp : ∀ od2, AR n od2 (rvF n l a b) → post od2) :
    lo (fun _ _ _ => False) (fun (G : Int32 → Int32 → (Nat → Int32) → Prop) (x y : Int32) (o : Nat → Int32) => ((y ≤ x → post o) ∧ (¬ y ≤ x → wpc o x y (fun o2 => G (x + (1 : Int32)) (y + (-1 : Int32)) o2)))) (fun G => G (nI a) (nI b) od) := by
  refine lop3 (I := fun x y o => ∃ a2 b2 l2 f, x = nI a2 ∧ y = nI b2 ∧ a2 ≤ n ∧ b2 < n ∧ PM n l2 ∧ AR n o l2 ∧ rvF f l2 a2 b2 = rvF n l a b ∧ b2 < f + a2 + 1) (fun _ y _ => y.toNatClampNeg) ?_ _ _ _ ⟨a, b, l, n, rfl, rfl, ha, hb, hP, hA, rfl, by omega⟩
  rintro x y o again ⟨a2, b2, l2, f, rfl, rfl, h1, h2, h3, h4, h5, h6⟩ hag
  refine ⟨fun q => ?_, fun q => ?_⟩
  · have q2 : b2 ≤ a2 := (nI_leI (by omega) (by omega)).mp q
    have e : rvF f l2 a2 b2 = l2 := by
      cases f with
      | zero => rfl
      | succ f =>
        rw [rvF]
        have : Nat.blt a2 b2 = false := by
          cases z : Nat.blt a2 b2
          · rfl
          · have : a2 < b2 := by simpa [Nat.blt_eq] using z
            omega
        rw [this]; rfl
    rw [e] at h5
    rw [h5] at h4
    exact hp o h4
  · have q2 : a2 < b2 := by
      rcases Nat.lt_or_ge a2 b2 with z | z
      · exact z
      · exact absurd (nI_le z (by omega)) q
    obtain ⟨b3, rfl⟩ : ∃ b3, b2 = b3 + 1 := ⟨b2 - 1, by omega⟩
    obtain ⟨f2, rfl⟩ : ∃ f2, f = f2 + 1 := ⟨f - 1, by omega⟩
    refine hw o a2 (b3 + 1) _ (by omega) (by omega) ?_
    refine hag _ _ _ ⟨a2 + 1, b3, swF l2 a2 (b3 + 1), f2, nI_1 a2, pm1, by omega, by omega, PM_sw h3 (by omega) h2, AR_sw hn h3.1 h4 (by omega) h2, ?_, by omega⟩ ?_
    · rw [rvF] at h5
      have : Nat.blt a2 (b3 + 1) = true := by simpa [Nat.blt_eq] using q2
      rw [this] at h5
      exact h5
    · show (nI (b3 + 1) + (-1)).toNatClampNeg < (nI (b3 + 1)).toNatClampNeg
      rw [pm1, c_nI (by omega), c_nI (by omega)]; omega
theorem s_X6_swap {od : Nat → Int32} {a b : Nat} {k : (Nat → Int32) → Prop} (ha : a < 7) (hb : b < 7) (h : k (upd (upd od a (od b)) b (od a))) : wp_X6_swap od (nI a) (nI b) k := by
  unfold wp_X6_swap
  rw [c_nI (by omega), c_nI (by omega)]
  exact ⟨v_in ha (by omega), v_in hb (by omega), v_in ha (by omega), v_in hb (by omega), h⟩
theorem s_X12_change {od : Nat → Int32} {a b : Nat} {k : (Nat → Int32) → Prop} (ha : a < 7) (hb : b < 7) (h : k (upd (upd od a (od b)) b (od a))) : wp_X12_change od (nI a) (nI b) k := by
  unfold wp_X12_change
  rw [c_nI (by omega), c_nI (by omega)]
  exact ⟨v_in ha (by omega), v_in hb (by omega), v_in ha (by omega), v_in hb (by omega), h⟩
/-- where it rises last -/
theorem ri_loop {n : Nat} (hn : n ≤ 7) {l : List Nat} {od : Nat → Int32} (hP : PM n l) (hA : AR n od l) {J : Int32 → Prop} (h0 : riF l (n - 1) = none → ∀ x : Int32, x < 0 → J x) (h1 : ∀ r, riF l (n - 1) = some r → J (nI r)) :
    lo (fun _ => False) (fun (G : Int32 → Prop) (x : Int32) => ((x < 0 → J x) ∧ (¬ x < 0 → (vp_in x 7 ∧ (vp_in (x + (1 : Int32)) 7 ∧ (((od (x).toNatClampNeg) ≤ (od ((x + (1 : Int32))).toNatClampNeg) → J x) ∧ (¬ (od (x).toNatClampNeg) ≤ (od ((x + (1 : Int32))).toNatClampNeg) → G (x + (-1 : Int32))))))))) (fun G => G (nI n - (2 : Int32))) := by
  refine lop1 (I := fun x => (x < 0 ∧ riF l (n - 1) = none ∧ x = -1) ∨ (x < 0 ∧ riF l (n - 1) = none ∧ n = 0) ∨ (∃ k, x = nI k ∧ k + 1 < n ∧ riF l (n - 1) = riF l (k + 1))) (fun x => (x + 5).toNatClampNeg) ?_ _ ?_
  · rintro x again (⟨q, e, -⟩ | ⟨q, e, -⟩ | ⟨k, rfl, hk, e⟩) hag
    · exact ⟨fun _ => h0 e x q, fun z => absurd q z⟩
    · exact ⟨fun _ => h0 e x q, fun z => absurd q z⟩
    · rw [nI_1, c_nI (by omega), c_nI (by omega), le_lg hn hP hA (by omega) hk]
      refine ⟨fun z => absurd z (nI_pos (by omega)), fun _ => ⟨v_in (by omega) (by omega), v_in (by omega) (by omega), fun z => h1 k ?_, fun z => hag _ ?_ ?_⟩⟩
      · rw [e, riF, z]; rfl
      · have e2 : riF l (k + 1) = riF l k := by
          rw [riF]
          cases y : Nat.ble (lg l k) (lg l (k + 1))
          · rfl
          · exact absurd y z
        rw [e2] at e
        cases k with
        | zero => exact Or.inl ⟨by decide, e, rfl⟩
        | succ k => exact Or.inr (Or.inr ⟨k, pm1, by omega, e⟩)
      · show (nI k + (-1) + 5).toNatClampNeg < (nI k + 5).toNatClampNeg
        rw [show nI k + (-1) + 5 = nI k + 4 by grind, show nI k + (5 : Int32) = nI (k + 5) from nI_add k 5, show nI k + (4 : Int32) = nI (k + 4) from nI_add k 4, c_nI (by omega), c_nI (by omega)]
        omega
  · rcases (show n = 0 ∨ n = 1 ∨ 2 ≤ n by omega) with rfl | rfl | h2
    · exact Or.inr (Or.inl ⟨by decide, rfl, rfl⟩)
    · exact Or.inl ⟨by decide, rfl, by decide⟩
    · refine Or.inr (Or.inr ⟨n - 2, pk_sub (a := n) (b := 2) h2, by omega, by rw [show n - 2 + 1 = n - 1 by omega]⟩)
theorem s_X6_advance {n : Nat} (hn : n ≤ 7) {l : List Nat} {od : Nat → Int32} (hP : PM n l) (hA : AR n od l) {post : (Nat → Int32) → Prop} (h0 : nxF n l = none → post od) (h1 : ∀ l2 od2, nxF n l = some l2 → AR n od2 l2 → post od2) : wp_X6_advance (nI n) od post := by
  unfold wp_X6_advance
  refine jn_in (ri_loop hn hP hA (fun e x hx => ⟨fun z => absurd hx (n_lt.mpr z), fun _ => h0 (by unfold nxF; rw [e])⟩) (fun r e => ⟨fun _ => ?_, fun z => absurd (nI_pos' (by have := (ri_spec e).1; omega)) z⟩))
  obtain ⟨r1, r2⟩ := ri_spec e
  obtain ⟨a1, a2⟩ := ab_spec r2 (k := n - 1) r1
  have hnx : nxF n l = some (rvF n (swF l r (abF l r (n - 1))) (r + 1) (n - 1)) := by unfold nxF; rw [e]
  refine jn_in ?_
  have hend : ∀ k, k = abF l r (n - 1) → wp_X6_swap od (nI r) (nI k) (fun (zorder_4 : Nat → Int32) => lo (fun _ _ _ => False) (fun (G90 : Int32 → Int32 → (Nat → Int32) → Prop) (x3_5 : Int32) (x4_6 : Int32) (zorder_7 : Nat → Int32) => ((x4_6 ≤ x3_5 → post zorder_7) ∧ (¬ x4_6 ≤ x3_5 → wp_X6_swap zorder_7 x3_5 x4_6 (fun (zorder_9 : Nat → Int32) => G90 (x3_5 + (1 : Int32)) (x4_6 + (-1 : Int32)) zorder_9)))) (fun G90 => G90 (nI r + (1 : Int32)) (nI n - (1 : Int32)) zorder_4)) := by
    rintro k rfl
    refine s_X6_swap (by omega) (by omega) ?_
    rw [nI_1, show nI n - (1 : Int32) = nI (n - 1) from pk_sub (a := n) (b := 1) (by omega)]
    exact rv_loop hn (wpc := wp_X6_swap) (fun od a b k ha hb h => s_X6_swap ha hb h) (PM_sw hP (by omega) (by omega)) (AR_sw hn hP.1 hA (by omega) (by omega)) (by omega) (by omega) (fun od2 h2 => h1 _ od2 hnx h2)
  refine lop1 (I := fun x => ∃ k, x = nI k ∧ r < k ∧ k < n ∧ abF l r (n - 1) = abF l r k) (fun x => x.toNatClampNeg) ?_ _ ⟨n - 1, pk_sub (a := n) (b := 1) (by omega), r1, by omega, rfl⟩
  rintro x again ⟨k, rfl, hrk, hkn, ek⟩ hag
  rw [c_nI (by omega), c_nI (by omega), le_lg hn hP hA (by omega) hkn]
  obtain ⟨k, rfl⟩ : ∃ k2, k = k2 + 1 := ⟨k - 1, by omega⟩
  refine ⟨fun z => ?_, fun _ => ⟨v_in (by omega) (by omega), v_in (by omega) (by omega), fun z => hend _ ?_, fun z => hag _ ⟨k, pm1, ?_, by omega, ?_⟩ ?_⟩⟩
  · have := (nI_leI (by omega) (by omega)).mp z; omega
  · rw [ek, abF, z]; rfl
  · rcases Nat.lt_or_ge r k with y | y
    · exact y
    · have e3 : r = k := by omega
      subst e3
      exact absurd (by rw [Nat.ble_eq]; exact r2) z
  · rw [ek, abF]
    cases y : Nat.ble (lg l r) (lg l (k + 1))
    · rfl
    · exact absurd y z
  · show (nI (k + 1) + (-1)).toNatClampNeg < (nI (k + 1)).toNatClampNeg
    rw [pm1, c_nI (by omega), c_nI (by omega)]; omega
theorem s_X12_nextOrder {n : Nat} (hn : n ≤ 7) {l : List Nat} {od : Nat → Int32} (hP : PM n l) (hA : AR n od l) {post : Int32 → (Nat → Int32) → Prop} (h0 : nxF n l = none → post 0 od) (h1 : ∀ l2 od2, nxF n l = some l2 → AR n od2 l2 → post 1 od2) : wp_X12_nextOrder od (nI n) post := by
  unfold wp_X12_nextOrder
  refine jn_in (ri_loop hn hP hA (fun e x hx => ⟨fun z => absurd hx (n_lt.mpr z), fun _ => h0 (by unfold nxF; rw [e])⟩) (fun r e => ⟨fun _ => ?_, fun z => absurd (nI_pos' (by have := (ri_spec e).1; omega)) z⟩))
  obtain ⟨r1, r2⟩ := ri_spec e
  obtain ⟨a1, a2⟩ := ab_spec r2 (k := n - 1) r1
  have hnx : nxF n l = some (rvF n (swF l r (abF l r (n - 1))) (r + 1) (n - 1)) := by unfold nxF; rw [e]
  refine jn_in ?_
  have hend : ∀ k, k = abF l r (n - 1) → wp_X12_change od (nI r) (nI k) (fun (zorder_4 : Nat → Int32) => lo (fun _ _ _ => False) (fun (G90 : Int32 → Int32 → (Nat → Int32) → Prop) (x3_5 : Int32) (x4_6 : Int32) (zorder_7 : Nat → Int32) => ((x4_6 ≤ x3_5 → post 1 zorder_7) ∧ (¬ x4_6 ≤ x3_5 → wp_X12_change zorder_7 x3_5 x4_6 (fun (zorder_9 : Nat → Int32) => G90 (x3_5 + (1 : Int32)) (x4_6 + (-1 : Int32)) zorder_9)))) (fun G90 => G90 (nI r + (1 : Int32)) (nI n - (1 : Int32)) zorder_4)) := by
    rintro k rfl
    refine s_X12_change (by omega) (by omega) ?_
    rw [nI_1, show nI n - (1 : Int32) = nI (n - 1) from pk_sub (a := n) (b := 1) (by omega)]
    exact rv_loop hn (post := post 1) (wpc := wp_X12_change) (fun od a b k ha hb h => s_X12_change ha hb h) (PM_sw hP (by omega) (by omega)) (AR_sw hn hP.1 hA (by omega) (by omega)) (by omega) (by omega) (fun od2 h2 => h1 _ od2 hnx h2)
  refine lop1 (I := fun x => ∃ k, x = nI k ∧ r < k ∧ k < n ∧ abF l r (n - 1) = abF l r k) (fun x => x.toNatClampNeg) ?_ _ ⟨n - 1, pk_sub (a := n) (b := 1) (by omega), r1, by omega, rfl⟩
  rintro x again ⟨k, rfl, hrk, hkn, ek⟩ hag
  rw [c_nI (by omega), c_nI (by omega), le_lg hn hP hA (by omega) hkn]
  obtain ⟨k, rfl⟩ : ∃ k2, k = k2 + 1 := ⟨k - 1, by omega⟩
  refine ⟨v_in (by omega) (by omega), v_in (by omega) (by omega), fun z => hend _ ?_, fun z => hag _ ⟨k, pm1, ?_, by omega, ?_⟩ ?_⟩
  · rw [ek, abF, z]; rfl
  · rcases Nat.lt_or_ge r k with y | y
    · exact y
    · have e3 : r = k := by omega
      subst e3
      exact absurd (by rw [Nat.ble_eq]; exact r2) z
  · rw [ek, abF]
    cases y : Nat.ble (lg l r) (lg l (k + 1))
    · rfl
    · exact absurd y z
  · show (nI (k + 1) + (-1)).toNatClampNeg < (nI (k + 1)).toNatClampNeg
    rw [pm1, c_nI (by omega), c_nI (by omega)]; omega
theorem s_X6_begin {n : Nat} (hn : n ≤ 7) {sz : Int32} {od : Nat → Int32} {post : Int32 → Int32 → (Nat → Int32) → Prop} (h : ∀ od2, AR n od2 (List.range n) → post (nI (fN n)) (nI n) od2) : wp_X6_begin sz od (nI n) post := by
  unfold wp_X6_begin
  have e1 : (if (7 : Int32) < nI n then (7 : Int32) else nI n) = nI n := by
    rw [if_neg]
    exact fun z => absurd ((nI_ltI (a := 7) (by omega) (by omega)).mp z) (by omega)
  have e2 : (if (0 : Int32) < nI n then nI n else (0 : Int32)) = nI n := by
    by_cases z : (0 : Int32) < nI n
    · rw [if_pos z]
    · rw [if_neg z]
      have : ¬ 0 < n := fun y => z (nI_lt (a := 0) y (by omega))
      rw [show n = 0 by omega]; rfl
  rw [e1, e2]
  refine jn_in (lofE2_0 n (by omega) rfl (fun k o => ∀ i, i < k → o i = nI i) ?_ ?_ _ (fun i hi => absurd hi (Nat.not_lt_zero _)))
  · intro o ho
    refine s_X11_factorial hn ?_
    rw [(fN_fac n (by omega)).1]
    exact h o (fun i hi => by rw [lg_range hi]; exact ho i hi)
  · intro k o again hk ho hag
    rw [c_nI (by omega)]
    refine ⟨v_in (by omega) (by omega), hag _ (fun i hi => ?_)⟩
    by_cases e : i = k
    · subst e; rw [u_s]
    · rw [u_n e]; exact ho i (by omega)
