def bt (x : Int32) (i : Nat) : Bool := x.toBitVec.getLsbD i
theorem b_ext {x y : Int32} (h : ∀ i, i < 32 → bt x i = bt y i) : x = y := Int32.toBitVec_inj.mp (BitVec.eq_of_getLsbD_eq (fun i hi => h i hi))
theorem b_or (x y : Int32) (i : Nat) : bt (x ||| y) i = (bt x i || bt y i) := by unfold bt; rw [Int32.toBitVec_or, BitVec.getLsbD_or]
theorem b_and (x y : Int32) (i : Nat) : bt (x &&& y) i = (bt x i && bt y i) := by unfold bt; rw [Int32.toBitVec_and, BitVec.getLsbD_and]
theorem b_xor (x y : Int32) (i : Nat) : bt (x ^^^ y) i = (bt x i ^^ bt y i) := by unfold bt; rw [Int32.toBitVec_xor, BitVec.getLsbD_xor]
theorem b_big {x : Int32} {i : Nat} (h : 32 ≤ i) : bt x i = false := BitVec.getLsbD_of_ge _ _ h
theorem b_255 (i : Nat) : bt 255 i = decide (i < 8) := by
  rcases Nat.lt_or_ge i 32 with h | h
  · exact (by decide +kernel : ∀ i, i < 32 → bt 255 i = decide (i < 8)) i h
  · rw [b_big h, decide_eq_false (by omega)]
theorem b_65535 (i : Nat) : bt 65535 i = decide (i < 16) := by
  rcases Nat.lt_or_ge i 32 with h | h
  · exact (by decide +kernel : ∀ i, i < 32 → bt 65535 i = decide (i < 16)) i h
  · rw [b_big h, decide_eq_false (by omega)]
theorem b_m1 : ∀ i, i < 32 → bt (-1) i = true := by decide +kernel
theorem b_0 (i : Nat) : bt 0 i = false := BitVec.getLsbD_zero
theorem s_l : ∀ n, n < 32 → ((nI n &&& 31).toBitVec.smod 32).toNat = n := by decide +kernel
theorem s_u : ∀ n, n < 32 → (((nI n).toUInt32 &&& Int32.toUInt32 31).toBitVec % 32).toNat = n := by decide +kernel
theorem b_shl (n : Nat) (hn : n < 32) (x : Int32) {i : Nat} (hi : i < 32) : bt (x <<< (nI n &&& 31)) i = (decide (n ≤ i) && bt x (i - n)) := by
  unfold bt
  rw [Int32.toBitVec_shiftLeft]
  show (x.toBitVec <<< ((nI n &&& 31).toBitVec.smod 32).toNat).getLsbD i = _
  rw [s_l n hn, BitVec.getLsbD_shiftLeft]
  rcases Nat.lt_or_ge i n with h | h
  · simp [h, Nat.not_le.mpr h]
  · simp [hi, h, Nat.not_lt.mpr h]
theorem b_ushr (n : Nat) (hn : n < 32) (x : Int32) (i : Nat) : bt ((x.toUInt32 >>> ((nI n).toUInt32 &&& Int32.toUInt32 31)).toInt32) i = bt x (n + i) := by
  show (x.toUInt32 >>> ((nI n).toUInt32 &&& Int32.toUInt32 31)).toBitVec.getLsbD i = x.toUInt32.toBitVec.getLsbD (n + i)
  rw [UInt32.toBitVec_shiftRight]
  show (x.toUInt32.toBitVec >>> (((nI n).toUInt32 &&& Int32.toUInt32 31).toBitVec % 32).toNat).getLsbD i = _
  rw [s_u n hn, BitVec.getLsbD_ushiftRight]
theorem b_sshr (n : Nat) (hn : n < 32) (x : Int32) {i : Nat} (hi : i < 32) : bt (x >>> (nI n &&& 31)) i = if n + i < 32 then bt x (n + i) else bt x 31 := by
  unfold bt
  rw [Int32.toBitVec_shiftRight]
  show (x.toBitVec.sshiftRight ((nI n &&& 31).toBitVec.smod 32).toNat).getLsbD i = _
  rw [s_l n hn, BitVec.getLsbD_sshiftRight, BitVec.msb_eq_getLsbD_last]
  simp [hi]
theorem t_m9 : (-9 : Int32).toInt = -9 := by decide +kernel
theorem t_m8 : (-8 : Int32).toInt = -8 := by decide +kernel
theorem t_m7 : (-7 : Int32).toInt = -7 := by decide +kernel
theorem t_m6 : (-6 : Int32).toInt = -6 := by decide +kernel
theorem t_m5 : (-5 : Int32).toInt = -5 := by decide +kernel
theorem t_m4 : (-4 : Int32).toInt = -4 := by decide +kernel
theorem t_m3 : (-3 : Int32).toInt = -3 := by decide +kernel
theorem t_m2 : (-2 : Int32).toInt = -2 := by decide +kernel
theorem t_m1 : (-1 : Int32).toInt = -1 := by decide +kernel
theorem t_0 : (0 : Int32).toInt = 0 := by decide +kernel
theorem t_1 : (1 : Int32).toInt = 1 := by decide +kernel
theorem t_2 : (2 : Int32).toInt = 2 := by decide +kernel
theorem t_3 : (3 : Int32).toInt = 3 := by decide +kernel
theorem t_4 : (4 : Int32).toInt = 4 := by decide +kernel
theorem t_5 : (5 : Int32).toInt = 5 := by decide +kernel
theorem t_6 : (6 : Int32).toInt = 6 := by decide +kernel
theorem t_7 : (7 : Int32).toInt = 7 := by decide +kernel
theorem t_8 : (8 : Int32).toInt = 8 := by decide +kernel
theorem t_9 : (9 : Int32).toInt = 9 := by decide +kernel
theorem t_10 : (10 : Int32).toInt = 10 := by decide +kernel
theorem t_11 : (11 : Int32).toInt = 11 := by decide +kernel
theorem t_12 : (12 : Int32).toInt = 12 := by decide +kernel
theorem t_13 : (13 : Int32).toInt = 13 := by decide +kernel
theorem t_14 : (14 : Int32).toInt = 14 := by decide +kernel
theorem t_15 : (15 : Int32).toInt = 15 := by decide +kernel
theorem t_16 : (16 : Int32).toInt = 16 := by decide +kernel
theorem t_17 : (17 : Int32).toInt = 17 := by decide +kernel
theorem t_18 : (18 : Int32).toInt = 18 := by decide +kernel
theorem t_19 : (19 : Int32).toInt = 19 := by decide +kernel
theorem t_20 : (20 : Int32).toInt = 20 := by decide +kernel
theorem t_21 : (21 : Int32).toInt = 21 := by decide +kernel
theorem t_22 : (22 : Int32).toInt = 22 := by decide +kernel
theorem t_23 : (23 : Int32).toInt = 23 := by decide +kernel
theorem t_31 : (31 : Int32).toInt = 31 := by decide +kernel
theorem t_33 : (33 : Int32).toInt = 33 := by decide +kernel
theorem t_43 : (43 : Int32).toInt = 43 := by decide +kernel
theorem t_45 : (45 : Int32).toInt = 45 := by decide +kernel
theorem t_48 : (48 : Int32).toInt = 48 := by decide +kernel
theorem t_49 : (49 : Int32).toInt = 49 := by decide +kernel
theorem t_57 : (57 : Int32).toInt = 57 := by decide +kernel
theorem t_59 : (59 : Int32).toInt = 59 := by decide +kernel
theorem t_60 : (60 : Int32).toInt = 60 := by decide +kernel
theorem t_63 : (63 : Int32).toInt = 63 := by decide +kernel
theorem t_72 : (72 : Int32).toInt = 72 := by decide +kernel
theorem t_74 : (74 : Int32).toInt = 74 := by decide +kernel
theorem t_75 : (75 : Int32).toInt = 75 := by decide +kernel
theorem t_97 : (97 : Int32).toInt = 97 := by decide +kernel
theorem t_99 : (99 : Int32).toInt = 99 := by decide +kernel
theorem t_100 : (100 : Int32).toInt = 100 := by decide +kernel
theorem t_103 : (103 : Int32).toInt = 103 := by decide +kernel
theorem t_126 : (126 : Int32).toInt = 126 := by decide +kernel
theorem t_128 : (128 : Int32).toInt = 128 := by decide +kernel
theorem t_144 : (144 : Int32).toInt = 144 := by decide +kernel
theorem t_9999 : (9999 : Int32).toInt = 9999 := by decide +kernel
theorem t_10000 : (10000 : Int32).toInt = 10000 := by decide +kernel
theorem t_5040 : (5040 : Int32).toInt = 5040 := by decide +kernel
theorem t_65537 : (65537 : Int32).toInt = 65537 := by decide +kernel
theorem i_le {a b : Int32} : a ≤ b ↔ a.toInt ≤ b.toInt := Int32.le_iff_toInt_le
theorem i_lt {a b : Int32} : a < b ↔ a.toInt < b.toInt := Int32.lt_iff_toInt_lt
theorem i_eq {a b : Int32} : a = b ↔ a.toInt = b.toInt := Int32.toInt_inj.symm
theorem n_le {a b : Int32} : ¬ a ≤ b ↔ b < a := by rw [i_le, i_lt]; omega
theorem n_lt {a b : Int32} : ¬ a < b ↔ b ≤ a := by rw [i_le, i_lt]; omega
theorem b_one : ∀ i, i < 32 → bt 1 i = decide (i = 0) := by decide +kernel
theorem b_tst {m : Int32} {d : Nat} (hd : d < 32) : ((m >>> (nI d &&& 31)) &&& 1) = if bt m d then 1 else 0 := by
  apply b_ext
  intro i hi
  rw [b_and, b_sshr d hd m hi, b_one i hi]
  by_cases h0 : i = 0
  · subst h0
    simp only [Nat.add_zero, hd, if_true, decide_true, Bool.and_true]
    cases h : bt m d
    · simp [b_0]
    · simp [b_one 0 (by omega)]
  · simp only [h0, decide_false, Bool.and_false]
    cases h : bt m d
    · simp [b_0]
    · simp [b_one i hi, h0]
theorem b_tst0 {m : Int32} {d : Nat} (hd : d < 32) : ((m >>> (nI d &&& 31)) &&& 1) = 0 ↔ bt m d = false := by
  rw [b_tst hd]; cases bt m d <;> simp
theorem b_tst1 {m : Int32} {d : Nat} (hd : d < 32) : ((m >>> (nI d &&& 31)) &&& 1) = 1 ↔ bt m d = true := by
  rw [b_tst hd]; cases bt m d <;> simp
theorem b_bit {d i : Nat} (hd : d < 32) (hi : i < 32) : bt ((1 : Int32) <<< (nI d &&& 31)) i = decide (i = d) := by
  rw [b_shl d hd 1 hi, b_one (i - d) (by omega)]
  by_cases h : i = d
  · subst h; simp
  · by_cases h2 : d ≤ i
    · have h3 : ¬ (i - d = 0) := by omega
      simp [h, h3]
    · simp [h, h2]
theorem b_set {m : Int32} {d i : Nat} (hd : d < 32) (hi : i < 32) : bt (m ||| ((1 : Int32) <<< (nI d &&& 31))) i = (bt m i || decide (i = d)) := by
  rw [b_or, b_bit hd hi]
theorem b_dis {f m : Int32} : f &&& m = 0 ↔ ∀ e, e < 32 → ¬ (bt f e = true ∧ bt m e = true) := by
  constructor
  · intro h e he ⟨h1, h2⟩
    have h3 := b_and f m e
    rw [h, b_0, h1, h2] at h3
    simp at h3
  · intro h
    apply b_ext
    intro i hi
    rw [b_and, b_0]
    have h1 := h i hi
    cases hf : bt f i <;> cases hm : bt m i <;> simp_all
theorem c_nI {k : Nat} (h : k < 64) : (nI k).toNatClampNeg = k := nI_clamp (by omega)
theorem v_in {k N : Nat} (h : k < N) (hN : N < 1000) : vp_in (nI k) N := vp_in_nI h (by omega)
/-- a number that tells one of n -/
def isD (n : Nat) (d : Int32) : Prop := ∃ j : Nat, j < n ∧ d = nI j
theorem isD_iff {n : Nat} (hn : n < 1000) {d : Int32} : isD n d ↔ 0 ≤ d ∧ d < nI n := by
  constructor
  · rintro ⟨j, hj, rfl⟩
    exact ⟨nI_pos' (by omega), nI_lt hj (by omega)⟩
  · rintro ⟨h1, h2⟩
    rcases pk_ix d (n := n) (by omega) with h | h | h
    · exact absurd h1 (n_le.mpr h)
    · exact absurd h2 (n_lt.mpr h)
    · exact h
theorem u_s {f : Nat → Int32} {k : Nat} {x : Int32} : upd f k x k = x := pk_us
theorem u_n {f : Nat → Int32} {k j : Nat} {x : Int32} (h : j ≠ k) : upd f k x j = f j := pk_un h
/-! small methods -/
theorem s_X9_has {n : Nat} (hn : n < 1000) {d : Int32} {post : Int32 → Prop} (h1 : isD n d → post 1) (h0 : ¬ isD n d → post 0) : wp_X9_has (nI n) d post := by
  unfold wp_X9_has
  rw [isD_iff hn] at h1 h0
  refine ⟨fun a => h0 (fun b => n_lt.mpr b.1 a), fun a => ⟨fun b => h0 (fun q => n_lt.mpr b q.2), fun b => h1 ⟨n_lt.mp a, n_le.mp b⟩⟩⟩
theorem s_X11_isWithin {a b : Int32} {post : Int32 → Prop} (h1 : 0 ≤ a ∧ a ≤ b → post 1) (h0 : ¬ (0 ≤ a ∧ a ≤ b) → post 0) : wp_X11_isWithin a b post := by
  unfold wp_X11_isWithin
  exact ⟨fun x => h0 (fun y => n_lt.mpr y.1 x), fun x => ⟨fun y => h0 (fun q => n_lt.mpr q.2 y), fun y => h1 ⟨n_lt.mp x, n_lt.mp y⟩⟩⟩
theorem s_X12_in {a lo_ hi : Int32} {post : Int32 → Prop} (h1 : lo_ ≤ a ∧ a ≤ hi → post 1) (h0 : ¬ (lo_ ≤ a ∧ a ≤ hi) → post 0) : wp_X12_in a lo_ hi post := by
  unfold wp_X12_in
  exact ⟨fun x => h0 (fun y => n_lt.mpr y.1 x), fun x => ⟨fun y => h0 (fun q => n_lt.mpr q.2 y), fun y => h1 ⟨n_lt.mp x, n_lt.mp y⟩⟩⟩
def liv (l r : Int32) : Prop := (0 ≤ l ∧ l ≤ 20) ∧ (0 ≤ r ∧ r ≤ 20)
theorem s_X11_areLivers {l r : Int32} {post : Int32 → Prop} (h1 : liv l r → post 1) (h0 : ¬ liv l r → post 0) : wp_X11_areLivers l r post := by
  unfold wp_X11_areLivers
  refine s_X11_isWithin (fun a => ⟨fun h => absurd h (by decide), fun _ => ?_⟩) (fun a => ⟨fun _ => h0 (fun q => a q.1), fun h => absurd rfl h⟩)
  exact s_X11_isWithin (fun b => ⟨fun h => absurd h (by decide), fun _ => h1 ⟨a, b⟩⟩) (fun b => ⟨fun _ => h0 (fun q => b q.2), fun h => absurd rfl h⟩)
theorem s_X12_areLivers {l r : Int32} {post : Int32 → Prop} (h1 : liv l r → post 1) (h0 : ¬ liv l r → post 0) : wp_X12_areLivers l r post := by
  unfold wp_X12_areLivers
  refine s_X12_in (fun a => ⟨fun h => absurd h (by decide), fun _ => ?_⟩) (fun a => ⟨fun _ => h0 (fun q => a q.1), fun h => absurd rfl h⟩)
  exact s_X12_in (fun b => ⟨fun h => absurd h (by decide), fun _ => h1 ⟨a, b⟩⟩) (fun b => ⟨fun _ => h0 (fun q => b q.2), fun h => absurd rfl h⟩)
theorem s_X12_isDog {n : Nat} (hn : n < 1000) {d : Int32} {post : Int32 → Prop} (h1 : isD n d → post 1) (h0 : ¬ isD n d → post 0) : wp_X12_isDog (nI n) d post := by
  unfold wp_X12_isDog
  have e : (0 ≤ d ∧ d ≤ nI n - 1) ↔ isD n d := by
    rw [isD_iff hn, i_le, i_le, i_lt]
    have h2 : (nI n - 1).toInt = (n : Int) - 1 := pk_sub_toInt (a := n) (b := 1) (by omega) (by omega)
    rw [h2, nI_toInt (by omega)]
    omega
  exact s_X12_in (fun a => ⟨Or.inr rfl, h1 (e.mp a)⟩) (fun a => ⟨Or.inl rfl, h0 (fun q => a (e.mpr q))⟩)
theorem s_X9_isDead {h : Nat → Int32} {j : Nat} (hj : j < 7) {post : Int32 → Prop} (h1 : h j = 0 → post 1) (h0 : ¬ h j = 0 → post 0) : wp_X9_isDead h (nI j) post := by
  unfold wp_X9_isDead
  rw [c_nI (by omega)]
  exact ⟨v_in hj (by omega), fun a => h0 a, fun a => h1 a⟩
theorem s_X9_isTold {u : Int32} {j : Nat} (hj : j < 7) {post : Int32 → Prop} (h1 : bt u j = false → post 1) (h0 : bt u j = true → post 0) : wp_X9_isTold u (nI j) post := by
  unfold wp_X9_isTold
  rw [b_tst0 (by omega)]
  exact ⟨fun a => h0 (by simpa using a), fun a => h1 a⟩
theorem s_X12_has {u : Int32} {j : Nat} (hj : j < 32) {post : Int32 → Prop} (h1 : bt u j = true → post 1) (h0 : bt u j = false → post 0) : wp_X12_has u (nI j) post := by
  unfold wp_X12_has
  rw [b_tst1 (by omega)]
  exact ⟨fun a => h0 (by simpa using a), fun a => h1 a⟩
theorem s_X11_heirTold {a : Int32} {post : Int32 → Prop} (h : post (if a = -1 then -6 else a)) : wp_X11_heirTold a post := by
  unfold wp_X11_heirTold
  by_cases e : a = -1
  · rw [if_pos e] at h; exact ⟨fun q => absurd e q, fun _ => h⟩
  · rw [if_neg e] at h; exact ⟨fun _ => h, fun q => absurd q e⟩
