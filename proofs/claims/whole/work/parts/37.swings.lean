theorem bt_nI {t : Nat} (ht : t < 2 ^ 32) (i : Nat) : bt (nI t) i = t.testBit i := by
  unfold bt
  show (BitVec.ofNat 32 t).getLsbD i = t.testBit i
  rw [BitVec.getLsbD_ofNat]
  by_cases h : i < 32
  · simp [h]
  · have h2 : t.testBit i = false := Nat.testBit_lt_two_pow (Nat.lt_of_lt_of_le ht (Nat.pow_le_pow_right (by omega) (by omega)))
    simp [h, h2]
theorem m_small {m : Int32} {n : Nat} (hn : n ≤ 30) (h : ∀ e, n ≤ e → e < 32 → bt m e = false) : ∃ t, t < 2 ^ n ∧ m = nI t := by
  refine ⟨m.toBitVec.toNat, ?_, ?_⟩
  · refine Nat.lt_pow_two_of_testBit _ (fun i hi => ?_)
    rw [BitVec.testBit_toNat]
    by_cases q : i < 32
    · exact h i hi q
    · exact b_big (x := m) (by omega)
  · apply b_ext
    intro i hi
    rw [bt_nI (by omega), BitVec.testBit_toNat]
    rfl
theorem p2_all : ∀ n, n < 8 → ((1 : Int32) <<< (nI n &&& 31)) = nI (2 ^ n) := by decide +kernel
def bc1 (a : Int32) : Int32 := (((a - ((((a).toUInt32 >>> (((1 : Int32)).toUInt32 &&& Int32.toUInt32 31)).toInt32) &&& (1431655765 : Int32))) &&& (858993459 : Int32)) + (((((a - ((((a).toUInt32 >>> (((1 : Int32)).toUInt32 &&& Int32.toUInt32 31)).toInt32) &&& (1431655765 : Int32)))).toUInt32 >>> (((2 : Int32)).toUInt32 &&& Int32.toUInt32 31)).toInt32) &&& (858993459 : Int32)))
def bc2 (y : Int32) : Int32 := (((y + (((y).toUInt32 >>> (((4 : Int32)).toUInt32 &&& Int32.toUInt32 31)).toInt32)) &&& (252645135 : Int32)) + (((((y + (((y).toUInt32 >>> (((4 : Int32)).toUInt32 &&& Int32.toUInt32 31)).toInt32)) &&& (252645135 : Int32))).toUInt32 >>> (((8 : Int32)).toUInt32 &&& Int32.toUInt32 31)).toInt32))
def bc3 (y : Int32) : Int32 := ((y + (((y).toUInt32 >>> (((16 : Int32)).toUInt32 &&& Int32.toUInt32 31)).toInt32)) &&& (63 : Int32))
theorem bc_all : ∀ t, t < 128 → bc3 (bc2 (bc1 (nI t))) = nI (cnt (fun i => bt (nI t) i) 7) := by decide +kernel
theorem s_bitCount {m : Int32} (h : ∀ e, 7 ≤ e → e < 32 → bt m e = false) {post : Int32 → Prop} (hp : post (nI (cnt (bt m) 7))) : wp_J6_bitCount_0f7a4 m post := by
  obtain ⟨t, ht, rfl⟩ := m_small (n := 7) (by omega) h
  unfold wp_J6_bitCount_0f7a4
  rintro y1 h1 y2 h2
  have e1 : y1 = bc1 (nI t) := h1
  have e2 : y2 = bc2 y1 := h2
  show post (bc3 y2)
  rw [e2, e1, bc_all t ht]
  exact hp
theorem s_X12_bits {m : Int32} {post : Int32 → Prop} (hp : post (nI (cnt (bt m) 7))) : wp_X12_bits m post := by
  unfold wp_X12_bits
  refine lofE2_1 7 (by omega) rfl (fun k s => s = nI (cnt (bt m) k)) ?_ ?_ _ rfl
  · rintro s rfl; exact hp
  · rintro k s again hk rfl hag
    rw [b_tst (by omega)]
    refine hag _ ?_
    rw [cnt]
    cases bt m k
    · simp
    · simp [nI_1]
theorem fac_all : ∀ j, j < 8 → 2 ≤ j → facI (j - 1) * nI j = facI j := by decide +kernel
theorem s_X11_factorial {k : Nat} (hk : k ≤ 7) {post : Int32 → Prop} (hp : post (facI k)) : wp_X11_factorial (nI k) post := by
  unfold wp_X11_factorial
  rw [c_nI (by omega)]
  exact ⟨fun a => absurd a (nI_pos (by omega)), fun _ => ⟨fun a => absurd a (nI_ge (b := 8) (by omega) (by decide)), fun _ => ⟨v_in (by omega) (by omega), hp⟩⟩⟩
theorem s_X12_factorial {k : Nat} (hk : k ≤ 7) {post : Int32 → Prop} (hp : post (facI k)) : wp_X12_factorial (nI k) post := by
  unfold wp_X12_factorial
  refine lop2 (I := fun x y => ∃ j, 2 ≤ j ∧ (j ≤ k + 1 ∨ j = 2) ∧ y = nI j ∧ x = facI (j - 1)) (fun _ y => 100 - y.toNatClampNeg) ?_ _ _ ⟨2, by omega, by omega, rfl, rfl⟩
  rintro x y again ⟨j, h2, hj, rfl, rfl⟩ hag
  refine ⟨fun a => ?_, fun a => ?_⟩
  · have h3 : k < j := (nI_ltI (by omega) (by omega)).mp a
    have e : facI (j - 1) = facI k := by
      rcases hj with q | q
      · rw [show j - 1 = k by omega]
      · subst q
        rcases (show k = 0 ∨ k = 1 by omega) with rfl | rfl <;> rfl
    rw [e]; exact hp
  · have h3 : ¬ k < j := fun q => a (nI_lt q (by omega))
    refine hag _ _ ⟨j + 1, by omega, by omega, nI_1 j, ?_⟩ ?_
    · rw [fac_all j (by omega) h2]; rfl
    · show 100 - (nI j + 1).toNatClampNeg < 100 - (nI j).toNatClampNeg
      rw [nI_1, c_nI (by omega), c_nI (by omega)]; omega
/-! sums of HALVES over a set, and over all -/
def sm (h : Nat → Int32) (m : Int32) : Nat → Int32
  | 0 => 0
  | k + 1 => if bt m k then sm h m k + h k else sm h m k
def al (h : Nat → Int32) : Nat → Int32
  | 0 => 0
  | k + 1 => al h k + h k
theorem s_X9_halvesOf {n : Nat} (hn : n ≤ 7) {h : Nat → Int32} {m : Int32} {post : Int32 → Prop} (hp : post (sm h m n)) : wp_X9_halvesOf (nI n) h m post := by
  unfold wp_X9_halvesOf
  refine lofE2_1 n (by omega) rfl (fun k s => s = sm h m k) ?_ ?_ _ rfl
  · rintro s rfl; exact hp
  · rintro k s again hk rfl hag
    rw [b_tst1 (by omega), c_nI (by omega)]
    refine ⟨fun a => hag _ ?_, fun a => ⟨v_in (by omega) (by omega), hag _ ?_⟩⟩
    · rw [sm, if_neg a]
    · rw [sm, if_pos a]
theorem s_X12_sumOf {n : Nat} (hn : n ≤ 7) {h : Nat → Int32} {m : Int32} {post : Int32 → Prop} (hp : post (sm h m n)) : wp_X12_sumOf (nI n) h m post := by
  unfold wp_X12_sumOf
  refine lofE2_1 n (by omega) rfl (fun k s => s = sm h m k) ?_ ?_ _ rfl
  · rintro s rfl; exact hp
  · rintro k s again hk rfl hag
    rw [c_nI (by omega)]
    refine s_X12_has (by omega) (fun a => jn_in ⟨fun e => absurd e (by decide), fun _ => ⟨v_in (by omega) (by omega), hag _ ?_⟩⟩) (fun a => jn_in ⟨fun _ => hag _ ?_, fun e => absurd rfl e⟩)
    · rw [sm, if_pos a]
    · rw [sm, a]; simp
theorem s_X12_allHalves {n : Nat} (hn : n ≤ 7) {h : Nat → Int32} {post : Int32 → Prop} (hp : post (al h n)) : wp_X12_allHalves (nI n) h post := by
  unfold wp_X12_allHalves
  refine lofE2_1 n (by omega) rfl (fun k s => s = al h k) ?_ ?_ _ rfl
  · rintro s rfl; exact hp
  · rintro k s again hk rfl hag
    rw [c_nI (by omega)]
    exact ⟨v_in (by omega) (by omega), hag _ rfl⟩
def isLv (n : Nat) (h : Nat → Int32) (m : Int32) : Prop := ∀ e, e < 32 → (bt m e = true ↔ e < n ∧ ¬ h e = 0)
def isDd (n : Nat) (h : Nat → Int32) (m : Int32) : Prop := ∀ e, e < 32 → (bt m e = true ↔ e < n ∧ h e = 0)
theorem isLv_one {n : Nat} {h : Nat → Int32} {m m2 : Int32} (h1 : isLv n h m) (h2 : isLv n h m2) : m = m2 := by
  apply b_ext
  intro i hi
  have a := h1 i hi
  have b := h2 i hi
  cases q : bt m i <;> cases r : bt m2 i <;> simp_all
theorem s_X9_living {n : Nat} (hn : n ≤ 7) {h : Nat → Int32} {post : Int32 → Prop} (hp : ∀ m, isLv n h m → post m) : wp_X9_living (nI n) h post := by
  unfold wp_X9_living
  refine lofE2_1 n (by omega) rfl (fun k m => ∀ e, e < 32 → (bt m e = true ↔ e < k ∧ ¬ h e = 0)) (fun m hm => hp m hm) ?_ _ (fun e _ => by rw [b_0]; simp)
  intro k m again hk hm hag
  refine s_X9_isDead (by omega) (fun a => ⟨fun _ => hag _ (fun e he => ?_), fun z => absurd z (by decide)⟩) (fun a => ⟨fun z => absurd rfl z, fun _ => hag _ (fun e he => ?_)⟩)
  · rw [hm e he]
    constructor
    · rintro ⟨q, r⟩; exact ⟨by omega, r⟩
    · rintro ⟨q, r⟩
      refine ⟨?_, r⟩
      by_cases z : e = k
      · subst z; exact absurd a r
      · omega
  · rw [b_set (by omega) he]
    by_cases z : e = k
    · subst z; simp [a]
    · simp only [z, decide_false, Bool.or_false, hm e he]
      constructor
      · rintro ⟨q, r⟩; exact ⟨by omega, r⟩
      · rintro ⟨q, r⟩; exact ⟨by omega, r⟩
theorem s_X12_dead {n : Nat} (hn : n ≤ 7) {h : Nat → Int32} {post : Int32 → Prop} (hp : ∀ m, isDd n h m → post m) : wp_X12_dead (nI n) h post := by
  unfold wp_X12_dead
  refine lofE2_1 n (by omega) rfl (fun k m => ∀ e, e < 32 → (bt m e = true ↔ e < k ∧ h e = 0)) (fun m hm => hp m hm) ?_ _ (fun e _ => by rw [b_0]; simp)
  intro k m again hk hm hag
  rw [c_nI (by omega)]
  refine ⟨v_in (by omega) (by omega), jn_in ⟨fun a => hag _ (fun e he => ?_), fun a => hag _ (fun e he => ?_)⟩⟩
  · rw [b_or, b_0, Bool.or_false, hm e he]
    constructor
    · rintro ⟨q, r⟩; exact ⟨by omega, r⟩
    · rintro ⟨q, r⟩
      refine ⟨?_, r⟩
      by_cases z : e = k
      · subst z; exact absurd r a
      · omega
  · rw [b_set (by omega) he]
    by_cases z : e = k
    · subst z; simp [a]
    · simp only [z, decide_false, Bool.or_false, hm e he]
      constructor
      · rintro ⟨q, r⟩; exact ⟨by omega, r⟩
      · rintro ⟨q, r⟩; exact ⟨by omega, r⟩
theorem sm_al {n : Nat} (hn : n ≤ 7) {h : Nat → Int32} {m : Int32} (hm : isLv n h m) : ∀ k, k ≤ n → sm h m k = al h k
  | 0, _ => rfl
  | k + 1, hk => by
    have ih := sm_al hn hm k (by omega)
    rw [sm, al, ih]
    by_cases q : h k = 0
    · have e : bt m k = false := by
        have a := hm k (by omega)
        cases r : bt m k
        · rfl
        · exact absurd q (a.mp r).2
      rw [e, q]; simp
    · rw [(hm k (by omega)).mpr ⟨by omega, q⟩]; rfl
theorem sm_set {h : Nat → Int32} {m : Int32} {j : Nat} (hj : j < 32) (hm : bt m j = false) : ∀ k, k ≤ 32 → sm h (m ||| ((1 : Int32) <<< (nI j &&& 31))) k = if j < k then sm h m k + h j else sm h m k
  | 0, _ => by simp [sm]
  | k + 1, hk => by
    have ih := sm_set (h := h) hj hm k (by omega)
    rw [sm, sm, ih, b_set hj (by omega)]
    by_cases q : k = j
    · subst q
      simp [hm]
    · have e : decide (k = j) = false := by simp [q]
      rw [e, Bool.or_false]
      by_cases r : j < k
      · have r2 : j < k + 1 := by omega
        simp only [r, r2, if_true]
        cases bt m k
        · simp
        · simp only [if_true]; grind
      · have r2 : ¬ j < k + 1 := by omega
        simp only [r, r2, if_false]
theorem sm_congr {h h2 : Nat → Int32} {m : Int32} : ∀ k, (∀ i, i < k → h i = h2 i) → sm h m k = sm h2 m k
  | 0, _ => rfl
  | k + 1, hh => by rw [sm, sm, sm_congr k (fun i hi => hh i (by omega)), hh k (by omega)]
theorem al_congr {h h2 : Nat → Int32} : ∀ k, (∀ i, i < k → h i = h2 i) → al h k = al h2 k
  | 0, _ => rfl
  | k + 1, hh => by rw [al, al, al_congr k (fun i hi => hh i (by omega)), hh k (by omega)]
/-- the sets of others with which DOG j decides -/
def Dec (n : Nat) (h : Nat → Int32) (j t : Nat) : Prop := (∀ e, e < n → t.testBit e = true → ¬ h e = 0 ∧ e ≠ j) ∧ ¬ al h n < 2 * sm h (nI t) n ∧ ¬ 2 * (sm h (nI t) n + h j) ≤ al h n
def smT (f : Nat → Int32) : Nat → Int32
  | 0 => 0
  | k + 1 => smT f k + f k
theorem not_b {m : Int32} {i : Nat} (hi : i < 32) : bt (m ^^^ (-1)) i = !bt m i := by
  rw [b_xor, b_m1 i hi]; cases bt m i <;> rfl
theorem oth_bit {n : Nat} {h : Nat → Int32} {lv : Int32} (hl : isLv n h lv) {j : Nat} (hj : j < n) (hn : n ≤ 7) {e : Nat} (he : e < 32) : bt (lv &&& (((1 : Int32) <<< (nI j &&& 31)) ^^^ (-1 : Int32))) e = true ↔ (e < n ∧ ¬ h e = 0) ∧ e ≠ j := by
  rw [b_and, not_b he, b_bit (by omega) he, Bool.and_eq_true, hl e he]
  simp
theorem t_hi {n t e : Nat} (ht : t < 2 ^ n) (he : n ≤ e) : t.testBit e = false := Nat.testBit_lt_two_pow (Nat.lt_of_lt_of_le ht (Nat.pow_le_pow_right (by omega) he))
theorem ok_c {n : Nat} {h : Nat → Int32} {lv : Int32} (hl : isLv n h lv) {j t : Nat} (hj : j < n) (hn : n ≤ 7) (ht : t < 2 ^ n) : (nI t &&& ((lv &&& (((1 : Int32) <<< (nI j &&& 31)) ^^^ (-1 : Int32))) ^^^ (-1 : Int32))) = 0 ↔ ∀ e, e < n → t.testBit e = true → ¬ h e = 0 ∧ e ≠ j := by
  have h128 : 2 ^ n ≤ 2 ^ 7 := Nat.pow_le_pow_right (by omega) hn
  rw [b_dis]
  constructor
  · intro q e he hb
    have a := q e (by omega)
    rw [bt_nI (by omega), not_b (by omega), hb] at a
    have b := (oth_bit hl hj hn (e := e) (by omega)).mp (by
      cases z : bt (lv &&& (((1 : Int32) <<< (nI j &&& 31)) ^^^ (-1 : Int32))) e
      · rw [z] at a; simp at a
      · rfl)
    exact ⟨b.1.2, b.2⟩
  · rintro q e he ⟨a, b⟩
    rw [bt_nI (by omega)] at a
    have hen : e < n := by
      rcases Nat.lt_or_ge e n with z | z
      · exact z
      · rw [t_hi ht z] at a; simp at a
    have c := (oth_bit hl hj hn he).mpr ⟨⟨hen, (q e hen a).1⟩, (q e hen a).2⟩
    rw [not_b he, c] at b
    simp at b
theorem ok_m {n : Nat} {h : Nat → Int32} {dd : Int32} (hd : isDd n h dd) {t : Nat} (hn : n ≤ 7) (ht : t < 2 ^ n) : (nI t &&& dd) = 0 ↔ ∀ e, e < n → t.testBit e = true → ¬ h e = 0 := by
  have h128 : 2 ^ n ≤ 2 ^ 7 := Nat.pow_le_pow_right (by omega) hn
  rw [b_dis]
  constructor
  · intro q e he hb z
    exact q e (by omega) ⟨by rw [bt_nI (by omega)]; exact hb, (hd e (by omega)).mpr ⟨he, z⟩⟩
  · rintro q e he ⟨a, b⟩
    rw [bt_nI (by omega)] at a
    have c := (hd e he).mp b
    exact q e c.1 a c.2
theorem s_X2_decides {b o a : Int32} {post : Int32 → Prop} (h1 : ¬ a < 2 * b ∧ ¬ 2 * (b + o) ≤ a → post 1) (h0 : ¬ (¬ a < 2 * b ∧ ¬ 2 * (b + o) ≤ a) → post 0) : wp_X2_decides b o a post := by
  unfold wp_X2_decides
  exact ⟨fun x => h0 (fun y => y.1 x), fun x => ⟨fun y => h0 (fun z => z.2 y), fun y => h1 ⟨x, y⟩⟩⟩
def b2n (b : Bool) : Nat := if b then 1 else 0
theorem cnt_s (p : Nat → Bool) (k : Nat) : cnt p (k + 1) = cnt p k + b2n (p k) := by
  rw [cnt]; unfold b2n; cases p k <;> rfl
theorem cnt_pt {p q r : Nat → Bool} : ∀ k, (∀ i, i < k → b2n (p i) + b2n (q i) = b2n (r i)) → cnt p k + cnt q k = cnt r k
  | 0, _ => rfl
  | k + 1, h => by
    have ih := cnt_pt k (fun i hi => h i (by omega))
    have a := h k (by omega)
    rw [cnt_s, cnt_s, cnt_s]
    omega
theorem cnt_congr {p q : Nat → Bool} : ∀ k, (∀ i, i < k → p i = q i) → cnt p k = cnt q k
  | 0, _ => rfl
  | k + 1, h => by rw [cnt, cnt, cnt_congr k (fun i hi => h i (by omega)), h k (by omega)]
theorem cnt_ltn : ∀ n, n < 8 → cnt (fun i => decide (i < n)) 7 = n := by decide +kernel
theorem cnt_eqj : ∀ j, j < 7 → cnt (fun i => decide (i = j)) 7 = 1 := by decide +kernel
