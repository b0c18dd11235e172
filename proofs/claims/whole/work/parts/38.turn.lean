def cl (n : Nat) (h : Nat → Int32) : Nat := cnt (fun i => decide (i < n) && !decide (h i = 0)) 7
theorem cl_lv {n : Nat} {h : Nat → Int32} {lv : Int32} (hl : isLv n h lv) : cnt (bt lv) 7 = cl n h := by
  refine cnt_congr 7 (fun i hi => ?_)
  have a := hl i (by omega)
  by_cases q : i < n ∧ ¬ h i = 0
  · rw [a.mpr q]; simp [q.1, q.2]
  · have e : bt lv i = false := by
      cases z : bt lv i
      · rfl
      · exact absurd (a.mp z) q
    rw [e]
    by_cases q1 : i < n
    · by_cases q2 : h i = 0
      · simp [q1, q2]
      · exact absurd ⟨q1, q2⟩ q
    · simp [q1]
theorem cl_dd {n : Nat} (hn : n ≤ 7) {h : Nat → Int32} {dd : Int32} (hd : isDd n h dd) : cnt (bt dd) 7 + cl n h = n := by
  have e := cnt_pt (p := bt dd) (q := fun i => decide (i < n) && !decide (h i = 0)) (r := fun i => decide (i < n)) 7 (fun i hi => by
    have a := hd i (by omega)
    by_cases q1 : i < n
    · by_cases q2 : h i = 0
      · rw [a.mpr ⟨q1, q2⟩]; simp [q1, q2, b2n]
      · have e : bt dd i = false := by
          cases z : bt dd i
          · rfl
          · exact absurd (a.mp z).2 q2
        rw [e]; simp [q1, q2, b2n]
    · have e : bt dd i = false := by
        cases z : bt dd i
        · rfl
        · exact absurd (a.mp z).1 q1
      rw [e]; simp [q1, b2n])
  rw [cnt_ltn n (by omega)] at e
  exact e
theorem cl_oth {n : Nat} (hn : n ≤ 7) {h : Nat → Int32} {lv : Int32} (hl : isLv n h lv) {j t : Nat} (hj : j < n) (hh : ¬ h j = 0) (ht : t < 2 ^ n) (hok : ∀ e, e < n → t.testBit e = true → ¬ h e = 0 ∧ e ≠ j) :
    cnt (bt (nI t)) 7 + cnt (bt ((lv &&& (((1 : Int32) <<< (nI j &&& 31)) ^^^ (-1 : Int32))) &&& (nI t ^^^ (-1 : Int32)))) 7 + 1 = cl n h := by
  have h128 : 2 ^ n ≤ 2 ^ 7 := Nat.pow_le_pow_right (by omega) hn
  have e1 := cnt_pt (p := bt (nI t)) (q := bt ((lv &&& (((1 : Int32) <<< (nI j &&& 31)) ^^^ (-1 : Int32))) &&& (nI t ^^^ (-1 : Int32)))) (r := bt (lv &&& (((1 : Int32) <<< (nI j &&& 31)) ^^^ (-1 : Int32)))) 7 (fun i hi => by
    rw [b_and, not_b (by omega)]
    cases z : bt (nI t) i
    · cases bt (lv &&& (((1 : Int32) <<< (nI j &&& 31)) ^^^ (-1 : Int32))) i <;> rfl
    · rw [bt_nI (by omega)] at z
      have hin : i < n := by
        rcases Nat.lt_or_ge i n with y | y
        · exact y
        · rw [t_hi ht y] at z; simp at z
      rw [(oth_bit hl hj hn (by omega)).mpr ⟨⟨hin, (hok i hin z).1⟩, (hok i hin z).2⟩]
      rfl)
  have e2 := cnt_pt (p := bt (lv &&& (((1 : Int32) <<< (nI j &&& 31)) ^^^ (-1 : Int32)))) (q := fun i => decide (i = j)) (r := bt lv) 7 (fun i hi => by
    rw [b_and, not_b (by omega), b_bit (by omega) (by omega)]
    by_cases q : i = j
    · subst q
      rw [(hl i (by omega)).mpr ⟨hj, hh⟩]; simp [b2n]
    · simp [q, b2n])
  rw [cnt_eqj j (by omega)] at e2
  rw [cl_lv hl] at e2
  omega
theorem Dec_alive {n : Nat} {h : Nat → Int32} {j t : Nat} (hd : Dec n h j t) : ¬ h j = 0 := by
  intro e
  have a := hd.2
  rw [e, show sm h (nI t) n + 0 = sm h (nI t) n by simp] at a
  exact a.2 (n_lt.mp a.1)
theorem Dec_congr {n : Nat} {h h2 : Nat → Int32} {j t : Nat} (hj : j < n) (e : ∀ i, i < n → h i = h2 i) : Dec n h j t ↔ Dec n h2 j t := by
  unfold Dec
  rw [al_congr n e, sm_congr n e, e j hj]
  constructor
  · rintro ⟨a, b⟩; exact ⟨fun i hi hb => by rw [← e i hi]; exact a i hi hb, b⟩
  · rintro ⟨a, b⟩; exact ⟨fun i hi hb => by rw [e i hi]; exact a i hi hb, b⟩
theorem cl_congr {n : Nat} {h h2 : Nat → Int32} (e : ∀ i, i < n → h i = h2 i) : cl n h = cl n h2 := by
  refine cnt_congr 7 (fun i hi => ?_)
  by_cases q : i < n
  · rw [e i q]
  · simp [q]
theorem smT_congr {f g : Nat → Int32} : ∀ k, (∀ i, i < k → f i = g i) → smT f k = smT g k
  | 0, _ => rfl
  | k + 1, hh => by rw [smT, smT, smT_congr k (fun i hi => hh i (by omega)), hh k (by omega)]
def dT (n : Nat) (h : Nat → Int32) (P : Nat → Bool) (o : Bool) (t : Nat) : Int32 := if P t then (if o then facI (cnt (bt (nI t)) 7) * facI (cl n h - 1 - cnt (bt (nI t)) 7) else 1) else 0
theorem hi_b {n t : Nat} (hn : n ≤ 7) (ht : t < 2 ^ n) : ∀ e, 7 ≤ e → e < 32 → bt (nI t) e = false := by
  intro e h1 h2
  have h128 : 2 ^ n ≤ 2 ^ 7 := Nat.pow_le_pow_right (by omega) hn
  rw [bt_nI (by omega)]
  exact t_hi ht (by omega)
theorem s_X2_decisions {n j : Nat} (hn : n ≤ 7) (hj : j < n) {h : Nat → Int32} {P : Nat → Bool} (hP : ∀ t, t < 2 ^ n → (P t = true ↔ Dec n h j t)) {o : Bool} {a2 : Int32} (ha : a2 = if o then 1 else 0) {post : Int32 → Prop} (hp : post (smT (dT n h P o) (2 ^ n))) : wp_X2_decisions (nI n) h (nI j) a2 post := by
  have h128 : 2 ^ n ≤ 2 ^ 7 := Nat.pow_le_pow_right (by omega) hn
  unfold wp_X2_decisions
  refine s_X9_living hn (fun lv0 hl0 => s_X9_halvesOf hn (s_X9_living hn (fun lv hl => ?_)))
  rw [sm_al hn hl0 n (Nat.le_refl _)]
  refine lofE2_1 (2 ^ n) (by omega) (p2_all n (by omega)) (fun k s => s = smT (dT n h P o) k) ?_ ?_ _ rfl
  · rintro s rfl; exact hp
  · rintro t s again ht rfl hag
    have hno : ¬ P t = true → again (smT (dT n h P o) t) (nI t + 1) := by
      intro q
      refine hag _ ?_
      rw [smT, dT, if_neg q]; simp
    rw [ok_c hl hj hn ht, c_nI (by omega)]
    refine ⟨fun a => hno (fun z => a ((hP t ht).mp z).1), fun a => s_X9_halvesOf hn ⟨v_in (by omega) (by omega), s_X2_decides (fun b => ⟨fun e => absurd e (by decide), fun _ => jn_in ?_⟩) (fun b => ⟨fun _ => hno (fun z => b ((hP t ht).mp z).2), fun e => absurd rfl e⟩)⟩⟩
    have hD : Dec n h j t := ⟨a, b⟩
    have hPt : P t = true := (hP t ht).mpr hD
    have hc := cl_oth hn hl hj (Dec_alive hD) ht a
    have hc7 : cl n h ≤ 7 := cnt_le _ 7
    refine ⟨fun e => hag _ ?_, fun e => ?_⟩
    · have ho : o = false := by
        cases o
        · rfl
        · rw [ha] at e; exact absurd e (by decide)
      rw [smT, dT, if_pos hPt, ho]; rfl
    · have ho : o = true := by
        cases o
        · rw [ha] at e; exact absurd rfl e
        · rfl
      unfold wp_X2_ordersAround
      refine s_bitCount (hi_b hn ht) (s_X11_factorial (by omega) (s_bitCount ?_ (s_X11_factorial (by omega) (hag _ ?_))))
      · intro e h1 h2
        have hz : bt (lv &&& (((1 : Int32) <<< (nI j &&& 31)) ^^^ (-1 : Int32))) e = false := by
          cases y : bt (lv &&& (((1 : Int32) <<< (nI j &&& 31)) ^^^ (-1 : Int32))) e
          · rfl
          · have := ((oth_bit hl hj hn h2).mp y).1.1; omega
        rw [b_and, hz]; rfl
      · rw [smT, dT, if_pos hPt, ho, if_pos rfl, show cl n h - 1 - cnt (bt (nI t)) 7 = cnt (bt ((lv &&& (((1 : Int32) <<< (nI j &&& 31)) ^^^ (-1 : Int32))) &&& (nI t ^^^ (-1 : Int32)))) 7 by omega]
theorem exP (Q : Nat → Prop) : ∃ p : Nat → Bool, ∀ k, p k = true ↔ Q k := ⟨fun k => @decide (Q k) (Classical.propDecidable _), fun k => @decide_eq_true_iff _ (Classical.propDecidable _)⟩
theorem RR_h {n : Nat} {dogs un mdogs : Int32} {h lk fr he mh mlk mt mfr mhe : Nat → Int32} (H : RR n dogs un h lk fr he mdogs mh mlk mt mfr mhe) : ∀ i, i < n → h i = mh i := fun i hi => (H.2.2.2.1 i hi).1
theorem t_swings {n : Nat} {dogs un mdogs : Int32} {h lk fr he mh mlk mt mfr mhe : Nat → Int32} (H : RR n dogs un h lk fr he mdogs mh mlk mt mfr mhe) {a : Int32} :
    wp_X11_swings dogs h a (fun r => wp_X12_swings mdogs mh a (fun r2 => r = r2)) := by
  have H0 := H
  obtain ⟨hn, rfl, rfl, -, -⟩ := H
  have h128 : 2 ^ n ≤ 2 ^ 7 := Nat.pow_le_pow_right (by omega) hn
  unfold wp_X11_swings
  refine s_X9_has (by omega) (fun q => ⟨fun e => absurd e (by decide), fun _ => ?_⟩) (fun q => ⟨fun _ => ?_, fun e => absurd rfl e⟩)
  · obtain ⟨j, hj, rfl⟩ := q
    obtain ⟨P, hP⟩ := exP (Dec n mh j)
    refine s_X2_decisions (P := P) (o := false) hn hj (fun t _ => (hP t).trans (Dec_congr hj (RR_h H0)).symm) rfl ?_
    unfold wp_X12_swings
    refine s_X12_isDog (by omega) (fun _ => ⟨fun _ => ?_, fun e => absurd e (by decide)⟩) (fun z => absurd ⟨j, hj, rfl⟩ z)
    refine lofE2_1 (2 ^ n) (by omega) (p2_all n (by omega)) (fun k s => s = smT (dT n h P false) k) ?_ ?_ _ rfl
    · rintro s rfl; rfl
    · rintro t s again ht rfl hag
      have hno : ¬ Dec n mh j t → again (smT (dT n h P false) t) (nI t + 1) := by
        intro q
        refine hag _ ?_
        rw [smT, dT, if_neg (fun z => q ((hP t).mp z))]; simp
      have hno0 : ¬ Dec n mh j t → again (smT (dT n h P false) t + 0) (nI t + 1) := by
        intro q; rw [show smT (dT n h P false) t + 0 = smT (dT n h P false) t by simp]; exact hno q
      refine s_X12_has (by omega) (fun b => ⟨fun _ => hno (fun z => ?_), fun e => absurd e (by decide)⟩) (fun b => ⟨fun e => absurd rfl e, fun _ => s_X12_dead hn (fun dd hd => ⟨fun c => hno (fun z => c ((ok_m hd hn ht).mpr (fun e he hb => (z.1 e he hb).1))), fun c => s_X12_sumOf hn (s_X12_allHalves hn (jn_in ?_))⟩)⟩)
      · rw [bt_nI (by omega)] at b
        exact (z.1 j hj b).2 rfl
      · rw [sm_set (by omega) b n (by omega), if_pos hj]
        have c2 := (ok_m hd hn ht).mp c
        rw [bt_nI (by omega)] at b
        have hall : ∀ e, e < n → t.testBit e = true → ¬ mh e = 0 ∧ e ≠ j := fun e he hb => ⟨c2 e he hb, fun z => by rw [z, b] at hb; simp at hb⟩
        refine ⟨fun d => jn_in (jn_in ⟨fun _ => hno0 (fun z => z.2.2 d), fun e => absurd rfl e⟩), fun d => jn_in (jn_in ⟨fun e => absurd e (by decide), fun _ => s_X12_sumOf hn (s_X12_allHalves hn ⟨fun f => hno0 (fun z => z.2.1 f), fun f => hag _ ?_⟩)⟩)⟩
        rw [smT, dT, if_pos ((hP t).mpr ⟨hall, f, d⟩)]; rfl
  · unfold wp_X12_swings
    exact s_X12_isDog (by omega) (fun z => absurd z q) (fun _ => ⟨fun e => absurd rfl e, fun _ => rfl⟩)
/-! the greatest common divisor, by steps that are counted -/
def egc : Nat → Nat → Nat → Nat
  | 0, a, _ => a
  | f + 1, a, b => if b = 0 then a else egc f b (a % b)
theorem egc_0 (f a : Nat) : egc f a 0 = a := by cases f <;> rfl
theorem egc_gcd : ∀ (j f a b : Nat), b < 2 ^ j → 2 * j ≤ f → egc f a b = Nat.gcd a b
  | 0, f, a, b, hb, _ => by
    have e : b = 0 := by simpa using hb
    rw [e, egc_0, Nat.gcd_zero_right]
  | j + 1, f, a, b, hb, hf => by
    obtain ⟨f, rfl⟩ : ∃ g, f = g + 2 := ⟨f - 2, by omega⟩
    by_cases h0 : b = 0
    · rw [h0, egc_0, Nat.gcd_zero_right]
    · rw [egc, if_neg h0]
      have g1 : Nat.gcd a b = Nat.gcd b (a % b) := by rw [Nat.gcd_comm a b, Nat.gcd_rec b a, Nat.gcd_comm]
      rw [g1]
      by_cases h1 : a % b = 0
      · rw [h1, egc_0, Nat.gcd_zero_right]
      · rw [egc, if_neg h1]
        have g2 : Nat.gcd b (a % b) = Nat.gcd (a % b) (b % (a % b)) := by rw [Nat.gcd_comm b, Nat.gcd_rec (a % b) b, Nat.gcd_comm]
        rw [g2]
        refine egc_gcd j f _ _ ?_ (by omega)
        have l1 : a % b < b := Nat.mod_lt _ (by omega)
        have l2 : b % (a % b) < a % b := Nat.mod_lt _ (by omega)
        have l3 : (a % b) * (b / (a % b)) + b % (a % b) = b := Nat.div_add_mod b (a % b)
        have l4 : 1 ≤ b / (a % b) := Nat.div_pos (by omega) (by omega)
        have l5 : (a % b) * 1 ≤ (a % b) * (b / (a % b)) := Nat.mul_le_mul_left _ l4
        rw [Nat.pow_succ] at hb
        omega
theorem s_X2_commonDivisor {a b : Nat} (ha : a < 131072) (hb : b < 131072) {post : Int32 → Prop} (hp : post (nI (Nat.gcd a b))) : wp_X2_commonDivisor (nI a) (nI b) post := by
  unfold wp_X2_commonDivisor
  refine lop3 (I := fun x y z => ∃ c d k, c < 131072 ∧ d < 131072 ∧ k ≤ 64 ∧ x = nI c ∧ y = nI d ∧ z = nI k ∧ egc (64 - k) c d = Nat.gcd a b) (fun _ _ z => 64 - z.toNatClampNeg) ?_ _ _ _ ⟨a, b, 0, ha, hb, by omega, rfl, rfl, rfl, egc_gcd 17 64 a b (by omega) (by omega)⟩
  rintro x y z again ⟨c, d, k, hc, hd, hk, rfl, rfl, rfl, he⟩ hag
  refine ⟨fun p => ?_, fun p => ⟨fun q => ?_, fun q => ⟨fun e => q (by rw [e]; decide), hag _ _ _ ⟨d, c % d, k + 1, hd, ?_, ?_, rfl, ?_, nI_1 k, ?_⟩ ?_⟩⟩⟩
  · have e : k = 64 := by
      have h1 : ¬ k < 64 := fun q => nI_ge (b := 64) q (by decide) p
      omega
    rw [e] at he
    have : c = Nat.gcd a b := he
    rw [this]; exact hp
  · have e : d = 0 := by
      rw [i_le, nI_toInt (by omega), t_0] at q; omega
    rw [e, egc_0] at he
    rw [he]; exact hp
  · have h1 : 0 < d := by
      rw [i_le, nI_toInt (by omega), t_0] at q; omega
    have := Nat.mod_lt c h1
    omega
  · have h1 : k < 64 := by
      rcases Nat.lt_or_ge k 64 with z | z
      · exact z
      · exact absurd (nI_le (a := 64) z (by omega)) p
    omega
  · have h1 : 0 < d := by
      rw [i_le, nI_toInt (by omega), t_0] at q; omega
    exact pk_rem (by omega) h1 (by omega)
  · have h1 : 0 < d := by
      rw [i_le, nI_toInt (by omega), t_0] at q; omega
    have h2 : k < 64 := by
      rcases Nat.lt_or_ge k 64 with z | z
      · exact z
      · exact absurd (nI_le (a := 64) z (by omega)) p
    rw [show 64 - k = (64 - (k + 1)) + 1 by omega, egc, if_neg (by omega)] at he
    exact he
  · have h2 : k < 64 := by
      rcases Nat.lt_or_ge k 64 with z | z
      · exact z
      · exact absurd (nI_le (a := 64) z (by omega)) p
    show 64 - (nI k + 1).toNatClampNeg < 64 - (nI k).toNatClampNeg
    rw [nI_1, nI_clamp (by omega), nI_clamp (by omega)]
    omega
theorem fac_prod : ∀ a, a < 7 → ∀ b, b < 7 → a + b ≤ 6 → 0 ≤ (facI a * facI b).toInt ∧ (facI a * facI b).toInt ≤ 720 := by decide +kernel
theorem fac_rng : ∀ a, a < 8 → 1 ≤ (facI a).toInt ∧ (facI a).toInt ≤ 5040 := by decide +kernel
theorem nI_of_rng {x : Int32} {m : Nat} (hm : m < 2 ^ 31) (h : 0 ≤ x.toInt) (h2 : x.toInt ≤ m) : ∃ v, v ≤ m ∧ x = nI v := by
  refine ⟨x.toInt.toNat, by omega, i_eq.mpr ?_⟩
  rw [nI_toInt (by omega)]
  omega
theorem smT_rng {f : Nat → Int32} : ∀ k, k ≤ 128 → (∀ t, t < k → ∃ v, v ≤ 720 ∧ f t = nI v) → ∃ u, u ≤ 720 * k ∧ smT f k = nI u
  | 0, _, _ => ⟨0, by omega, rfl⟩
  | k + 1, hk, h => by
    obtain ⟨u, hu, e⟩ := smT_rng k (by omega) (fun t ht => h t (by omega))
    obtain ⟨v, hv, e2⟩ := h k (by omega)
    exact ⟨u + v, by omega, by rw [smT, e, e2, nI_add]⟩
theorem dT_rng {n j : Nat} (hn : n ≤ 7) (hj : j < n) {h : Nat → Int32} {P : Nat → Bool} (hP : ∀ t, t < 2 ^ n → (P t = true ↔ Dec n h j t)) (lv : Int32) (hl : isLv n h lv) (t : Nat) (ht : t < 2 ^ n) : ∃ v, v ≤ 720 ∧ dT n h P true t = nI v := by
  unfold dT
  by_cases q : P t = true
  · have hD := (hP t ht).mp q
    have hc := cl_oth hn hl hj (Dec_alive hD) ht hD.1
    have hc7 : cl n h ≤ 7 := cnt_le _ 7
    rw [if_pos q, if_pos rfl]
    obtain ⟨a, b⟩ := fac_prod (cnt (bt (nI t)) 7) (by omega) (cl n h - 1 - cnt (bt (nI t)) 7) (by omega) (by omega)
    exact nI_of_rng (by omega) a b
  · rw [if_neg q]; exact ⟨0, by omega, rfl⟩
theorem lv_ex {n : Nat} (hn : n ≤ 7) (h : Nat → Int32) : ∃ lv, isLv n h lv := by
  have : ∀ k, k ≤ n → ∃ m : Int32, ∀ e, e < 32 → (bt m e = true ↔ e < k ∧ ¬ h e = 0) := by
    intro k
    induction k with
    | zero => intro _; exact ⟨0, fun e _ => by rw [b_0]; simp⟩
    | succ k ih =>
      intro hk
      obtain ⟨m, hm⟩ := ih (by omega)
      by_cases a : h k = 0
      · refine ⟨m, fun e he => ?_⟩
        rw [hm e he]
        constructor
        · rintro ⟨q, r⟩; exact ⟨by omega, r⟩
        · rintro ⟨q, r⟩
          refine ⟨?_, r⟩
          by_cases z : e = k
          · subst z; exact absurd a r
          · omega
      · refine ⟨m ||| ((1 : Int32) <<< (nI k &&& 31)), fun e he => ?_⟩
        rw [b_set (by omega) he]
        by_cases z : e = k
        · subst z; simp [a]
        · simp only [z, decide_false, Bool.or_false, hm e he]
          constructor
          · rintro ⟨q, r⟩; exact ⟨by omega, r⟩
          · rintro ⟨q, r⟩; exact ⟨by omega, r⟩
  exact this n (Nat.le_refl _)
theorem t_turn {n : Nat} {dogs un mdogs : Int32} {h lk fr he mh mlk mt mfr mhe : Nat → Int32} (H : RR n dogs un h lk fr he mdogs mh mlk mt mfr mhe) {a b : Int32} :
    wp_X11_turn dogs h a b (fun r => wp_X12_turn mdogs mh a b (fun r2 => r = r2)) := by
  have H0 := H
  obtain ⟨hn, rfl, rfl, -, -⟩ := H
  have h128 : 2 ^ n ≤ 2 ^ 7 := Nat.pow_le_pow_right (by omega) hn
  have hcl := cl_congr (RR_h H0)
  have hc7 : cl n mh ≤ 7 := cnt_le _ 7
  unfold wp_X11_turn
  refine s_X9_has (by omega) (fun q => ⟨fun _ => s_X11_isWithin (fun q2 => ⟨fun _ => ?_, fun e => absurd e (by decide)⟩) (fun q2 => ⟨fun e => absurd rfl e, fun _ => ?_⟩), fun e => absurd e (by decide)⟩) (fun q => ⟨fun e => absurd rfl e, fun _ => ?_⟩)
  · obtain ⟨j, hj, rfl⟩ := q
    obtain ⟨P, hP⟩ := exP (Dec n mh j)
    obtain ⟨lv0, hlv0⟩ := lv_ex hn mh
    have hPh : ∀ t, t < 2 ^ n → (P t = true ↔ Dec n h j t) := fun t _ => (hP t).trans (Dec_congr hj (RR_h H0)).symm
    have hdT : smT (dT n h P true) (2 ^ n) = smT (dT n mh P true) (2 ^ n) := smT_congr _ (fun t _ => by unfold dT; rw [hcl])
    obtain ⟨u, hu, eu⟩ := smT_rng (f := dT n mh P true) (2 ^ n) (by omega) (fun t ht => dT_rng hn hj (fun t _ => hP t) lv0 hlv0 t ht)
    obtain ⟨f1, f2⟩ := fac_rng (cl n mh) (by omega)
    obtain ⟨w, hw, ew⟩ := nI_of_rng (x := facI (cl n mh)) (m := 5040) (by omega) (by omega) f2
    have hw1 : 1 ≤ w := by rw [ew, nI_toInt (by omega)] at f1; omega
    have hg1 : 1 ≤ Nat.gcd w u := Nat.gcd_pos_of_pos_left _ (by omega)
    have hg2 : Nat.gcd w u ≤ w := Nat.gcd_le_left _ (by omega)
    refine s_X2_decisions (P := P) (o := true) hn hj hPh rfl (s_X9_living hn (fun lv hl => s_bitCount ?_ ?_))
    · intro e h1 h2
      cases z : bt lv e
      · rfl
      · have := ((hl e h2).mp z).1; omega
    rw [cl_lv hl, hcl, hdT, eu]
    refine s_X11_factorial hc7 ?_
    rw [ew]
    refine s_X2_commonDivisor (by omega) (by omega) (jn_in ?_)
    have hmax : (if (1 : Int32) < nI (Nat.gcd w u) then nI (Nat.gcd w u) else 1) = nI (Nat.gcd w u) := by
      by_cases g : (1 : Int32) < nI (Nat.gcd w u)
      · rw [if_pos g]
      · rw [if_neg g]
        have g2 : ¬ 1 < Nat.gcd w u := fun z => g (nI_lt (a := 1) z (by omega))
        rw [show Nat.gcd w u = 1 by omega]; rfl
    rw [hmax]
    have hne : ¬ nI (Nat.gcd w u) = 0 := nI_ne0 (by omega) (by omega)
    have hm : ∀ r : Int64, r = (if b = 0 then (nI u / nI (Nat.gcd w u)).toInt64 else (nI w / nI (Nat.gcd w u)).toInt64) → wp_X12_turn (nI n) mh (nI j) b (fun r2 => r = r2) := by
      rintro r rfl
      unfold wp_X12_turn
      refine s_X12_isDog (by omega) (fun _ => ⟨fun _ => s_X12_in (fun _ => ⟨fun _ => ?_, fun e => absurd e (by decide)⟩) (fun z => absurd q2 z), fun e => absurd e (by decide)⟩) (fun z => absurd ⟨j, hj, rfl⟩ z)
      refine s_X12_dead hn (fun dd hd => s_X12_bits (jn_in ?_))
      have hdd := cl_dd hn hd
      have hal : nI n - nI (cnt (bt dd) 7) = nI (cl n mh) := by rw [pk_sub (by omega), show n - cnt (bt dd) 7 = cl n mh by omega]
      rw [hal]
      refine lofE2_1 (2 ^ n) (by omega) (p2_all n (by omega)) (fun k s => s = smT (dT n mh P true) k) ?_ ?_ _ rfl
      · rintro s rfl
        rw [eu]
        refine s_X12_factorial hc7 (jn_in ?_)
        rw [ew]
        refine lop2 (I := fun x y => ∃ c d, c < 131072 ∧ d < 131072 ∧ x = nI c ∧ y = nI d ∧ Nat.gcd c d = Nat.gcd w u) (fun _ y => y.toNatClampNeg) ?_ _ _ ⟨u, w, by omega, by omega, rfl, rfl, Nat.gcd_comm u w⟩
        rintro x y again ⟨c, d, hc, hd2, rfl, rfl, hgc⟩ hag
        refine ⟨fun z => ?_, fun z => ⟨z, hag _ _ ⟨d, c % d, hd2, ?_, rfl, ?_, ?_⟩ ?_⟩⟩
        · have e : d = 0 := (nI_eq (by omega) (by omega)).mp z
          rw [e, Nat.gcd_zero_right] at hgc
          rw [hgc]
          exact ⟨fun g => ⟨hne, by rw [if_neg g]⟩, fun g => ⟨hne, by rw [if_pos g]⟩⟩
        · have h1 : 0 < d := by
            rcases Nat.eq_zero_or_pos d with g | g
            · exact absurd (by rw [g]; rfl) z
            · exact g
          have := Nat.mod_lt c h1
          omega
        · have h1 : 0 < d := by
            rcases Nat.eq_zero_or_pos d with g | g
            · exact absurd (by rw [g]; rfl) z
            · exact g
          exact pk_rem (by omega) h1 (by omega)
        · rw [← hgc, Nat.gcd_comm c d, Nat.gcd_rec d c, Nat.gcd_comm]
        · have h1 : 0 < d := by
            rcases Nat.eq_zero_or_pos d with g | g
            · exact absurd (by rw [g]; rfl) z
            · exact g
          show (nI c - nI c / nI d * nI d).toNatClampNeg < (nI d).toNatClampNeg
          have := Nat.mod_lt c h1
          rw [pk_rem (by omega) h1 (by omega), nI_clamp (by omega), nI_clamp (by omega)]
          exact this
      · rintro t s again ht rfl hag
        have hno : ¬ Dec n mh j t → again (smT (dT n mh P true) t + 0) (nI t + 1) := by
          intro q
          refine hag _ ?_
          rw [smT, dT, if_neg (fun z => q ((hP t).mp z))]
        refine s_X12_has (by omega) (fun c => jn_in (jn_in ⟨fun _ => jn_in ⟨fun _ => hno (fun z => ?_), fun e => absurd rfl e⟩, fun e => absurd e (by decide)⟩)) (fun c => jn_in (jn_in ⟨fun e => absurd rfl e, fun _ => s_X12_dead hn (fun dd2 hd2 => ⟨fun d => jn_in ⟨fun _ => hno (fun z => d ((ok_m hd2 hn ht).mpr (fun e he hb => (z.1 e he hb).1))), fun e => absurd rfl e⟩, fun d => s_X12_sumOf hn (s_X12_allHalves hn ⟨fun f => jn_in ⟨fun _ => hno (fun z => z.2.1 f), fun e => absurd rfl e⟩, fun f => s_X12_sumOf hn (s_X12_allHalves hn ?_)⟩)⟩)⟩))
        · rw [bt_nI (by omega)] at c
          exact (z.1 j hj c).2 rfl
        · rw [sm_set (by omega) c n (by omega), if_pos hj]
          have c2 := (ok_m hd2 hn ht).mp d
          rw [bt_nI (by omega)] at c
          have hall : ∀ e, e < n → t.testBit e = true → ¬ mh e = 0 ∧ e ≠ j := fun e he hb => ⟨c2 e he hb, fun z => by rw [z, c] at hb; simp at hb⟩
          refine ⟨fun g => jn_in ⟨fun _ => hno (fun z => z.2.2 g), fun e => absurd rfl e⟩, fun g => jn_in ⟨fun e => absurd e (by decide), fun _ => ?_⟩⟩
          have hD : Dec n mh j t := ⟨hall, f, g⟩
          have hco := cl_oth hn hlv0 hj (Dec_alive hD) ht hall
          refine s_X12_bits (s_X12_factorial (by omega) (s_X12_bits ?_))
          rw [show nI (cl n mh) - 1 - nI (cnt (bt (nI t)) 7) = nI (cl n mh - 1 - cnt (bt (nI t)) 7) by
            rw [show (1 : Int32) = nI 1 from rfl, pk_sub (by omega), pk_sub (by omega)]]
          refine s_X12_factorial (by omega) (hag _ ?_)
          rw [smT, dT, if_pos ((hP t).mpr hD), if_pos rfl]
    exact ⟨fun g => ⟨hne, hm _ (by rw [if_neg g])⟩, fun g => ⟨hne, hm _ (by rw [if_pos g])⟩⟩
  · unfold wp_X12_turn
    exact s_X12_isDog (by omega) (fun _ => ⟨fun _ => s_X12_in (fun z => absurd z q2) (fun _ => ⟨fun e => absurd rfl e, fun _ => rfl⟩), fun e => absurd e (by decide)⟩) (fun z => absurd q z)
  · unfold wp_X12_turn
    exact s_X12_isDog (by omega) (fun z => absurd z q) (fun _ => ⟨fun e => absurd rfl e, fun _ => rfl⟩)
