/-! LIKINGS that are not told, by a code -/
def rk (un : Int32) (d : Nat) : Nat := cnt (bt un) d
def dig (K c i : Nat) : Nat := c / 19 ^ (K - 1 - i) % 19
def wlk (un : Int32) (K c : Nat) (lk : Nat → Int32) (d : Nat) : Int32 := if bt un d then nI (dig K c (rk un d)) - 9 else lk d
def holdB (n : Nat) (h lk fr cl cr cn : Nat → Int32) : Nat → Bool
  | 0 => true
  | r + 1 => holdB n h lk fr cl cr cn r && decide ((vv n h lk fr (cl r - cr r) (-6)).1 = cn r)
theorem holdB_iff {n : Nat} {h lk fr cl cr cn : Nat → Int32} : ∀ {r : Nat}, holdB n h lk fr cl cr cn r = true ↔ ∀ i, i < r → (vv n h lk fr (cl i - cr i) (-6)).1 = cn i
  | 0 => by simp [holdB]
  | r + 1 => by
    rw [holdB, Bool.and_eq_true, decide_eq_true_eq, holdB_iff]
    constructor
    · rintro ⟨a, b⟩ i hi
      by_cases e : i = r
      · subst e; exact b
      · exact a i (by omega)
    · intro a
      exact ⟨fun i hi => a i (by omega), a r (by omega)⟩
theorem vv_congr {n : Nat} {h lk fr h2 lk2 fr2 : Nat → Int32} {lead out : Int32} (e : ∀ d, d < n → h d = h2 d ∧ lk d = lk2 d ∧ fr d = fr2 d) : vv n h lk fr lead out = vv n h2 lk2 fr2 lead out :=
  vfold_congr n (fun i hi => ⟨rfl, rfl, fun _ => ⟨(e i hi).1, (e i hi).2.1, (e i hi).2.2, rfl⟩⟩)
def pF (n : Nat) (un : Int32) (h lk fr cl cr cn : Nat → Int32) (cc c : Nat) : Bool := holdB n h (wlk un (cnt (bt un) n) c lk) fr cl cr cn cc
theorem pF_congr {n : Nat} {un : Int32} {h lk fr cl cr cn h2 lk2 fr2 cl2 cr2 cn2 : Nat → Int32} {cc : Nat} (e : ∀ d, d < n → h d = h2 d ∧ lk d = lk2 d ∧ fr d = fr2 d) (e2 : ∀ i, i < cc → cl i = cl2 i ∧ cr i = cr2 i ∧ cn i = cn2 i) : pF n un h lk fr cl cr cn cc = pF n un h2 lk2 fr2 cl2 cr2 cn2 cc := by
  funext c
  unfold pF
  have key : ∀ r, r ≤ cc → holdB n h (wlk un (cnt (bt un) n) c lk) fr cl cr cn r = holdB n h2 (wlk un (cnt (bt un) n) c lk2) fr2 cl2 cr2 cn2 r := by
    intro r
    induction r with
    | zero => intro _; rfl
    | succ r ih =>
      intro hr
      obtain ⟨a1, a2, a3⟩ := e2 r (by omega)
      rw [holdB, holdB, ih (by omega), a1, a2, a3, vv_congr (fun d hd => ⟨(e d hd).1, ?_, (e d hd).2.2⟩)]
      unfold wlk
      rw [(e d hd).2.1]
  exact key cc (Nat.le_refl _)
theorem p19 {K : Nat} (hK : K ≤ 7) : 19 ^ K < 2000000000 ∧ 1 ≤ 19 ^ K := by
  have h1 : 19 ^ K ≤ 19 ^ 7 := Nat.pow_le_pow_right (by omega) hK
  have h2 : 0 < 19 ^ K := Nat.pow_pos (by omega)
  have h3 : 19 ^ 7 = 893871739 := by decide
  omega
theorem d19 {x : Nat} (hx : x < 2 ^ 31) : nI x / (19 : Int32) = nI (x / 19) := pk_div (d := 19) hx (by omega) (by omega)
theorem r19 {x : Nat} (hx : x < 2 ^ 31) : nI x - nI (x / 19) * (19 : Int32) = nI (x % 19) := by
  rw [← pk_rem (a := x) (d := 19) hx (by omega) (by omega), pk_div (a := x) (d := 19) hx (by omega) (by omega)]; rfl
theorem rk_lt {un : Int32} {n d : Nat} (hd : d < n) (hb : bt un d = true) : rk un d < cnt (bt un) n := cnt_lt hd hb
theorem rk_inj {un : Int32} {d e : Nat} (h1 : bt un d = true) (h2 : bt un e = true) (h : rk un d = rk un e) : d = e := by
  unfold rk at h
  rcases Nat.lt_trichotomy d e with q | q | q
  · have := cnt_lt q h1; omega
  · exact q
  · have := cnt_lt q h2; omega
/-- the list of those not told -/
def UT (n : Nat) (un : Int32) (ut : Nat → Int32) : Prop := ∀ i, i < cnt (bt un) n → ∃ d, d < n ∧ bt un d = true ∧ rk un d = i ∧ ut i = nI d
theorem UT_at {n : Nat} {un : Int32} {ut : Nat → Int32} (h : UT n un ut) {d : Nat} (hd : d < n) (hb : bt un d = true) : ut (rk un d) = nI d := by
  obtain ⟨e, h1, h2, h3, h4⟩ := h (rk un d) (rk_lt hd hb)
  rw [h4, rk_inj h2 hb h3]
theorem s_X5_listUntold {n : Nat} (hn : n ≤ 7) {un sz : Int32} {ut : Nat → Int32} {post : Int32 → Int32 → (Nat → Int32) → Prop} (hp : ∀ ut2, UT n un ut2 → post (nI (19 ^ cnt (bt un) n)) (nI (cnt (bt un) n)) ut2) : wp_X5_listUntold sz ut (nI n) un post := by
  unfold wp_X5_listUntold
  refine lofE4_1 n (by omega) rfl (fun k all s ut2 => all = nI (19 ^ cnt (bt un) k) ∧ s = nI (cnt (bt un) k) ∧ ∀ i, i < cnt (bt un) k → ∃ d, d < k ∧ bt un d = true ∧ rk un d = i ∧ ut2 i = nI d) ?_ ?_ _ _ _ ⟨rfl, rfl, fun i hi => absurd hi (Nat.not_lt_zero _)⟩
  · rintro all s ut2 ⟨rfl, rfl, h⟩
    exact hp ut2 h
  · rintro k all s ut2 again hk ⟨rfl, rfl, h⟩ hag
    have hc := cnt_le (bt un) k
    refine s_X9_isTold (by omega) (fun u => ⟨fun _ => hag _ _ _ ?_, fun e => absurd e (by decide)⟩) (fun u => ⟨fun e => absurd rfl e, fun _ => ⟨v_in (by omega) (by omega), hag _ _ _ ?_⟩⟩)
    · rw [cnt, u]
      exact ⟨rfl, rfl, fun i hi => by
        obtain ⟨d, a, b⟩ := h i hi
        exact ⟨d, by omega, b⟩⟩
    · rw [cnt, if_pos u, c_nI (by omega)]
      refine ⟨?_, nI_1 _, fun i hi => ?_⟩
      · rw [Nat.pow_succ]; exact pk_mul _ 19
      · by_cases e : i = cnt (bt un) k
        · subst e; exact ⟨k, by omega, u, rfl, by rw [u_s]⟩
        · obtain ⟨d, a, b1, b2, b3⟩ := h i (by omega)
          exact ⟨d, by omega, b1, b2, by rw [u_n e]; exact b3⟩
theorem s_X5_write {n c : Nat} (hn : n ≤ 7) (hc : c < 2 ^ 31) {un : Int32} {ut gl : Nat → Int32} (hU : UT n un ut) {post : (Nat → Int32) → Prop} (hp : ∀ g2 : Nat → Int32, (∀ d, d < n → bt un d = true → g2 d = nI (dig (cnt (bt un) n) c (rk un d)) - 9) → (∀ d, d < n → bt un d = false → g2 d = gl d) → post g2) : wp_X5_write (nI (cnt (bt un) n)) ut gl (nI c) post := by
  have hK : cnt (bt un) n ≤ n := cnt_le _ _
  unfold wp_X5_write
  obtain ⟨K, eK⟩ : ∃ K, K = cnt (bt un) n := ⟨_, rfl⟩
  rw [← eK] at hK hp ⊢
  refine lor3 (I := fun r x2 x3 g2 => r ≤ K ∧ x2 = nI (c / 19 ^ (K - r)) ∧ x3 = nI r - 1 ∧ (∀ d, d < n → bt un d = true → r ≤ rk un d → g2 d = nI (dig K c (rk un d)) - 9) ∧ (∀ d, d < n → bt un d = false → g2 d = gl d)) ?_ K _ _ _ ⟨Nat.le_refl _, by rw [Nat.sub_self, Nat.pow_zero, Nat.div_one], rfl, fun d hd hb hr => by have := rk_lt hd hb; omega, fun _ _ _ => rfl⟩
  rintro r x2 x3 g2 again ⟨hr, rfl, rfl, h1, h2⟩ hag
  cases r with
  | zero => exact ⟨fun _ => hp g2 (fun d hd hb => h1 d hd hb (Nat.zero_le _)) h2, fun z => absurd (by decide) z⟩
  | succ r =>
    rw [nI_pred]
    obtain ⟨e, he1, he2, he3, he4⟩ := hU r (by omega)
    have hdv : c / 19 ^ (K - (r + 1)) ≤ c := Nat.div_le_self _ _
    rw [d19 (by omega), r19 (by omega), c_nI (show r < 64 by omega), he4, c_nI (show e < 64 by omega)]
    refine ⟨fun z => absurd z (nI_pos (by omega)), fun _ => ⟨v_in (by omega) (by omega), v_in (by omega) (by omega), hag r _ _ _ (by omega) ⟨by omega, ?_, ?_, fun d hd hb hrd => ?_, fun d hd hb => ?_⟩⟩⟩
    · rw [Nat.div_div_eq_div_mul, ← Nat.pow_succ, show (K - (r + 1)).succ = K - r by omega]
    · show nI r + (-1) = nI r - 1
      grind
    · by_cases q : d = e
      · subst q
        rw [u_s, he3]
        unfold dig
        rw [show K - 1 - r = K - (r + 1) by omega]
      · rw [u_n q]
        refine h1 d hd hb ?_
        have : rk un d ≠ r := fun z => q (rk_inj hb he2 (by rw [z, he3]))
        omega
    · have q : d ≠ e := fun z => by rw [z, he2] at hb; simp at hb
      rw [u_n q]; exact h2 d hd hb
theorem s_X5_holds {n cc : Nat} (hn : n ≤ 7) (hcc : cc ≤ 6) {h gl fr cl cr cn : Nat → Int32} {x1 x2 x3 x4 : Int32} {post : Int32 → Int32 → Int32 → Int32 → Int32 → Prop} (h1 : holdB n h gl fr cl cr cn cc = true → ∀ z1 z2 z3 z4, post 1 z1 z2 z3 z4) (h0 : holdB n h gl fr cl cr cn cc = false → ∀ z1 z2 z3 z4, post 0 z1 z2 z3 z4) : wp_X5_holds (nI n) h gl fr x1 x2 x3 x4 (nI cc) cl cr cn post := by
  unfold wp_X5_holds
  refine lofE5_0 cc (by omega) rfl (fun k _ _ _ _ => ∀ i, i < k → (vv n h gl fr (cl i - cr i) (-6)).1 = cn i) ?_ ?_ _ _ _ _ (fun i hi => absurd hi (Nat.not_lt_zero _))
  · intro _ _ _ _ hP
    exact h1 (holdB_iff.mpr hP) _ _ _ _
  · intro k z1 z2 z3 z4 again hk hP hag
    have v : vp_in (nI k) 6 := v_in (by omega) (by omega)
    rw [c_nI (by omega)]
    refine ⟨v, v, s_X0_hold hn (fun lm rm hM => ⟨v, ?_⟩)⟩
    rw [hold_0 hn]
    refine ⟨fun e => hag _ _ _ _ (fun i hi => ?_), fun e => h0 ?_ _ _ _ _⟩
    · by_cases q : i = k
      · subst q; exact e
      · exact hP i (by omega)
    · cases z : holdB n h gl fr cl cr cn cc
      · rfl
      · exact absurd (holdB_iff.mp z k hk) e
theorem s_X5_note {n w : Nat} (hn : n ≤ 7) (hw : w < 2000000000) {un : Int32} {ut fi le gr gl : Nat → Int32} (hU : UT n un ut) {post : Int32 → (Nat → Int32) → (Nat → Int32) → (Nat → Int32) → Prop}
    (hp : ∀ f2 l2 g2 : Nat → Int32, (∀ d, d < n → bt un d = true → f2 (rk un d) = (if w = 0 then gl d else fi (rk un d)) ∧ l2 d = (if w = 0 then gl d else if gl d < le d then gl d else le d) ∧ g2 d = (if w = 0 then gl d else if gr d < gl d then gl d else gr d)) → post (nI (w + 1)) f2 l2 g2) : wp_X5_note (nI w) (nI (cnt (bt un) n)) ut fi le gr gl post := by
  have hK : cnt (bt un) n ≤ n := cnt_le _ _
  unfold wp_X5_note
  rw [nI_1]
  refine lofE4_0 (cnt (bt un) n) (by omega) rfl (fun k f2 l2 g2 => (∀ d, d < n → bt un d = true → rk un d < k → f2 (rk un d) = (if w = 0 then gl d else fi (rk un d)) ∧ l2 d = (if w = 0 then gl d else if gl d < le d then gl d else le d) ∧ g2 d = (if w = 0 then gl d else if gr d < gl d then gl d else gr d)) ∧ (∀ d, d < n → bt un d = true → k ≤ rk un d → f2 (rk un d) = fi (rk un d) ∧ l2 d = le d ∧ g2 d = gr d)) ?_ ?_ _ _ _ ⟨fun d _ _ h => absurd h (Nat.not_lt_zero _), fun _ _ _ _ => ⟨rfl, rfl, rfl⟩⟩
  · rintro f2 l2 g2 ⟨a, -⟩
    exact hp f2 l2 g2 (fun d hd hb => a d hd hb (rk_lt hd hb))
  · rintro k f2 l2 g2 again hk ⟨a, b⟩ hag
    obtain ⟨e, he1, he2, he3, he4⟩ := hU k hk
    have v7 : vp_in (nI k) 7 := v_in (by omega) (by omega)
    have ve : vp_in (nI e) 7 := v_in (by omega) (by omega)
    obtain ⟨b1, b2, b3⟩ := b e he1 he2 (by omega)
    rw [c_nI (show k < 64 by omega), he4, c_nI (show e < 64 by omega)]
    have hother : ∀ (f3 l3 g3 : Nat → Int32), (∀ i, i ≠ k → f3 i = f2 i) → (∀ d, d ≠ e → l3 d = l2 d ∧ g3 d = g2 d) → f3 k = (if w = 0 then gl e else fi k) → l3 e = (if w = 0 then gl e else if gl e < le e then gl e else le e) → g3 e = (if w = 0 then gl e else if gr e < gl e then gl e else gr e) → again (nI k + 1) f3 l3 g3 := by
      intro f3 l3 g3 q1 q2 q3 q4 q5
      refine hag _ _ _ ⟨fun d hd hb hr => ?_, fun d hd hb hr => ?_⟩
      · by_cases z : d = e
        · subst z; rw [he3]; exact ⟨q3, q4, q5⟩
        · have hz : rk un d ≠ k := fun y => z (rk_inj hb he2 (by rw [y, he3]))
          rw [q1 _ hz, (q2 d z).1, (q2 d z).2]
          exact a d hd hb (by omega)
      · have z : d ≠ e := fun y => by rw [y, he3] at hr; omega
        have hz : rk un d ≠ k := by omega
        rw [q1 _ hz, (q2 d z).1, (q2 d z).2]
        exact b d hd hb (by omega)
    refine ⟨v7, ve, jn_in ⟨fun z => ⟨ve, ve, ve, ve, ?_⟩, fun z => ⟨v7, ve, ve, ve, ve, ve, ve, ?_⟩⟩⟩
    · have hw0 : ¬ w = 0 := fun y => z (by rw [y]; rfl)
      rw [b2, b3]
      refine hother _ _ _ (fun i hi => rfl) (fun d hd => ⟨by rw [u_n hd], by rw [u_n hd]⟩) ?_ ?_ ?_
      · rw [if_neg hw0, ← he3, b1]
      · rw [u_s, if_neg hw0]
      · rw [u_s, if_neg hw0]
    · have hw0 : w = 0 := by
        have : nI (w + 1) = nI 1 := z
        have := (nI_eq (by omega) (by omega)).mp this
        omega
      rw [u_s, u_s]
      refine hother _ _ _ (fun i hi => by rw [u_n hi]) (fun d hd => ⟨by rw [u_n hd, u_n hd], by rw [u_n hd, u_n hd]⟩) ?_ ?_ ?_
      · rw [u_s, if_pos hw0]
      · rw [u_s, if_pos hw0]; simp
      · rw [u_s, if_pos hw0]; simp
/-- what is found over the codes ahead of c -/
def FS (n : Nat) (un : Int32) (p : Nat → Bool) (c : Nat) (fi le gr : Nat → Int32) : Prop := 0 < cnt p c →
  (∃ c0, c0 < c ∧ p c0 = true ∧ (∀ x, x < c0 → p x = false) ∧ ∀ d, d < n → bt un d = true → fi (rk un d) = nI (dig (cnt (bt un) n) c0 (rk un d)) - 9) ∧
  ∀ d, d < n → bt un d = true → ((∃ x, x < c ∧ p x = true ∧ le d = nI (dig (cnt (bt un) n) x (rk un d)) - 9) ∧ (∀ x, x < c → p x = true → dig (cnt (bt un) n) x (rk un d) ≥ (le d + 9).toNatClampNeg)) ∧ ((∃ x, x < c ∧ p x = true ∧ gr d = nI (dig (cnt (bt un) n) x (rk un d)) - 9) ∧ (∀ x, x < c → p x = true → dig (cnt (bt un) n) x (rk un d) ≤ (gr d + 9).toNatClampNeg))
def FitSpec (n : Nat) (un : Int32) (p : Nat → Bool) (ways sz : Int32) (fi le gr : Nat → Int32) : Prop := sz = nI (cnt (bt un) n) ∧ ways = nI (cnt p (19 ^ cnt (bt un) n)) ∧ FS n un p (19 ^ cnt (bt un) n) fi le gr
theorem dig_lt (K c i : Nat) : dig K c i < 19 := Nat.mod_lt _ (by omega)
theorem p9 (k : Nat) : nI k - 9 + 9 = nI k := by grind
theorem lt9 {a b : Nat} (ha : a < 100) (hb : b < 100) : nI a - 9 < nI b - 9 ↔ a < b := by
  have h1 : (nI a - 9).toInt = (a : Int) - 9 := pk_sub_toInt (a := a) (b := 9) (by omega) (by omega)
  have h2 : (nI b - 9).toInt = (b : Int) - 9 := pk_sub_toInt (a := b) (b := 9) (by omega) (by omega)
  rw [i_lt, h1, h2]; omega
theorem cnt_zero {p : Nat → Bool} {c : Nat} (h : cnt p c = 0) : ∀ x, x < c → p x = false := by
  intro x hx
  cases q : p x
  · rfl
  · have := cnt_lt hx q; omega
theorem FS_no {n : Nat} {un : Int32} {p : Nat → Bool} {c : Nat} {fi le gr : Nat → Int32} (h : FS n un p c fi le gr) (hp : p c = false) : FS n un p (c + 1) fi le gr := by
  intro h0
  rw [cnt, hp] at h0
  obtain ⟨⟨c0, a1, a2, a3, a4⟩, b⟩ := h h0
  refine ⟨⟨c0, by omega, a2, a3, a4⟩, fun d hd hb => ?_⟩
  obtain ⟨⟨⟨x, x1, x2⟩, x3⟩, ⟨⟨y, y1, y2⟩, y3⟩⟩ := b d hd hb
  refine ⟨⟨⟨x, by omega, x2⟩, fun z hz hpz => x3 z ?_ hpz⟩, ⟨⟨y, by omega, y2⟩, fun z hz hpz => y3 z ?_ hpz⟩⟩
  · have : z ≠ c := fun e => by rw [e, hp] at hpz; simp at hpz
    omega
  · have : z ≠ c := fun e => by rw [e, hp] at hpz; simp at hpz
    omega
theorem FS_yes {n : Nat} {un : Int32} {p : Nat → Bool} {c : Nat} {fi le gr f2 l2 g2 gl : Nat → Int32} (h : FS n un p c fi le gr) (hp : p c = true) (hgl : ∀ d, d < n → bt un d = true → gl d = nI (dig (cnt (bt un) n) c (rk un d)) - 9)
    (h2 : ∀ d, d < n → bt un d = true → f2 (rk un d) = (if cnt p c = 0 then gl d else fi (rk un d)) ∧ l2 d = (if cnt p c = 0 then gl d else if gl d < le d then gl d else le d) ∧ g2 d = (if cnt p c = 0 then gl d else if gr d < gl d then gl d else gr d)) : FS n un p (c + 1) f2 l2 g2 := by
  intro _
  by_cases q : cnt p c = 0
  · refine ⟨⟨c, by omega, hp, cnt_zero q, fun d hd hb => ?_⟩, fun d hd hb => ?_⟩
    · rw [(h2 d hd hb).1, if_pos q, hgl d hd hb]
    · obtain ⟨-, e2, e3⟩ := h2 d hd hb
      rw [if_pos q, hgl d hd hb] at e2 e3
      have hx : ∀ x, x < c + 1 → p x = true → x = c := fun x hx hpx => by
        rcases Nat.lt_or_ge x c with z | z
        · rw [cnt_zero q x z] at hpx; simp at hpx
        · omega
      have hd19 := dig_lt (cnt (bt un) n) c (rk un d)
      refine ⟨⟨⟨c, by omega, hp, e2⟩, fun x h1 h3 => ?_⟩, ⟨⟨c, by omega, hp, e3⟩, fun x h1 h3 => ?_⟩⟩
      · rw [hx x h1 h3, e2, p9, c_nI (by omega)]; exact Nat.le_refl _
      · rw [hx x h1 h3, e3, p9, c_nI (by omega)]; exact Nat.le_refl _
  · obtain ⟨⟨c0, a1, a2, a3, a4⟩, b⟩ := h (by omega)
    refine ⟨⟨c0, by omega, a2, a3, fun d hd hb => ?_⟩, fun d hd hb => ?_⟩
    · rw [(h2 d hd hb).1, if_neg q, a4 d hd hb]
    · obtain ⟨-, e2, e3⟩ := h2 d hd hb
      obtain ⟨⟨⟨x, x1, x2, x4⟩, x3⟩, ⟨⟨y, y1, y2, y4⟩, y3⟩⟩ := b d hd hb
      have dx := dig_lt (cnt (bt un) n) x (rk un d)
      have dy := dig_lt (cnt (bt un) n) y (rk un d)
      have dc := dig_lt (cnt (bt un) n) c (rk un d)
      rw [if_neg q, hgl d hd hb, x4] at e2
      rw [if_neg q, hgl d hd hb, y4] at e3
      rw [x4, p9, c_nI (by omega)] at x3
      rw [y4, p9, c_nI (by omega)] at y3
      constructor
      · by_cases z : nI (dig (cnt (bt un) n) c (rk un d)) - 9 < nI (dig (cnt (bt un) n) x (rk un d)) - 9
        · rw [if_pos z] at e2
          have z2 := (lt9 (by omega) (by omega)).mp z
          refine ⟨⟨c, by omega, hp, e2⟩, fun t ht hpt => ?_⟩
          rw [e2, p9, c_nI (by omega)]
          by_cases e : t = c
          · rw [e]; exact Nat.le_refl _
          · have := x3 t (by omega) hpt; omega
        · rw [if_neg z] at e2
          have z2 : ¬ dig (cnt (bt un) n) c (rk un d) < dig (cnt (bt un) n) x (rk un d) := fun y => z ((lt9 (by omega) (by omega)).mpr y)
          refine ⟨⟨x, by omega, x2, e2⟩, fun t ht hpt => ?_⟩
          rw [e2, p9, c_nI (by omega)]
          by_cases e : t = c
          · rw [e]; omega
          · exact x3 t (by omega) hpt
      · by_cases z : nI (dig (cnt (bt un) n) y (rk un d)) - 9 < nI (dig (cnt (bt un) n) c (rk un d)) - 9
        · rw [if_pos z] at e3
          have z2 := (lt9 (by omega) (by omega)).mp z
          refine ⟨⟨c, by omega, hp, e3⟩, fun t ht hpt => ?_⟩
          rw [e3, p9, c_nI (by omega)]
          by_cases e : t = c
          · rw [e]; exact Nat.le_refl _
          · have := y3 t (by omega) hpt; omega
        · rw [if_neg z] at e3
          have z2 : ¬ dig (cnt (bt un) n) y (rk un d) < dig (cnt (bt un) n) c (rk un d) := fun w => z ((lt9 (by omega) (by omega)).mpr w)
          refine ⟨⟨y, by omega, y2, e3⟩, fun t ht hpt => ?_⟩
          rw [e3, p9, c_nI (by omega)]
          by_cases e : t = c
          · rw [e]; omega
          · exact y3 t (by omega) hpt
theorem s_X5_find {n cc : Nat} (hn : n ≤ 7) (hcc : cc ≤ 6) {known ways sz gd gu x1 x2 x3 x4 un : Int32} {ut fi le gr gh gl gf ghe h lk fr he cl cr cn : Nat → Int32} (hG : ¬ known = 0 → FitSpec n un (pF n un h lk fr cl cr cn cc) ways sz fi le gr) {post : Int32 → Int32 → Int32 → (Nat → Int32) → (Nat → Int32) → (Nat → Int32) → (Nat → Int32) → Int32 → Int32 → (Nat → Int32) → (Nat → Int32) → (Nat → Int32) → (Nat → Int32) → Int32 → Int32 → Int32 → Int32 → Prop}
    (hp : ∀ k2 w2 s2 u2 f2 l2 g2 z1 z2 z3 z4 z5 z6 z7 z8 z9 z10, FitSpec n un (pF n un h lk fr cl cr cn cc) w2 s2 f2 l2 g2 → post k2 w2 s2 u2 f2 l2 g2 z1 z2 z3 z4 z5 z6 z7 z8 z9 z10) :
    wp_X5_find known ways sz ut fi le gr gd gu gh gl gf ghe x1 x2 x3 x4 (nI n) un h lk fr he (nI cc) cl cr cn post := by
  unfold wp_X5_find wp_X9_copyFrom
  refine ⟨fun _ => s_X5_listUntold hn (fun ut2 hU => jn_in ?_), fun z => hp _ _ _ _ _ _ _ _ _ _ _ _ _ _ _ _ _ (hG z)⟩
  have hK7 : cnt (bt un) n ≤ 7 := Nat.le_trans (cnt_le _ _) hn
  obtain ⟨t1, t2⟩ := p19 hK7
  obtain ⟨p, hpe⟩ : ∃ p : Nat → Bool, p = pF n un h lk fr cl cr cn cc := ⟨_, rfl⟩
  rw [← hpe] at hp
  refine lofE10_0 (19 ^ cnt (bt un) n) t1 rfl (fun c w f2 l2 g2 gl2 _ _ _ _ => w = nI (cnt p c) ∧ FS n un p c f2 l2 g2 ∧ ∀ d, d < n → bt un d = false → gl2 d = lk d) ?_ ?_ _ _ _ _ _ _ _ _ _ ⟨rfl, fun h0 => absurd h0 (Nat.lt_irrefl 0), fun d hd _ => cpy7 _ _ (by omega)⟩
  · rintro w f2 l2 g2 gl2 z1 z2 z3 z4 ⟨rfl, hF, -⟩
    exact hp _ _ _ _ _ _ _ _ _ _ _ _ _ _ _ _ _ ⟨rfl, rfl, hF⟩
  · rintro c w f2 l2 g2 gl2 z1 z2 z3 z4 again hc ⟨rfl, hF, hgl⟩ hag
    have hcc2 := cnt_le p c
    refine s_X5_write hn (by omega) hU (fun gl3 e1 e2 => ?_)
    have e3 : ∀ d, d < n → gl3 d = wlk un (cnt (bt un) n) c lk d := by
      intro d hd
      unfold wlk
      cases q : bt un d
      · rw [e2 d hd q, hgl d hd q]; rfl
      · rw [e1 d hd q]; rfl
    have ep : holdB n (va_cpy h gh (0 : Int32).toNatClampNeg (0 : Int32).toNatClampNeg (7 : Int32).toNatClampNeg) gl3 (va_cpy fr gf (0 : Int32).toNatClampNeg (0 : Int32).toNatClampNeg (7 : Int32).toNatClampNeg) cl cr cn cc = p c := by
      rw [hpe]
      unfold pF
      have key : ∀ r, holdB n (va_cpy h gh (0 : Int32).toNatClampNeg (0 : Int32).toNatClampNeg (7 : Int32).toNatClampNeg) gl3 (va_cpy fr gf (0 : Int32).toNatClampNeg (0 : Int32).toNatClampNeg (7 : Int32).toNatClampNeg) cl cr cn r = holdB n h (wlk un (cnt (bt un) n) c lk) fr cl cr cn r := by
        intro r
        induction r with
        | zero => rfl
        | succ r ih => rw [holdB, holdB, ih, vv_congr (fun d hd => ⟨cpy7 h gh (by omega), e3 d hd, cpy7 fr gf (by omega)⟩)]
      exact key cc
    have hkeep : ∀ d, d < n → bt un d = false → gl3 d = lk d := fun d hd q => by rw [e2 d hd q, hgl d hd q]
    refine s_X5_holds hn hcc (fun q y1 y2 y3 y4 => ⟨fun e => absurd e (by decide), fun _ => s_X5_note hn (by omega) hU (fun f3 l3 g3 e4 => hag _ _ _ _ _ _ _ _ _ ⟨?_, ?_, hkeep⟩)⟩) (fun q y1 y2 y3 y4 => ⟨fun _ => hag _ _ _ _ _ _ _ _ _ ⟨?_, ?_, hkeep⟩, fun e => absurd rfl e⟩)
    · rw [ep] at q
      rw [cnt, if_pos q]
    · rw [ep] at q
      exact FS_yes hF q e1 e4
    · rw [ep] at q
      rw [cnt, q]; rfl
    · rw [ep] at q
      exact FS_no hF q
