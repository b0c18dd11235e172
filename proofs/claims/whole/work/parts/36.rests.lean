theorem c_clamp100 {k : Nat} (h : k < 1000) : (nI k).toNatClampNeg = k := nI_clamp (by omega)
def worth (side w offer : Int32) : Int32 := (if w = side then 20 else if w = 2 then 10 else 0) - offer
def cnt (p : Nat → Bool) : Nat → Nat
  | 0 => 0
  | k + 1 => if p k then cnt p k + 1 else cnt p k
theorem cnt_le (p : Nat → Bool) : ∀ k, cnt p k ≤ k
  | 0 => Nat.le_refl _
  | k + 1 => by
    have h := cnt_le p k
    rw [cnt]
    cases p k <;> simp <;> omega
theorem cnt_mono (p : Nat → Bool) {a b : Nat} (h : a ≤ b) : cnt p a ≤ cnt p b := by
  induction b with
  | zero => have e : a = 0 := by omega
            rw [e]; exact Nat.le_refl _
  | succ b ih =>
    by_cases q : a = b + 1
    · rw [q]; exact Nat.le_refl _
    · have h1 := ih (by omega)
      have h2 : cnt p b ≤ cnt p (b + 1) := by rw [cnt]; cases p b <;> simp
      omega
theorem cnt_lt {p : Nat → Bool} {a b : Nat} (h : a < b) (hp : p a = true) : cnt p a < cnt p b := by
  have h1 := cnt_mono p (show a + 1 ≤ b by omega)
  rw [cnt, if_pos hp] at h1
  omega
def RestSpec (p : Nat → Bool) (N : Nat) (i r : Int32) : Prop := (∃ k, k < N ∧ p k = true ∧ nI (cnt p k) = i ∧ r = nI k) ∨ ((∀ k, k < N → p k = true → ¬ nI (cnt p k) = i) ∧ r = if i = -1 then nI (cnt p N) else -6)
theorem RestSpec_one {p : Nat → Bool} {N : Nat} (hN : N < 1000) {i r r2 : Int32} (h : RestSpec p N i r) (h2 : RestSpec p N i r2) : r = r2 := by
  rcases h with ⟨k, h1, h3, h4, rfl⟩ | ⟨h1, rfl⟩
  · rcases h2 with ⟨k2, g1, g3, g4, rfl⟩ | ⟨g1, rfl⟩
    · have e : cnt p k = cnt p k2 := by
        have a1 := cnt_le p k
        have a2 := cnt_le p k2
        exact (nI_eq (by omega) (by omega)).mp (by rw [h4, g4])
      rcases Nat.lt_trichotomy k k2 with q | q | q
      · have := cnt_lt q h3; omega
      · rw [q]
      · have := cnt_lt q g3; omega
    · exact absurd h4 (g1 k h1 h3)
  · rcases h2 with ⟨k2, g1, g3, g4, rfl⟩ | ⟨g1, rfl⟩
    · exact absurd g4 (h1 k2 g1 g3)
    · rfl
theorem Rest_out {p : Nat → Bool} {N : Nat} (hN : N < 1000) {i : Int32} (h : ¬ (-1 : Int32) ≤ i) : RestSpec p N i (-6) := by
  rw [i_le, t_m1] at h
  refine Or.inr ⟨fun k hk _ e => ?_, ?_⟩
  · have a1 := cnt_le p k
    rw [i_eq, nI_toInt (by omega)] at e
    omega
  · rw [if_neg]
    intro e
    rw [e, t_m1] at h
    omega
theorem m9 {l r : Nat} (hl : l < 10) (hr : r < 10) : (nI l - nI r) + (9 : Int32) = nI (l + 9 - r) := by
  rw [← pk_sub (a := l + 9) (b := r) (by omega), ← nI_add]
  show nI l - nI r + nI 9 = _
  grind
theorem m9b {l r : Nat} (hl : l < 10) (hr : r < 10) : nI (l + 9 - r) - (9 : Int32) = nI l - nI r := by
  rw [← m9 hl hr]
  grind
theorem s_X1_has {wn : Nat → Int32} {p : Int32} {l r : Nat} (hl : l < 10) (hr : r < 10) {post : Int32 → Prop} (h : post (worth p (wn (l + 9 - r)) (if p = 0 then nI l else nI r))) : wp_X1_has wn p (nI l) (nI r) post := by
  unfold wp_X1_has
  rw [m9 hl hr]
  have hk : ∀ t1 : Int32, t1 = wn (l + 9 - r) → jn (fun (t_2 : Int32) => ((¬ t1 = p → ((¬ t1 = (2 : Int32) → post (-t_2) ) ∧ (t1 = (2 : Int32) → post ((10 : Int32) - t_2) ))) ∧ (t1 = p → post ((20 : Int32) - t_2) ))) (fun (J45 : Int32 → Prop) => ((¬ p = 0 → J45 (nI r)) ∧ (p = 0 → J45 (nI l)))) := by
    rintro t1 rfl
    have hq : ∀ t2 : Int32, t2 = (if p = 0 then nI l else nI r) → ((¬ wn (l + 9 - r) = p → ((¬ wn (l + 9 - r) = (2 : Int32) → post (-t2) ) ∧ (wn (l + 9 - r) = (2 : Int32) → post ((10 : Int32) - t2) ))) ∧ (wn (l + 9 - r) = p → post ((20 : Int32) - t2) )) := by
      rintro t2 rfl
      unfold worth at h
      refine ⟨fun a => ⟨fun b => ?_, fun b => ?_⟩, fun a => ?_⟩
      · rw [if_neg a, if_neg b] at h; simpa using h
      · rw [if_neg a, if_pos b] at h; exact h
      · rw [if_pos a] at h; exact h
    exact jn_in ⟨fun a => hq _ (by rw [if_neg a]), fun a => hq _ (by rw [if_pos a])⟩
  refine jn_in (jn_in ⟨fun a => absurd a (nI_pos (by omega)), fun a => ⟨fun b => absurd b (nI_ge (b := 19) (by omega) (by decide)), fun b => ⟨v_in (by omega) (by omega), ?_⟩⟩⟩)
  rw [c_nI (by omega)]
  exact hk _ rfl
def RS (F : Nat → Nat → Int32) (l r o : Nat) : Prop := worth 0 (F o r) (nI o) ≤ worth 0 (F l r) (nI l) ∧ worth 1 (F l o) (nI o) ≤ worth 1 (F l r) (nI r)
theorem s_X1_bothRest {wn : Nat → Int32} {F : Nat → Nat → Int32} (hw : ∀ l r, l < 10 → r < 10 → wn (l + 9 - r) = F l r) {l r : Nat} (hl : l < 10) (hr : r < 10) {post : Int32 → Prop} (h1 : (∀ o, o < 10 → RS F l r o) → post 1) (h0 : ¬ (∀ o, o < 10 → RS F l r o) → post 0) : wp_X1_bothRest wn (nI l) (nI r) post := by
  unfold wp_X1_bothRest
  refine s_X1_has hl hr (s_X1_has hl hr ?_)
  rw [hw l r hl hr, if_pos rfl, if_neg (by decide)]
  refine lofG1_0 9 (by omega) rfl (fun k => ∀ o, o < k → RS F l r o) (fun hP => h1 hP) ?_ (fun o ho => absurd ho (Nat.not_lt_zero _))
  intro k again hk hP hag
  refine s_X1_has (l := k) (by omega) hr ?_
  rw [hw k r (by omega) hr, if_pos rfl]
  refine ⟨fun a => h0 (fun g => n_lt.mpr (g k (by omega)).1 a), fun a => s_X1_has (r := k) hl (by omega) ?_⟩
  rw [hw l k hl (by omega), if_neg (by decide)]
  refine ⟨fun b => hag (fun o ho => ?_), fun b => h0 (fun g => b (g k (by omega)).2)⟩
  by_cases e : o = k
  · subst e; exact ⟨n_lt.mp a, b⟩
  · exact hP o (by omega)
theorem s_X12_worthTo {s w o : Int32} {post : Int32 → Prop} (h : post (worth s w o)) : wp_X12_worthTo s w o post := by
  unfold worth at h
  unfold wp_X12_worthTo
  refine jn_in ⟨fun a => ⟨fun b => ?_, fun b => ?_⟩, fun a => ?_⟩
  · rw [if_neg a, if_neg b] at h; exact h
  · rw [if_neg a, if_pos b] at h; exact h
  · rw [if_pos a] at h; exact h
theorem x10 {a b : Nat} : ((10 : Int32) * nI a) + nI b = nI (10 * a + b) := by
  rw [show (10 : Int32) * nI a = nI (10 * a) from pk_mul 10 a, nI_add]
theorem s_X12_rest {wn : Nat → Int32} {F : Nat → Nat → Int32} (hw : ∀ l r, l < 10 → r < 10 → wn (10 * l + r) = F l r) {l r : Nat} (hl : l < 10) (hr : r < 10) {post : Int32 → Prop} (h1 : (∀ o, o < 10 → RS F l r o) → post 1) (h0 : ¬ (∀ o, o < 10 → RS F l r o) → post 0) : wp_X12_rest wn (nI l) (nI r) post := by
  unfold wp_X12_rest
  refine lofE2_1 10 (by omega) rfl (fun k s => (s = 1 ∧ ∀ o, o < k → RS F l r o) ∨ (s = 0 ∧ ¬ ∀ o, o < k → RS F l r o)) ?_ ?_ _ (Or.inl ⟨rfl, fun o ho => absurd ho (Nat.not_lt_zero _)⟩)
  · rintro s (⟨rfl, h⟩ | ⟨rfl, h⟩)
    · exact ⟨Or.inr rfl, h1 h⟩
    · exact ⟨Or.inl rfl, h0 h⟩
  · intro k s again hk hP hag
    rw [x10, x10, x10, c_clamp100 (by omega), c_clamp100 (by omega), c_clamp100 (by omega), hw l k hl hk, hw l r hl hr, hw k r hk hr]
    have v1 : vp_in (nI (10 * l + k)) 100 := v_in (by omega) (by omega)
    have v2 : vp_in (nI (10 * l + r)) 100 := v_in (by omega) (by omega)
    have v3 : vp_in (nI (10 * k + r)) 100 := v_in (by omega) (by omega)
    have hbad : ¬ (∀ o, o < k + 1 → RS F l r o) → again 0 (nI k + 1) := fun g => hag _ (Or.inr ⟨rfl, g⟩)
    refine jn_in (jn_in ⟨fun a => jn_in (jn_in ⟨fun _ => hbad ?_, fun g => absurd rfl g⟩), fun a => ⟨v3, s_X12_worthTo ⟨v2, s_X12_worthTo ⟨fun b => jn_in (jn_in ⟨fun _ => hbad ?_, fun g => absurd rfl g⟩), fun b => jn_in (jn_in ⟨fun g => absurd g (by decide), fun _ => ⟨v1, s_X12_worthTo ⟨v2, s_X12_worthTo ⟨fun d => hbad ?_, fun d => hag _ (Or.inl ⟨rfl, fun o ho => ?_⟩)⟩⟩⟩⟩)⟩⟩⟩⟩)
    · rcases hP with ⟨rfl, -⟩ | ⟨-, g⟩
      · exact absurd a (by decide)
      · exact fun z => g (fun o ho => z o (by omega))
    · exact fun z => n_lt.mpr (z k (by omega)).1 b
    · exact fun z => n_lt.mpr (z k (by omega)).2 d
    · rcases hP with ⟨rfl, g⟩ | ⟨rfl, -⟩
      · by_cases e : o = k
        · subst e; exact ⟨n_lt.mp b, n_lt.mp d⟩
        · exact g o (by omega)
      · exact absurd rfl a
theorem s_X1_learn {n : Nat} (hn : n ≤ 7) {h lk fr wn : Nat → Int32} {x1 x2 x3 x4 : Int32} {post : Int32 → Int32 → Int32 → Int32 → (Nat → Int32) → Prop} (hp : ∀ a b c d wn2, (∀ k, k < 19 → wn2 k = win (vv n h lk fr (nI k - 9) (-6)).1 (vv n h lk fr (nI k - 9) (-6)).2.1) → post a b c d wn2) : wp_X1_learn x1 x2 x3 x4 wn (nI n) h lk fr post := by
  unfold wp_X1_learn
  refine lop6 (I := fun x _ _ _ _ w => ∃ k, k ≤ 19 ∧ x = nI k - 9 ∧ ∀ i, i < k → w i = win (vv n h lk fr (nI i - 9) (-6)).1 (vv n h lk fr (nI i - 9) (-6)).2.1) (fun x _ _ _ _ _ => 19 - (x + 9).toNatClampNeg) ?_ _ _ _ _ _ _ ⟨0, by omega, by decide, fun i hi => absurd hi (Nat.not_lt_zero _)⟩
  rintro x a b c d w again ⟨k, hk, rfl, hw⟩ hag
  have hx : (nI k - 9).toInt = (k : Int) - 9 := pk_sub_toInt (a := k) (b := 9) (by omega) (by omega)
  have hb : nI k - 9 + 9 = nI k := by grind
  refine ⟨fun g => hp a b c d w ?_, fun g => s_X0_hold hn (fun lm rm hM => s_X0_winner ?_)⟩
  · rw [i_lt, hx, t_9] at g
    have e : k = 19 := by omega
    subst e
    exact hw
  · rw [i_lt, hx, t_9] at g
    rw [hold_0 hn, hb, c_nI (by omega)]
    refine ⟨v_in (by omega) (by omega), hag _ _ _ _ _ _ ⟨k + 1, by omega, ?_, fun i hi => ?_⟩ ?_⟩
    · rw [← nI_1]; grind
    · by_cases e : i = k
      · subst e; rw [u_s]
      · rw [u_n e]; exact hw i (by omega)
    · show 19 - (nI k - 9 + 1 + 9).toNatClampNeg < 19 - (nI k - 9 + 9).toNatClampNeg
      rw [hb, show nI k - 9 + 1 + 9 = nI k + 1 by grind, nI_1, c_nI (by omega), c_nI (by omega)]
      omega
theorem t_rests {n : Nat} {dogs un mdogs hu mhu : Int32} {h lk fr he mh mlk mt mfr mhe : Nat → Int32} (H : RR n dogs un h lk fr he mdogs mh mlk mt mfr mhe) (HH : RH hu mhu) {x1 x2 x3 x4 y1 y2 a : Int32} {x5 y3 y4 y5 y6 : Nat → Int32} :
    wp_X11_rests dogs h lk fr x1 x2 x3 x4 x5 a (fun r _ _ _ _ _ => wp_X12_rests mdogs mhu y1 y2 mh mlk mfr y3 y4 y5 y6 a (fun r2 _ _ _ _ _ _ => r = r2)) := by
  have H0 := H
  obtain ⟨hn, rfl, rfl, -, -⟩ := H
  obtain ⟨F, hF⟩ : ∃ F : Nat → Nat → Int32, F = fun l r => win (vv n mh mlk mfr (nI l - nI r) (-6)).1 (vv n mh mlk mfr (nI l - nI r) (-6)).2.1 := ⟨_, rfl⟩
  have hdec : ∃ p : Nat → Bool, ∀ k, p k = true ↔ ∀ o, o < 10 → RS F (k / 10) (k % 10) o := by
    refine ⟨fun k => @decide (∀ o, o < 10 → RS F (k / 10) (k % 10) o) (Classical.propDecidable _), fun k => ?_⟩
    exact @decide_eq_true_iff _ (Classical.propDecidable _)
  obtain ⟨p, hpp⟩ := hdec
  have hm : ∀ r, RestSpec p 100 a r → wp_X12_rests (nI n) mhu y1 y2 mh mlk mfr y3 y4 y5 y6 a (fun r2 _ _ _ _ _ _ => r = r2) := by
    intro r hr
    unfold wp_X12_rests
    refine jn_in (lofE7_0 100 (by omega) rfl (fun k _ _ _ _ _ w => ∀ i, i < k → w i = F (i / 10) (i % 10)) ?_ ?_ _ _ _ _ _ _ (fun i hi => absurd hi (Nat.not_lt_zero _)))
    · intro z1 z2 z3 z4 z5 w hw
      refine jn_in (lofE2_1 100 (by omega) rfl (fun k s => s = nI (cnt p k) ∧ ∀ i, i < k → p i = true → ¬ nI (cnt p i) = a) ?_ ?_ _ ⟨rfl, fun i hi => absurd hi (Nat.not_lt_zero _)⟩)
      · rintro s ⟨rfl, hs⟩
        refine ⟨fun g => RestSpec_one (by omega) hr (Or.inr ⟨hs, by rw [if_neg g]⟩), fun g => RestSpec_one (by omega) hr (Or.inr ⟨hs, by rw [if_pos g]⟩)⟩
      · rintro k s again hk ⟨rfl, hs⟩ hag
        have hpr : ∀ l r, l < 10 → r < 10 → w (10 * l + r) = F l r := fun l r hl hr => by
          rw [hw _ (by omega), show (10 * l + r) / 10 = l by omega, show (10 * l + r) % 10 = r by omega]
        rw [show nI k / 10 = nI (k / 10) from pk_div (a := k) (d := 10) (by omega) (by omega) (by omega), show nI k - nI (k / 10) * 10 = nI (k % 10) by
          rw [← pk_rem (a := k) (d := 10) (by omega) (by omega) (by omega), pk_div (a := k) (d := 10) (by omega) (by omega) (by omega)]; rfl]
        refine s_X12_rest hpr (by omega) (by omega) (fun g => ⟨fun e => absurd e (by decide), fun _ => ⟨fun z => hag _ ⟨?_, fun i hi => ?_⟩, fun z => RestSpec_one (by omega) hr (Or.inl ⟨k, hk, (hpp k).mpr g, z, rfl⟩)⟩⟩) (fun g => ⟨fun _ => hag _ ⟨?_, fun i hi hpi => ?_⟩, fun e => absurd rfl e⟩)
        · rw [cnt, if_pos ((hpp k).mpr g), nI_1]
        · by_cases e : i = k
          · subst e; exact fun _ => z
          · exact hs i (by omega)
        · rw [cnt, if_neg (fun q => g ((hpp k).mp q))]
        · by_cases e : i = k
          · subst e; exact absurd ((hpp i).mp hpi) g
          · exact hs i (by omega) hpi
    · intro k z1 z2 z3 z4 z5 w again hk hw hag
      refine s_X12_fresh hn (RH_pos HH) (RR_mh H0) (fun od2 w2 f2 _ => s_X12_winner ?_)
      rw [show nI k / 10 = nI (k / 10) from pk_div (a := k) (d := 10) (by omega) (by omega) (by omega), show nI k - nI (k / 10) * 10 = nI (k % 10) by
          rw [← pk_rem (a := k) (d := 10) (by omega) (by omega) (by omega), pk_div (a := k) (d := 10) (by omega) (by omega) (by omega)]; rfl]
      rw [c_clamp100 (by omega)]
      refine ⟨v_in (by omega) (by omega), hag _ _ _ _ _ _ (fun i hi => ?_)⟩
      by_cases e : i = k
      · subst e; rw [u_s, hF]
      · rw [u_n e]; exact hw i (by omega)
  unfold wp_X11_rests
  refine ⟨fun g0 => s_X1_learn hn (fun z1 z2 z3 z4 w hw => jn_in ?_), fun g0 => hm _ (Rest_out (by omega) g0)⟩
  have hpr : ∀ l r, l < 10 → r < 10 → w (l + 9 - r) = F l r := fun l r hl hr => by
    rw [hw _ (by omega), m9b hl hr, RR_vv H0, hF]
  refine lofE2_1 100 (by omega) rfl (fun k s => s = nI (cnt p k) ∧ ∀ i, i < k → p i = true → ¬ nI (cnt p i) = a) ?_ ?_ _ ⟨rfl, fun i hi => absurd hi (Nat.not_lt_zero _)⟩
  · rintro s ⟨rfl, hs⟩
    exact ⟨fun g => hm _ (Or.inr ⟨hs, by rw [if_neg g]⟩), fun g => hm _ (Or.inr ⟨hs, by rw [if_pos g]⟩)⟩
  · rintro k s again hk ⟨rfl, hs⟩ hag
    rw [show nI k / 10 = nI (k / 10) from pk_div (a := k) (d := 10) (by omega) (by omega) (by omega), show nI k - nI (k / 10) * 10 = nI (k % 10) by
      rw [← pk_rem (a := k) (d := 10) (by omega) (by omega) (by omega), pk_div (a := k) (d := 10) (by omega) (by omega) (by omega)]; rfl]
    refine s_X1_bothRest hpr (by omega) (by omega) (fun g => ⟨fun e => absurd e (by decide), fun _ => ⟨fun z => hag _ ⟨?_, fun i hi => ?_⟩, fun z => hm _ (Or.inl ⟨k, hk, (hpp k).mpr g, z, rfl⟩)⟩⟩) (fun g => ⟨fun _ => hag _ ⟨?_, fun i hi hpi => ?_⟩, fun e => absurd rfl e⟩)
    · rw [cnt, if_pos ((hpp k).mpr g), nI_1]
    · by_cases e : i = k
      · subst e; exact fun _ => z
      · exact hs i (by omega)
    · rw [cnt, if_neg (fun q => g ((hpp k).mp q))]
    · by_cases e : i = k
      · subst e; exact absurd ((hpp i).mp hpi) g
      · exact hs i (by omega) hpi
