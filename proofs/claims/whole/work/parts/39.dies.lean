theorem fb_holes : ∀ (m n : Nat) (f : Nat → Nat), (∀ i, i < n → f i < m) → (∀ i j, i < j → j < n → f i ≠ f j) → n ≤ m := by
  intro m
  induction m with
  | zero =>
    intro n f h1 _
    rcases Nat.eq_zero_or_pos n with h | h
    · omega
    · exact absurd (h1 0 h) (Nat.not_lt_zero _)
  | succ m ih =>
    intro n f h1 h2
    by_cases hx : ∃ i, i < n ∧ f i = m
    · obtain ⟨a, ha, hfa⟩ := hx
      have hg := ih (n - 1) (fun i => if i < a then f i else f (i + 1)) (by
        intro i hi
        by_cases q : i < a
        · simp only [if_pos q]
          have b1 := h1 i (by omega)
          have b2 := h2 i a q ha
          omega
        · simp only [if_neg q]
          have b1 := h1 (i + 1) (by omega)
          have b2 := h2 a (i + 1) (by omega) (by omega)
          omega) (by
        intro i j hij hj
        by_cases q : i < a
        · by_cases r : j < a
          · simp only [if_pos q, if_pos r]
            exact h2 i j hij (by omega)
          · simp only [if_pos q, if_neg r]
            exact h2 i (j + 1) (by omega) (by omega)
        · have r : ¬ j < a := by omega
          simp only [if_neg q, if_neg r]
          exact h2 (i + 1) (j + 1) (by omega) (by omega))
      omega
    · have hg := ih n f (fun i hi => by
        have b1 := h1 i hi
        have b2 : f i ≠ m := fun e => hx ⟨i, hi, e⟩
        omega) h2
      omega
/-- two of them in one place -/
theorem fb_twice {m n : Nat} {f : Nat → Nat} (h : ∀ i, i < n → f i < m) (hm : m < n) : ∃ i j, i < j ∧ j < n ∧ f i = f j := by
  refine Classical.byContradiction fun hx => ?_
  have := fb_holes m n f h (fun i j hij hj e => hx ⟨i, j, hij, hj, e⟩)
  omega
/-- as many as places, none twice: each place is taken -/
theorem fb_onto {n : Nat} {f : Nat → Nat} (h : ∀ i, i < n → f i < n) (h2 : ∀ i j, i < j → j < n → f i ≠ f j) {y : Nat} (hy : y < n) : ∃ i, i < n ∧ f i = y := by
  refine Classical.byContradiction fun hx => ?_
  have hne : ∀ i, i < n → f i ≠ y := fun i hi e => hx ⟨i, hi, e⟩
  have := fb_holes (n - 1) n (fun i => if f i < y then f i else f i - 1) (by
    intro i hi
    have b1 := h i hi
    have b2 := hne i hi
    by_cases q : f i < y
    · simp only [if_pos q]; omega
    · simp only [if_neg q]; omega) (by
    intro i j hij hj
    have b1 := hne i (by omega)
    have b2 := hne j hj
    have b3 := h2 i j hij hj
    by_cases q : f i < y
    · by_cases r : f j < y
      · simp only [if_pos q, if_pos r]; exact b3
      · simp only [if_pos q, if_neg r]; omega
    · by_cases r : f j < y
      · simp only [if_neg q, if_pos r]; omega
      · simp only [if_neg q, if_neg r]; omega)
  omega

/-! who has the HALVES of a dead one -/
def chn (hr : Nat → Option Nat) (j : Nat) : Nat → Option Nat
  | 0 => hr j
  | k + 1 => (chn hr j k).bind hr
def IsT (n : Nat) (hr : Nat → Option Nat) (h : Nat → Int32) (j x : Nat) : Prop := ∃ k, k < n ∧ chn hr j k = some x ∧ ¬ h x = 0 ∧ ∀ i, i < k → ∃ y, chn hr j i = some y ∧ h y = 0
def NoT (hr : Nat → Option Nat) (h : Nat → Int32) (j : Nat) : Prop := ∀ k x, chn hr j k = some x → h x = 0
theorem chn_lt {n : Nat} {hr : Nat → Option Nat} (hh : ∀ d, d < n → ∀ x, hr d = some x → x < n) {j : Nat} (hj : j < n) : ∀ k x, chn hr j k = some x → x < n
  | 0, x, e => hh j hj x e
  | k + 1, x, e => by
    rw [chn] at e
    cases q : chn hr j k with
    | none => rw [q] at e; simp at e
    | some y =>
      rw [q] at e
      exact hh y (chn_lt hh hj k y q) x e
theorem chn_none {hr : Nat → Option Nat} {j k : Nat} (h : chn hr j k = none) : ∀ i, chn hr j (k + i) = none
  | 0 => h
  | i + 1 => by rw [show k + (i + 1) = (k + i) + 1 by omega, chn, chn_none h i]; rfl
theorem chn_eq {hr : Nat → Option Nat} {j a b : Nat} (h : chn hr j a = chn hr j b) : ∀ i, chn hr j (a + i) = chn hr j (b + i)
  | 0 => h
  | i + 1 => by rw [show a + (i + 1) = (a + i) + 1 by omega, show b + (i + 1) = (b + i) + 1 by omega, chn, chn, chn_eq h i]
theorem NoT_of_none {hr : Nat → Option Nat} {h : Nat → Int32} {j k : Nat} (hk : chn hr j k = none) (hd : ∀ i, i < k → ∃ y, chn hr j i = some y ∧ h y = 0) : NoT hr h j := by
  intro i x e
  rcases Nat.lt_or_ge i k with q | q
  · obtain ⟨y, e1, e2⟩ := hd i q
    rw [e] at e1
    cases e1; exact e2
  · obtain ⟨d, rfl⟩ : ∃ d, i = k + d := ⟨i - k, by omega⟩
    rw [chn_none hk d] at e; simp at e
/-- as many as there are, all dead: it has come round, or all are dead -/
theorem NoT_of_all {n : Nat} {hr : Nat → Option Nat} (hh : ∀ d, d < n → ∀ x, hr d = some x → x < n) {h : Nat → Int32} {j : Nat} (hj : j < n) (hd : ∀ i, i < n → ∃ y, chn hr j i = some y ∧ h y = 0) : NoT hr h j := by
  obtain ⟨f, hf⟩ : ∃ f : Nat → Nat, ∀ i, f i = (chn hr j i).getD 0 := ⟨fun i => (chn hr j i).getD 0, fun _ => rfl⟩
  have hf1 : ∀ i, i < n → chn hr j i = some (f i) ∧ h (f i) = 0 := by
    intro i hi
    obtain ⟨y, e1, e2⟩ := hd i hi
    have : f i = y := by rw [hf, e1]; rfl
    rw [this]; exact ⟨e1, e2⟩
  have hf2 : ∀ i, i < n → f i < n := fun i hi => chn_lt hh hj i _ (hf1 i hi).1
  by_cases hc : ∃ a b, a < b ∧ b < n ∧ f a = f b
  · obtain ⟨a, b, hab, hbn, e⟩ := hc
    have hp := chn_eq (hr := hr) (j := j) (a := a) (b := b) (by rw [(hf1 a (by omega)).1, (hf1 b hbn).1, e])
    intro k
    induction k using Nat.strongRecOn with
    | ind k ih =>
      intro x ex
      rcases Nat.lt_or_ge k n with q | q
      · have := (hf1 k q).1
        rw [ex] at this
        cases this; exact (hf1 k q).2
      · have e2 := hp (k - b)
        rw [show b + (k - b) = k by omega] at e2
        exact ih (a + (k - b)) (by omega) x (by rw [e2]; exact ex)
  · have hinj : ∀ a b, a < b → b < n → f a ≠ f b := fun a b h1 h2 e => hc ⟨a, b, h1, h2, e⟩
    intro k x ex
    have hx := chn_lt hh hj k x ex
    obtain ⟨i, hi, e⟩ := fb_onto (n := n) (f := f) hf2 hinj hx
    rw [← e]; exact (hf1 i hi).2
theorem IsT_NoT {n : Nat} {hr : Nat → Option Nat} {h : Nat → Int32} {j x : Nat} (h1 : IsT n hr h j x) (h2 : NoT hr h j) : False := by
  obtain ⟨k, -, e, hx, -⟩ := h1
  exact hx (h2 k x e)
theorem IsT_one {n : Nat} {hr : Nat → Option Nat} {h : Nat → Int32} {j x y : Nat} (h1 : IsT n hr h j x) (h2 : IsT n hr h j y) : x = y := by
  obtain ⟨k, -, e, hx, hi⟩ := h1
  obtain ⟨k2, -, e2, hy, hi2⟩ := h2
  rcases Nat.lt_trichotomy k k2 with q | q | q
  · obtain ⟨z, g1, g2⟩ := hi2 k q
    rw [e] at g1; cases g1; exact absurd g2 hx
  · subst q; rw [e] at e2; cases e2; rfl
  · obtain ⟨z, g1, g2⟩ := hi k2 q
    rw [e2] at g1; cases g1; exact absurd g2 hy
def cInt (o : Option Nat) (none_ : Int32) : Int32 := match o with
  | none => none_
  | some x => nI x
theorem s_X9_livingHeirOf {n j : Nat} (hn : n ≤ 7) (hj : j < n) {h he : Nat → Int32} {hr : Nat → Option Nat} (hh : ∀ d, d < n → ∀ x, hr d = some x → x < n) (hhe : ∀ d, d < n → he d = cInt (hr d) (-1)) {post : Int32 → Prop} (h1 : ∀ x, x < n → IsT n hr h j x → post (nI x)) (h0 : NoT hr h j → post (-1)) : wp_X9_livingHeirOf (nI n) h he (nI j) post := by
  unfold wp_X9_livingHeirOf
  rw [c_nI (by omega)]
  refine ⟨v_in (by omega) (by omega), ?_⟩
  refine lofE2_1 n (by omega) rfl (fun k x => x = cInt (chn hr j k) (-1) ∧ ∀ i, i < k → ∃ y, chn hr j i = some y ∧ h y = 0) ?_ ?_ _ ⟨hhe j hj, fun i hi => absurd hi (Nat.not_lt_zero _)⟩
  · rintro x ⟨-, hd⟩
    exact h0 (NoT_of_all hh hj hd)
  · rintro k x again hk ⟨rfl, hd⟩ hag
    cases q : chn hr j k with
    | none =>
      refine s_X9_has (by omega) (fun z => ?_) (fun _ => ⟨fun _ => h0 (NoT_of_none q hd), fun e => absurd rfl e⟩)
      obtain ⟨i, hi, e⟩ := z
      have e2 : (-1 : Int32) = nI i := e
      rw [i_eq, nI_toInt (by omega), t_m1] at e2; omega
    | some y =>
      have hy := chn_lt hh hj k y q
      show wp_X9_has (nI n) (nI y) _
      refine s_X9_has (by omega) (fun _ => ⟨fun e => absurd e (by decide), fun _ => s_X9_isDead (by omega) (fun d => ⟨fun _ => ?_, fun e => absurd e (by decide)⟩) (fun d => ⟨fun e => absurd rfl e, fun _ => h1 y hy ⟨k, hk, q, d, hd⟩⟩)⟩) (fun z => absurd ⟨y, hy, rfl⟩ z)
      show vp_in (nI y) 7 ∧ again (he (nI y).toNatClampNeg) (nI k + 1)
      rw [c_nI (by omega)]
      refine ⟨v_in (by omega) (by omega), hag _ ⟨?_, fun i hi => ?_⟩⟩
      · rw [hhe y hy, chn, q]; rfl
      · by_cases e : i = k
        · subst e; exact ⟨y, q, d⟩
        · exact hd i (by omega)
theorem min9 {a b : Nat} (ha : a ≤ 9) (hb : b ≤ 9) : (if (9 : Int32) < nI a + nI b then 9 else nI a + nI b) = nI (min (a + b) 9) := by
  rw [nI_add]
  by_cases q : 9 < a + b
  · have g : (9 : Int32) < nI (a + b) := nI_lt (a := 9) q (by omega)
    rw [if_pos g, show min (a + b) 9 = 9 by omega]; rfl
  · have g : ¬ (9 : Int32) < nI (a + b) := fun z => q ((nI_ltI (a := 9) (by omega) (by omega)).mp z)
    rw [if_neg g, show min (a + b) 9 = a + b by omega]
theorem t_dies {n : Nat} {dogs un mdogs gk uk ek a : Int32} {h lk fr he mh mlk mt mfr mhe : Nat → Int32} (H : RR n dogs un h lk fr he mdogs mh mlk mt mfr mhe) :
    wp_X11_dies dogs h he gk uk ek a (fun r h2 gk2 uk2 ek2 => wp_X12_dies mdogs mh mhe a (fun r2 mh2 => r = r2 ∧ RR n dogs un h2 lk fr he mdogs mh2 mlk mt mfr mhe ∧ ((gk2 = gk ∧ uk2 = uk ∧ ek2 = ek ∧ h2 = h ∧ mh2 = mh) ∨ (gk2 = 0 ∧ uk2 = 0 ∧ ek2 = 0)))) := by
  have H0 := H
  obtain ⟨hn, rfl, rfl, hd, hu⟩ := H
  unfold wp_X11_dies
  refine s_X9_has (by omega) (fun q => ⟨fun _ => ?_, fun e => absurd e (by decide)⟩) (fun q => ⟨fun e => absurd rfl e, fun _ => ?_⟩)
  · obtain ⟨j, hj, rfl⟩ := q
    obtain ⟨ej, -, -, ⟨fj, hfj, efj⟩, -⟩ := hd j hj
    refine s_X9_isDead (by omega) (fun z => ⟨fun e => absurd e (by decide), fun _ => ?_⟩) (fun z => ⟨fun _ => ?_, fun e => absurd rfl e⟩)
    · unfold wp_X12_dies
      refine s_X12_isDog (by omega) (fun _ => ⟨fun _ => ?_, fun e => absurd e (by decide)⟩) (fun z => absurd ⟨j, hj, rfl⟩ z)
      rw [c_nI (by omega)]
      exact ⟨v_in (by omega) (by omega), fun e => absurd (by rw [← ej]; exact z) e, fun _ => ⟨rfl, H0, Or.inl ⟨rfl, rfl, rfl, rfl, rfl⟩⟩⟩
    · -- the living one dies
      have hzm : ¬ mh j = 0 := fun e => z (by rw [ej]; exact e)
      have hex : ∃ hr : Nat → Option Nat, ∀ d, d < n → (∀ x, hr d = some x → x < n) ∧ he d = cInt (hr d) (-1) ∧ mhe d = cInt (hr d) (-6) := by
        refine ⟨fun d => if he d = -1 then none else some (he d).toNatClampNeg, fun d hdn => ?_⟩
        obtain ⟨-, -, -, -, -, -, e7⟩ := hd d hdn
        rcases e7 with ⟨g1, g2⟩ | ⟨i, hi, g1, g2⟩
        · refine ⟨fun x e => ?_, ?_, ?_⟩
          · simp [g1] at e
          · simp [g1, cInt]
          · simp [g1, g2, cInt]
        · have g3 : ¬ he d = -1 := by rw [g1, i_eq, nI_toInt (by omega), t_m1]; omega
          refine ⟨fun x e => ?_, ?_, ?_⟩
          · simp only [g3, if_false] at e
            cases e
            rw [g1, c_nI (by omega)]; exact hi
          · simp only [g3, if_false, cInt]
            rw [g1, c_nI (by omega)]
          · simp only [g3, if_false, cInt]
            rw [g1, g2, c_nI (by omega)]
      obtain ⟨hr, hhr⟩ := hex
      have hh : ∀ d, d < n → ∀ x, hr d = some x → x < n := fun d hd => (hhr d hd).1
      -- HALVES behind it, on both sides
      have hu1 : ∀ d, d < n → upd h j 0 d = upd mh j 0 d := by
        intro d hdn
        by_cases e : d = j
        · subst e; rw [u_s, u_s]
        · rw [u_n e, u_n e]; exact (hd d hdn).1
      have hT1 : ∀ x, x < n → (IsT n hr (upd h j 0) j x ↔ IsT n hr (upd mh j 0) j x) := by
        intro x hx
        constructor
        · rintro ⟨k, hk, e, g1, g2⟩
          exact ⟨k, hk, e, by rw [← hu1 x hx]; exact g1, fun i hi => by
            obtain ⟨y, y1, y2⟩ := g2 i hi
            exact ⟨y, y1, by rw [← hu1 y (chn_lt hh hj i y y1)]; exact y2⟩⟩
        · rintro ⟨k, hk, e, g1, g2⟩
          exact ⟨k, hk, e, by rw [hu1 x hx]; exact g1, fun i hi => by
            obtain ⟨y, y1, y2⟩ := g2 i hi
            exact ⟨y, y1, by rw [hu1 y (chn_lt hh hj i y y1)]; exact y2⟩⟩
      have hT0 : NoT hr (upd h j 0) j ↔ NoT hr (upd mh j 0) j := by
        constructor
        · intro g k x e; rw [← hu1 x (chn_lt hh hj k x e)]; exact g k x e
        · intro g k x e; rw [hu1 x (chn_lt hh hj k x e)]; exact g k x e
      have hm : ∀ (r : Int32) (h2 : Nat → Int32), ((NoT hr (upd mh j 0) j ∧ r = h j ∧ h2 = upd h j 0) ∨ (∃ x, x < n ∧ IsT n hr (upd mh j 0) j x ∧ r = (upd h j 0 x + h j) - (if (9 : Int32) < upd h j 0 x + h j then 9 else upd h j 0 x + h j) ∧ h2 = upd (upd h j 0) x (if (9 : Int32) < upd h j 0 x + h j then 9 else upd h j 0 x + h j))) → wp_X12_dies (nI n) mh mhe (nI j) (fun r2 mh2 => r = r2 ∧ RR n (nI n) un h2 lk fr he (nI n) mh2 mlk mt mfr mhe ∧ (((0 : Int32) = gk ∧ (0 : Int32) = uk ∧ (0 : Int32) = ek ∧ h2 = h ∧ mh2 = mh) ∨ ((0 : Int32) = 0 ∧ (0 : Int32) = 0 ∧ (0 : Int32) = 0))) := by
        intro r h2 hq
        unfold wp_X12_dies
        refine s_X12_isDog (by omega) (fun _ => ⟨fun _ => ?_, fun e => absurd e (by decide)⟩) (fun z => absurd ⟨j, hj, rfl⟩ z)
        have v7 : vp_in (nI j) 7 := v_in (by omega) (by omega)
        rw [c_nI (by omega)]
        refine ⟨v7, fun _ => ⟨v7, v7, v7, jn_in ?_⟩, fun e => absurd e hzm⟩
        have hlost : NoT hr (upd mh j 0) j → r = mh j ∧ RR n (nI n) un h2 lk fr he (nI n) (upd mh j 0) mlk mt mfr mhe ∧ (((0 : Int32) = gk ∧ (0 : Int32) = uk ∧ (0 : Int32) = ek ∧ h2 = h ∧ upd mh j 0 = mh) ∨ ((0 : Int32) = 0 ∧ (0 : Int32) = 0 ∧ (0 : Int32) = 0)) := by
          intro hno
          rcases hq with ⟨-, rfl, rfl⟩ | ⟨x, hx, hT, -⟩
          · refine ⟨ej, ⟨hn, rfl, rfl, fun d hdn => ?_, hu⟩, Or.inr ⟨rfl, rfl, rfl⟩⟩
            obtain ⟨f1, f2, f3, f4, f5⟩ := hd d hdn
            refine ⟨hu1 d hdn, f2, f3, ?_, f5⟩
            by_cases e : d = j
            · subst e; exact ⟨0, by omega, by rw [u_s]; rfl⟩
            · rw [u_n e]; exact f4
          · exact absurd hno (fun g => IsT_NoT hT g)
        have hend : ∀ x, x < n → IsT n hr (upd mh j 0) j x → (vp_in (nI x) 7 ∧ jn (fun (t_3 : Int32) => (vp_in (nI x) 7 ∧ (vp_in (nI x) 7 ∧ (r = (((upd mh j (0 : Int32)) x) + mh j) - ((upd (upd mh j (0 : Int32)) x t_3) x) ∧ RR n (nI n) un h2 lk fr he (nI n) (upd (upd mh j (0 : Int32)) x t_3) mlk mt mfr mhe ∧ (((0 : Int32) = gk ∧ (0 : Int32) = uk ∧ (0 : Int32) = ek ∧ h2 = h ∧ (upd (upd mh j (0 : Int32)) x t_3) = mh) ∨ ((0 : Int32) = 0 ∧ (0 : Int32) = 0 ∧ (0 : Int32) = 0)))))) (fun (J123 : Int32 → Prop) => (((((upd mh j (0 : Int32)) x) + mh j) ≤ (9 : Int32) → J123 (((upd mh j (0 : Int32)) x) + mh j)) ∧ (¬ (((upd mh j (0 : Int32)) x) + mh j) ≤ (9 : Int32) → J123 (9 : Int32))))) := by
          intro x hx hT
          have vx : vp_in (nI x) 7 := v_in (by omega) (by omega)
          have hxj : x ≠ j := by
            rintro rfl
            obtain ⟨k, -, -, g, -⟩ := hT
            exact g (by rw [u_s])
          obtain ⟨ex, -, -, ⟨fx, hfx, efx⟩, -⟩ := hd x hx
          rcases hq with ⟨hno, -⟩ | ⟨x2, hx2, hT2, hr2, hh2⟩
          · exact absurd hno (fun g => IsT_NoT hT g)
          · have e2 : x2 = x := IsT_one hT2 hT
            subst e2
            rw [u_n hxj] at hr2 hh2 ⊢
            rw [efx, efj, min9 hfx hfj] at hr2 hh2
            have hfin : ∀ t : Int32, t = nI (min (fx + fj) 9) → (vp_in (nI x2) 7 ∧ (vp_in (nI x2) 7 ∧ (r = (mh x2 + mh j) - ((upd (upd mh j (0 : Int32)) x2 t) x2) ∧ RR n (nI n) un h2 lk fr he (nI n) (upd (upd mh j (0 : Int32)) x2 t) mlk mt mfr mhe ∧ (((0 : Int32) = gk ∧ (0 : Int32) = uk ∧ (0 : Int32) = ek ∧ h2 = h ∧ (upd (upd mh j (0 : Int32)) x2 t) = mh) ∨ ((0 : Int32) = 0 ∧ (0 : Int32) = 0 ∧ (0 : Int32) = 0))))) := by
              rintro t rfl
              refine ⟨vx, vx, ?_, ⟨hn, rfl, rfl, fun d hdn => ?_, hu⟩, Or.inr ⟨rfl, rfl, rfl⟩⟩
              · rw [u_s, hr2, ← ex, ← ej, efx, efj]
              · obtain ⟨f1, f2, f3, f4, f5⟩ := hd d hdn
                rw [hh2]
                refine ⟨?_, f2, f3, ?_, f5⟩
                · by_cases e : d = x2
                  · subst e; rw [u_s, u_s]
                  · rw [u_n e, u_n e]; exact hu1 d hdn
                · by_cases e : d = x2
                  · subst e; rw [u_s]; exact ⟨_, by omega, rfl⟩
                  · rw [u_n e]
                    by_cases e2 : d = j
                    · subst e2; exact ⟨0, by omega, by rw [u_s]; rfl⟩
                    · rw [u_n e2]; exact f4
            have hm9 := min9 hfx hfj
            rw [← efx, ← efj, ex, ej] at hm9
            refine ⟨vx, jn_in ⟨fun g => hfin _ ?_, fun g => hfin _ ?_⟩⟩
            · rw [← hm9, if_neg (n_lt.mpr g)]
            · rw [← hm9, if_pos (n_le.mp g)]
        refine lofE2_1 7 (by omega) rfl (fun k x => x = cInt (chn hr j k) (-6) ∧ ∀ i, i < k → ∃ y, chn hr j i = some y ∧ upd mh j 0 y = 0) ?_ ?_ _ ⟨(hhr j hj).2.2, fun i hi => absurd hi (Nat.not_lt_zero _)⟩
        · rintro x ⟨rfl, hdd⟩
          have hno : NoT hr (upd mh j 0) j := NoT_of_all hh hj (fun i hi => hdd i (by omega))
          cases q : chn hr j 7 with
          | none => exact ⟨fun _ => hlost hno, fun e => absurd (by decide : ((-6 : Int32) < 0)) e⟩
          | some y =>
            have hy := chn_lt hh hj 7 y q
            rw [show cInt (some y) (-6) = nI y from rfl, c_nI (show y < 64 by omega)]
            exact ⟨fun _ => hlost hno, fun _ => ⟨v_in (by omega) (by omega), fun e => absurd (hno 7 y q) e, fun _ => hlost hno⟩⟩
        · rintro k x again hk ⟨rfl, hdd⟩ hag
          cases q : chn hr j k with
          | none =>
            have hno := NoT_of_none q hdd
            exact ⟨fun _ => ⟨fun _ => hlost hno, fun e => absurd (by decide : ((-6 : Int32) < 0)) e⟩, fun e => absurd (by decide : ((-6 : Int32) < 0)) e⟩
          | some y =>
            have hy := chn_lt hh hj k y q
            have vy : vp_in (nI y) 7 := v_in (by omega) (by omega)
            rw [show cInt (some y) (-6) = nI y from rfl]
            dsimp only
            rw [c_nI (show y < 64 by omega)]
            refine ⟨fun e => absurd e (nI_pos (by omega)), fun _ => ⟨vy, fun g => ⟨fun e => absurd e (nI_pos (by omega)), fun _ => ⟨vy, fun _ => ?_, fun e => absurd e g⟩⟩, fun g => ⟨vy, hag _ ⟨?_, fun i hi => ?_⟩⟩⟩⟩
            · refine hend y hy ?_
              rcases Nat.lt_or_ge k n with kn | kn
              · exact ⟨k, kn, q, g, hdd⟩
              · exact absurd (NoT_of_all hh hj (fun i hi => hdd i (by omega)) k y q) g
            · rw [(hhr y hy).2.2, chn, q]; rfl
            · by_cases e : i = k
              · subst e; exact ⟨y, q, g⟩
              · exact hdd i (by omega)
      unfold wp_X11_changed wp_X9_bury
      rw [c_nI (by omega)]
      refine ⟨v_in (by omega) (by omega), v_in (by omega) (by omega), s_X9_livingHeirOf hn hj hh (fun d hd => (hhr d hd).2.1) (fun x hx hT => ?_) (fun hno => ?_)⟩
      · have vx : vp_in (nI x) 7 := v_in (by omega) (by omega)
        rw [c_nI (by omega)]
        refine ⟨fun _ => ⟨vx, vx, vx, hm _ _ (Or.inr ⟨x, hx, (hT1 x hx).mp hT, ?_, rfl⟩)⟩, fun e => ?_⟩
        · rw [u_s]
        · rw [i_eq, nI_toInt (by omega), t_m1] at e; omega
      · exact ⟨fun e => absurd rfl e, fun _ => hm _ _ (Or.inl ⟨hT0.mp hno, rfl, rfl⟩)⟩
  · unfold wp_X12_dies
    exact s_X12_isDog (by omega) (fun z => absurd z q) (fun _ => ⟨fun e => absurd rfl e, fun _ => ⟨rfl, H0, Or.inl ⟨rfl, rfl, rfl, rfl, rfl⟩⟩⟩)
