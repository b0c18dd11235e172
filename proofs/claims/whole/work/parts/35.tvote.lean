def vv (n : Nat) (h lk fr : Nat → Int32) (lead out : Int32) : VS := vfold n h lk fr (fun _ => lead) id (fun k => decide (nI k = out)) n
theorem RR_vv {n : Nat} {dogs un mdogs : Int32} {h lk fr he mh mlk mt mfr mhe : Nat → Int32} (H : RR n dogs un h lk fr he mdogs mh mlk mt mfr mhe) (lead out : Int32) : vv n h lk fr lead out = vv n mh mlk mfr lead out := by
  obtain ⟨hn, -, -, hd, -⟩ := H
  exact vfold_congr n (fun i hi => ⟨rfl, rfl, fun _ => ⟨(hd i hi).1, (hd i hi).2.1, (hd i hi).2.2.1, rfl⟩⟩)
theorem nI_ne6 {k : Nat} (h : k < 1000) : ¬ nI k = -6 := by
  rw [i_eq, nI_toInt (by omega), t_m6]; omega
theorem hold_0 {n : Nat} (hn : n ≤ 7) {h lk fr : Nat → Int32} {lead : Int32} : vfold n h lk fr (fun d => if bt 0 d then 0 else lead) id (bt 0) n = vv n h lk fr lead (-6) := by
  refine vfold_congr n (fun i hi => ⟨rfl, ?_, fun _ => ⟨rfl, rfl, rfl, ?_⟩⟩)
  · rw [b_0, decide_eq_false (nI_ne6 (by omega))]
  · simp [b_0]
theorem hold_1 {n j : Nat} (hn : n ≤ 7) (hj : j < n) {h lk fr : Nat → Int32} {lead : Int32} : vfold n h lk fr (fun d => if bt 0 d then 0 else lead) id (bt ((1 : Int32) <<< (nI j &&& 31))) n = vv n h lk fr lead (nI j) := by
  refine vfold_congr n (fun i hi => ⟨rfl, ?_, fun _ => ⟨rfl, rfl, rfl, ?_⟩⟩)
  · rw [b_bit (by omega) (by omega)]
    by_cases e : i = j
    · simp [e]
    · rw [decide_eq_false e, decide_eq_false]
      exact fun q => e ((nI_eq (by omega) (by omega)).mp q)
  · simp [b_0]
theorem s_X12_fresh {n : Nat} {hu al ar l r out : Int32} {h lk fr od w fl : Nat → Int32} {post : Int32 → Int32 → (Nat → Int32) → (Nat → Int32) → (Nat → Int32) → Prop} (hn : n ≤ 7) (hhu : 0 < hu) (hh : ∀ d, d < n → ∃ a : Nat, a ≤ 9 ∧ h d = nI a)
    (hp : ∀ od2 w2 f2 : Nat → Int32, (∀ e, e < 7 → w2 e = (vv n h lk fr (l - r) out).2.2 e) → post (vv n h lk fr (l - r) out).1 (vv n h lk fr (l - r) out).2.1 od2 w2 f2) :
    wp_X12_fresh (nI n) hu al ar h lk fr od w fl l r out post := by
  unfold wp_X12_fresh
  refine s_X12_byLetters (fun od2 ho => s_X12_nobodyFull (fun f2 hf => ?_))
  have e : vfold n h lk fr (fun d => if f2 d < hu then l - r else 0) id (fun k => decide (nI (id k) = out)) n = vv n h lk fr (l - r) out :=
    vfold_congr n (fun i hi => ⟨rfl, rfl, fun _ => ⟨rfl, rfl, rfl, by show (if f2 i < hu then l - r else 0) = l - r; rw [hf i (by omega), if_pos hhu]⟩⟩)
  refine s_X12_letGo (o := id) hn (fun k hk => ⟨hk, ho k (by omega)⟩) hh (fun w2 f3 hw hf3 _ => ?_)
  rw [e] at hw ⊢
  exact hp od2 w2 f3 hw
theorem RR_mh {n : Nat} {dogs un mdogs : Int32} {h lk fr he mh mlk mt mfr mhe : Nat → Int32} (H : RR n dogs un h lk fr he mdogs mh mlk mt mfr mhe) : ∀ d, d < n → ∃ a : Nat, a ≤ 9 ∧ mh d = nI a := by
  intro d hd
  obtain ⟨e1, -, -, ⟨a, ha, e2⟩, -⟩ := H.2.2.2.1 d hd
  exact ⟨a, ha, by rw [← e1, e2]⟩
theorem RH_pos {hu mhu : Int32} (h : RH hu mhu) : 0 < mhu := by
  obtain ⟨rfl, k, h1, h2, rfl⟩ := h
  rw [i_lt, t_0, nI_toInt (by omega)]; omega
theorem t_goes {n : Nat} {dogs un mdogs hu mhu : Int32} {h lk fr he mh mlk mt mfr mhe : Nat → Int32} (H : RR n dogs un h lk fr he mdogs mh mlk mt mfr mhe) (HH : RH hu mhu) {x1 x2 x3 x4 y1 y2 a b d : Int32} {y3 y4 y5 : Nat → Int32} :
    wp_X11_goes dogs h lk fr x1 x2 x3 x4 a b d (fun r _ _ _ _ => wp_X12_goes mdogs mhu y1 y2 mh mlk mfr y3 y4 y5 a b d (fun r2 _ _ _ _ _ => r = r2)) := by
  have H0 := H
  obtain ⟨hn, rfl, rfl, -, -⟩ := H
  unfold wp_X11_goes
  refine s_X9_has (by omega) (fun q => ⟨fun _ => s_X11_areLivers (fun q2 => ⟨fun _ => s_X0_hold hn (fun lm rm hM => ?_), fun e => absurd e (by decide)⟩) (fun q2 => ⟨fun e => absurd rfl e, fun _ => ?_⟩), fun e => absurd e (by decide)⟩) (fun q => ⟨fun e => absurd rfl e, fun _ => ?_⟩)
  · obtain ⟨j, hj, rfl⟩ := q
    rw [hold_0 hn] at hM ⊢
    refine s_X0_placeOf hM hn hj (vfold_rng _ _) ?_
    unfold wp_X12_goes
    refine s_X12_isDog (by omega) (fun _ => ⟨fun _ => s_X12_areLivers (fun _ => ⟨fun _ => s_X12_fresh hn (RH_pos HH) (RR_mh H0) (fun od2 w2 f2 hw => ?_), fun e => absurd e (by decide)⟩) (fun z => absurd q2 z), fun e => absurd e (by decide)⟩) (fun z => absurd ⟨j, hj, rfl⟩ z)
    rw [c_nI (by omega), hw j (by omega), RR_vv H0]
    exact ⟨v_in (by omega) (by omega), rfl⟩
  · unfold wp_X12_goes
    exact s_X12_isDog (by omega) (fun _ => ⟨fun _ => s_X12_areLivers (fun z => absurd z q2) (fun _ => ⟨fun e => absurd rfl e, fun _ => rfl⟩), fun e => absurd e (by decide)⟩) (fun z => absurd q z)
  · unfold wp_X12_goes
    exact s_X12_isDog (by omega) (fun z => absurd z q) (fun _ => ⟨fun e => absurd rfl e, fun _ => rfl⟩)
theorem t_vote {n : Nat} {dogs un mdogs hu mhu : Int32} {h lk fr he mh mlk mt mfr mhe : Nat → Int32} (H : RR n dogs un h lk fr he mdogs mh mlk mt mfr mhe) (HH : RH hu mhu) {x1 x2 x3 x4 y1 y2 a b d : Int32} {y3 y4 y5 : Nat → Int32} :
    wp_X11_vote dogs h lk fr x1 x2 x3 x4 a b d (fun r _ _ _ _ => wp_X12_vote mdogs mhu y1 y2 mh mlk mfr y3 y4 y5 a b d (fun r2 _ _ _ _ _ => r = r2)) := by
  have H0 := H
  obtain ⟨hn, rfl, rfl, -, -⟩ := H
  have hbad : ¬ (liv a b ∧ (0 ≤ d ∧ d ≤ 2)) → wp_X12_vote (nI n) mhu y1 y2 mh mlk mfr y3 y4 y5 a b d (fun r2 _ _ _ _ _ => (-2 : Int32) = r2) := by
    intro hq
    unfold wp_X12_vote
    exact s_X12_areLivers (fun q => ⟨fun e => absurd e (by decide), fun _ => s_X12_in (fun q2 => absurd ⟨q, q2⟩ hq) (fun _ => ⟨fun e => absurd rfl e, fun _ => rfl⟩)⟩) (fun q => ⟨fun _ => rfl, fun e => absurd rfl e⟩)
  unfold wp_X11_vote
  refine s_X11_areLivers (fun q => ⟨fun e => absurd e (by decide), fun _ => s_X11_isWithin (fun q2 => ⟨fun _ => s_X0_hold hn (fun lm rm hM => ?_), fun e => absurd e (by decide)⟩) (fun q2 => ⟨fun e => absurd rfl e, fun _ => hbad (fun z => q2 z.2)⟩)⟩) (fun q => ⟨fun _ => hbad (fun z => q z.1), fun e => absurd rfl e⟩)
  rw [hold_0 hn]
  have hm : ∀ r : Int32, r = (if d = 0 then (vv n h lk fr (a - b) (-6)).1 else if d = 1 then (vv n h lk fr (a - b) (-6)).2.1 else win (vv n h lk fr (a - b) (-6)).1 (vv n h lk fr (a - b) (-6)).2.1) → wp_X12_vote (nI n) mhu y1 y2 mh mlk mfr y3 y4 y5 a b d (fun r2 _ _ _ _ _ => r = r2) := by
    rintro r rfl
    unfold wp_X12_vote
    refine s_X12_areLivers (fun _ => ⟨fun e => absurd e (by decide), fun _ => s_X12_in (fun _ => ⟨fun _ => s_X12_fresh hn (RH_pos HH) (RR_mh H0) (fun od2 w2 f2 hw => ?_), fun e => absurd e (by decide)⟩) (fun z => absurd q2 z)⟩) (fun z => absurd q z)
    rw [RR_vv H0]
    exact ⟨fun g => ⟨fun g2 => s_X12_winner (by rw [if_neg g, if_neg g2]), fun g2 => by rw [if_neg g, if_pos g2]⟩, fun g => by rw [if_pos g]⟩
  exact ⟨fun g => hm _ (by rw [if_pos g]), fun g => ⟨fun g2 => hm _ (by rw [if_neg g, if_pos g2]), fun g2 => s_X0_winner (hm _ (by rw [if_neg g, if_neg g2]))⟩⟩
def stl (f : Nat → Bool) : Nat → Int32
  | 0 => 0
  | k + 1 => if f k then stl f k ||| ((1 : Int32) <<< (nI k &&& 31)) else stl f k
theorem t_stolen {n : Nat} {dogs un mdogs hu mhu : Int32} {h lk fr he mh mlk mt mfr mhe : Nat → Int32} (H : RR n dogs un h lk fr he mdogs mh mlk mt mfr mhe) (HH : RH hu mhu) {x1 x2 x3 x4 y1 y2 a b : Int32} {y3 y4 y5 : Nat → Int32} :
    wp_X11_stolen dogs h lk fr x1 x2 x3 x4 a b (fun r _ _ _ _ => wp_X12_stolen mdogs mhu y1 y2 mh mlk mfr y3 y4 y5 a b (fun r2 _ _ _ _ _ => r = r2)) := by
  have H0 := H
  obtain ⟨hn, rfl, rfl, -, -⟩ := H
  unfold wp_X11_stolen
  refine s_X11_areLivers (fun q => ⟨fun _ => s_X0_hold hn (fun lm rm hM => ?_), fun e => absurd e (by decide)⟩) (fun q => ⟨fun e => absurd rfl e, fun _ => ?_⟩)
  · rw [hold_0 hn]
    refine s_X0_winner ?_
    obtain ⟨f, hf⟩ : ∃ f : Nat → Bool, f = fun k => decide (¬ win (vv n mh mlk mfr (a - b) (nI k)).1 (vv n mh mlk mfr (a - b) (nI k)).2.1 = win (vv n mh mlk mfr (a - b) (-6)).1 (vv n mh mlk mfr (a - b) (-6)).2.1) := ⟨_, rfl⟩
    rw [RR_vv H0]
    refine lofE6_1 n (by omega) rfl (fun k s _ _ _ _ => s = stl f k) ?_ ?_ _ _ _ _ _ rfl
    · rintro s _ _ _ _ rfl
      unfold wp_X12_stolen
      refine s_X12_areLivers (fun _ => ⟨fun _ => s_X12_fresh hn (RH_pos HH) (RR_mh H0) (fun od2 w2 f2 hw => s_X12_winner ?_), fun e => absurd e (by decide)⟩) (fun z => absurd q z)
      refine lofE7_1 n (by omega) rfl (fun k s _ _ _ _ _ => s = stl f k) ?_ ?_ _ _ _ _ _ _ rfl
      · rintro s _ _ _ _ _ rfl; rfl
      · rintro k s z1 z2 z3 z4 z5 again hk rfl hag
        refine s_X12_fresh hn (RH_pos HH) (RR_mh H0) (fun od2 w2 f2 hw => s_X12_winner (jn_in ⟨fun g => hag _ _ _ _ _ _ ?_, fun g => hag _ _ _ _ _ _ ?_⟩))
        · rw [stl, if_neg (by rw [hf]; simp [g])]; simp
        · rw [stl, if_pos (by rw [hf]; simp [g])]
    · rintro k s z1 z2 z3 z4 again hk rfl hag
      refine s_X0_hold hn (fun lm rm hM => ?_)
      rw [hold_1 hn hk, RR_vv H0]
      refine s_X0_winner ⟨fun g => hag _ _ _ _ _ ?_, fun g => hag _ _ _ _ _ ?_⟩
      · rw [stl, if_neg (by rw [hf]; simp [g])]
      · rw [stl, if_pos (by rw [hf]; simp [g])]
  · unfold wp_X12_stolen
    exact s_X12_areLivers (fun z => absurd z q) (fun _ => ⟨fun e => absurd rfl e, fun _ => rfl⟩)
def WonSpec (f : Nat → Prop) (r : Int32) : Prop := (∃ l, l ≤ 20 ∧ r = nI l ∧ f l ∧ ∀ i, i < l → ¬ f i) ∨ (r = -6 ∧ ∀ l, l ≤ 20 → ¬ f l)
theorem WonSpec_one {f : Nat → Prop} {r r2 : Int32} (h : WonSpec f r) (h2 : WonSpec f r2) : r = r2 := by
  rcases h with ⟨l, h1, rfl, h3, h4⟩ | ⟨rfl, h1⟩
  · rcases h2 with ⟨l2, g1, rfl, g3, g4⟩ | ⟨rfl, g1⟩
    · rcases Nat.lt_trichotomy l l2 with q | q | q
      · exact absurd h3 (g4 l q)
      · rw [q]
      · exact absurd g3 (h4 l2 q)
    · exact absurd h3 (g1 l h1)
  · rcases h2 with ⟨l2, g1, rfl, g3, g4⟩ | ⟨rfl, g1⟩
    · exact absurd g3 (h1 l2 g1)
    · rfl
theorem t_won {n : Nat} {dogs un mdogs hu mhu : Int32} {h lk fr he mh mlk mt mfr mhe : Nat → Int32} (H : RR n dogs un h lk fr he mdogs mh mlk mt mfr mhe) (HH : RH hu mhu) {x1 x2 x3 x4 y1 y2 a : Int32} {y3 y4 y5 : Nat → Int32} :
    wp_X11_won dogs h lk fr x1 x2 x3 x4 a (fun r _ _ _ _ => wp_X12_won mdogs mhu y1 y2 mh mlk mfr y3 y4 y5 a (fun r2 _ _ _ _ _ => r = r2)) := by
  have H0 := H
  obtain ⟨hn, rfl, rfl, -, -⟩ := H
  obtain ⟨f, hf⟩ : ∃ f : Nat → Prop, f = fun k => win (vv n mh mlk mfr (nI k - a) (-6)).1 (vv n mh mlk mfr (nI k - a) (-6)).2.1 = 0 := ⟨_, rfl⟩
  unfold wp_X11_won
  refine s_X11_isWithin (fun q => ⟨fun _ => ?_, fun e => absurd e (by decide)⟩) (fun q => ⟨fun e => absurd rfl e, fun _ => ?_⟩)
  · have hm : ∀ r, WonSpec f r → wp_X12_won (nI n) mhu y1 y2 mh mlk mfr y3 y4 y5 a (fun r2 _ _ _ _ _ => r = r2) := by
      intro r hr
      unfold wp_X12_won
      refine s_X12_in (fun _ => ⟨fun _ => ?_, fun e => absurd e (by decide)⟩) (fun z => absurd q z)
      refine lofG6_0 20 (by omega) rfl (fun k _ _ _ _ _ => ∀ l, l < k → ¬ f l) ?_ ?_ _ _ _ _ _ (fun l hl => absurd hl (Nat.not_lt_zero _))
      · intro _ _ _ _ _ hk
        exact WonSpec_one hr (Or.inr ⟨rfl, fun l hl => hk l (by omega)⟩)
      · intro k z1 z2 z3 z4 z5 again hk hP hag
        refine s_X12_fresh hn (RH_pos HH) (RR_mh H0) (fun od2 w2 f2 hw => s_X12_winner ⟨fun g => hag _ _ _ _ _ (fun l hl => ?_), fun g => WonSpec_one hr (Or.inl ⟨k, hk, rfl, ?_, hP⟩)⟩)
        · by_cases e : l = k
          · subst e; rw [hf]; exact g
          · exact hP l (by omega)
        · rw [hf]; exact g
    refine lofG5_0 20 (by omega) rfl (fun k _ _ _ _ => ∀ l, l < k → ¬ f l) ?_ ?_ _ _ _ _ (fun l hl => absurd hl (Nat.not_lt_zero _))
    · intro _ _ _ _ hk
      exact hm _ (Or.inr ⟨rfl, fun l hl => hk l (by omega)⟩)
    · intro k z1 z2 z3 z4 again hk hP hag
      refine s_X0_hold hn (fun lm rm hM => ?_)
      rw [hold_0 hn, RR_vv H0]
      refine s_X0_winner ⟨fun g => hag _ _ _ _ (fun l hl => ?_), fun g => hm _ (Or.inl ⟨k, hk, rfl, ?_, hP⟩)⟩
      · by_cases e : l = k
        · subst e; rw [hf]; exact g
        · exact hP l (by omega)
      · rw [hf]; exact g
  · unfold wp_X12_won
    exact s_X12_in (fun z => absurd z q) (fun _ => ⟨fun e => absurd rfl e, fun _ => rfl⟩)
def stepx (x : Int32) : Int32 := (((75 : Int32) * x) + (74 : Int32)) - (((75 : Int32) * x) + (74 : Int32)) / (65537 : Int32) * (65537 : Int32)
def ngx (seed : Int32) : Nat → Int32
  | 0 => seed
  | k + 1 => stepx (ngx seed k)
def ngc (f : Int32 → Int32) (seed what : Int32) : Nat → Int32
  | 0 => 0
  | k + 1 => if f (ngx seed (k + 1)) = what then ngc f seed what k + 1 else ngc f seed what k
theorem t_night {n : Nat} {dogs un mdogs hu mhu : Int32} {h lk fr he mh mlk mt mfr mhe : Nat → Int32} (H : RR n dogs un h lk fr he mdogs mh mlk mt mfr mhe) (HH : RH hu mhu) {x1 x2 x3 x4 y1 y2 a b d : Int32} {y3 y4 y5 : Nat → Int32} :
    wp_X11_night dogs h lk fr x1 x2 x3 x4 a b d (fun r _ _ _ _ => wp_X12_night mdogs mhu y1 y2 mh mlk mfr y3 y4 y5 a b d (fun r2 _ _ _ _ _ => r = r2)) := by
  have H0 := H
  obtain ⟨hn, rfl, rfl, -, -⟩ := H
  have hbad : ¬ ((0 ≤ a ∧ a ≤ 9999) ∧ (1 ≤ b ∧ b ≤ 60) ∧ (0 ≤ d ∧ d ≤ 2)) → wp_X12_night (nI n) mhu y1 y2 mh mlk mfr y3 y4 y5 a b d (fun r2 _ _ _ _ _ => (-2 : Int32) = r2) := by
    intro hq
    unfold wp_X12_night
    exact s_X12_in (fun q => ⟨fun e => absurd e (by decide), fun _ => s_X12_in (fun q2 => ⟨fun e => absurd e (by decide), fun _ => s_X12_in (fun q3 => absurd ⟨q, q2, q3⟩ hq) (fun _ => ⟨fun e => absurd rfl e, fun _ => rfl⟩)⟩) (fun _ => ⟨fun _ => rfl, fun e => absurd rfl e⟩)⟩) (fun q => ⟨fun _ => rfl, fun e => absurd rfl e⟩)
  unfold wp_X11_night
  refine s_X11_isWithin (fun q => ⟨fun e => absurd e (by decide), fun _ => ⟨fun z => hbad (fun g => n_le.mpr z g.2.1.1), fun z => ⟨fun z2 => hbad (fun g => n_lt.mpr g.2.1.2 z2), fun z2 => s_X11_isWithin (fun q2 => ⟨fun _ => ?_, fun e => absurd e (by decide)⟩) (fun q2 => ⟨fun e => absurd rfl e, fun _ => hbad (fun g => q2 g.2.2)⟩)⟩⟩⟩) (fun q => ⟨fun _ => hbad (fun g => q g.1), fun e => absurd rfl e⟩)
  obtain ⟨N, hN, rfl⟩ := nI_of2 (x := b) (M := 60) (n := 60) t_60 (fun g => z (i_lt.mpr (by rw [i_lt, t_0] at g; rw [t_1]; omega))) (n_lt.mp z2)
  obtain ⟨f, hf⟩ : ∃ f : Int32 → Int32, f = fun x => win (vv n mh mlk mfr ((x - x / (10 : Int32) * (10 : Int32)) - ((x / (10 : Int32)) - (x / (10 : Int32)) / (10 : Int32) * (10 : Int32))) (-6)).1 (vv n mh mlk mfr ((x - x / (10 : Int32) * (10 : Int32)) - ((x / (10 : Int32)) - (x / (10 : Int32)) / (10 : Int32) * (10 : Int32))) (-6)).2.1 := ⟨_, rfl⟩
  refine lofE7_2 N (by omega) rfl (fun k x t _ _ _ _ => x = ngx a k ∧ t = ngc f a d k) ?_ ?_ _ _ _ _ _ _ ⟨rfl, rfl⟩
  · rintro x t _ _ _ _ ⟨rfl, rfl⟩
    unfold wp_X12_night
    refine s_X12_in (fun _ => ⟨fun e => absurd e (by decide), fun _ => s_X12_in (fun _ => ⟨fun e => absurd e (by decide), fun _ => s_X12_in (fun _ => ⟨fun _ => ?_, fun e => absurd e (by decide)⟩) (fun g => absurd q2 g)⟩) (fun g => absurd ⟨n_lt.mp z, n_lt.mp z2⟩ g)⟩) (fun g => absurd q g)
    refine lofE8_2 N (by omega) rfl (fun k x t _ _ _ _ _ => x = ngx a k ∧ t = ngc f a d k) ?_ ?_ _ _ _ _ _ _ _ ⟨rfl, rfl⟩
    · rintro x t _ _ _ _ _ ⟨rfl, rfl⟩; rfl
    · rintro k x t z1 z2 z3 z4 z5 again hk ⟨rfl, rfl⟩ hag
      refine s_X12_fresh hn (RH_pos HH) (RR_mh H0) (fun od2 w2 f2 hw => s_X12_winner (jn_in ⟨fun g => hag _ _ _ _ _ _ _ ⟨rfl, ?_⟩, fun g => hag _ _ _ _ _ _ _ ⟨rfl, ?_⟩⟩))
      · rw [ngc, if_neg (by rw [hf]; exact g)]; simp
      · rw [ngc, if_pos (by rw [hf]; exact g)]
  · rintro k x t z1 z2 z3 z4 again hk ⟨rfl, rfl⟩ hag
    refine s_X0_hold hn (fun lm rm hM => ?_)
    rw [hold_0 hn, RR_vv H0]
    refine s_X0_winner ⟨fun g => hag _ _ _ _ _ _ ⟨rfl, ?_⟩, fun g => hag _ _ _ _ _ _ ⟨rfl, ?_⟩⟩
    · rw [ngc, if_neg (by rw [hf]; exact g)]
    · rw [ngc, if_pos (by rw [hf]; exact g)]
