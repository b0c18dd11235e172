theorem nI_lit0 : nI 0 = 0 := rfl
theorem s_X7_takesEnd {x : Int32} {n : Nat} {a : Int32} {post : Int32 → Int32 → Int32 → Prop} (h1 : a = 59 → post 1 0 (nI (n + 1))) (h0 : ¬ a = 59 → post 0 x (nI n)) : wp_X7_takesEnd x (nI n) a post := by
  unfold wp_X7_takesEnd
  rw [nI_1]
  exact ⟨h1, h0⟩
theorem s_X7_takesFeared {s : PS} (hP : PI s) {x a : Int32} (hn : s.n < 7) {post : Int32 → Int32 → Int32 → (Nat → Int32) → Prop} (h1 : fOk s a → post 1 (if x = 4 then 5 else 6) (a - 97) (sFe s a 0).fr) (h0 : ¬ fOk s a → post 0 x s.last s.fr) : wp_X7_takesFeared x s.last (nI s.n) s.fr a post := by
  unfold wp_X7_takesFeared
  rw [c_nI (by omega)]
  have v : vp_in (nI s.n) 7 := v_in hn (by omega)
  refine ⟨fun z => absurd z (fun y => ?_), fun _ => ⟨fun z => h0 (fun g => n_le.mpr g.1 z), fun z1 => ⟨fun z => h0 (fun g => n_le.mpr g.2.1 z), fun z2 => ⟨fun z3 => ⟨v, v, jn_in ?_⟩, fun z => h0 (fun g => g.2.2 z)⟩⟩⟩⟩
  · have : nI 7 ≤ nI s.n := y
    have := (nI_leI (by omega) (by omega)).mp this
    omega
  · have g := h1 ⟨n_le.mp z1, n_le.mp z2, z3⟩
    refine ⟨fun y => ?_, fun y => ?_⟩
    · rw [if_neg y] at g; exact g
    · rw [if_pos y] at g; exact g
theorem s_X7_takes {s : PS} (hP : PI s) {a : Int32} {post : Int32 → Int32 → Int32 → Int32 → Int32 → Int32 → (Nat → Int32) → (Nat → Int32) → (Nat → Int32) → Prop} (h1 : ∀ s2, stp s a = some s2 → post 1 (nI s2.e) s2.less s2.last (nI s2.n) s2.un s2.h s2.lk s2.fr) (h0 : stp s a = none → ∀ x1 x2 x3 x4 x5 x6 x7 x8, post 0 x1 x2 x3 x4 x5 x6 x7 x8) :
    wp_X7_takes (nI s.e) s.less s.last (nI s.n) s.un s.h s.lk s.fr a post := by
  have hP0 := hP
  obtain ⟨p1, p2, p3, p4, p5, p6, p7, p8, p9⟩ := hP
  have hno7 : s.n < 7 → ¬ (7 : Int32) ≤ nI s.n := fun q y => by
    have : nI 7 ≤ nI s.n := y
    have := (nI_leI (by omega) (by omega)).mp this
    omega
  have hne : ∀ k, k < 7 → ¬ s.e = k → ¬ nI s.e = nI k := fun k hk g y => g ((nI_eq (by omega) (by omega)).mp y)
  unfold wp_X7_takes
  unfold stp at h1 h0
  by_cases e0 : s.e = 0
  · rw [if_pos e0] at h1 h0
    unfold st0 at h1 h0
    refine ⟨fun _ => ?_, fun y => absurd (by rw [e0]; rfl) y⟩
    unfold wp_X7_takesHalves
    by_cases g : s.n < 7 ∧ 49 ≤ a ∧ a ≤ 57
    · rw [if_pos g] at h1
      rw [c_nI (show s.n < 64 by omega)]
      refine ⟨fun y => absurd y (hno7 g.1), fun _ => ⟨fun y => absurd g.2.1 (n_le.mpr y), fun _ => ⟨fun _ => ⟨v_in g.1 (by omega), Or.inr rfl, h1 _ rfl⟩, fun y => absurd g.2.2 y⟩⟩⟩
    · rw [if_neg g] at h0
      refine ⟨fun _ => ⟨Or.inl rfl, h0 rfl _ _ _ _ _ _ _ _⟩, fun y1 => ⟨fun _ => ⟨Or.inl rfl, h0 rfl _ _ _ _ _ _ _ _⟩, fun y2 => ⟨fun y3 => absurd ⟨?_, n_lt.mp y2, y3⟩ g, fun _ => ⟨Or.inl rfl, h0 rfl _ _ _ _ _ _ _ _⟩⟩⟩⟩
      rcases Nat.lt_or_ge s.n 7 with q | q
      · exact q
      · exact absurd (show nI 7 ≤ nI s.n from (nI_leI (by omega) (by omega)).mpr q) y1
  rw [if_neg e0] at h1 h0
  refine ⟨fun y => absurd y (hne 0 (by omega) e0), fun _ => ?_⟩
  have hn7 := p3 e0
  by_cases e1 : s.e = 1
  · rw [if_pos e1] at h1 h0
    unfold st1 at h1 h0
    refine ⟨fun _ => ?_, fun y => absurd (by rw [e1]; rfl) y⟩
    unfold wp_X7_takesLikes
    refine jn_in ?_
    have hJ48 : ¬ (a = 63 ∧ cnt (bt s.un) 7 < 3) → jn (jn (fun (t_1 : Int32) => ((t_1 = 0 ∨ t_1 = 1) ∧ ((1 : Int32) = 0 ∨ (1 : Int32) = 1) ∧ post (1 : Int32) (2 : Int32) t_1 s.last (nI s.n) s.un s.h s.lk s.fr)) (fun (J74 : Int32 → Prop) => ((¬ a = (45 : Int32) → J74 (0 : Int32)) ∧ (a = (45 : Int32) → J74 (1 : Int32))))) (fun (J62 : Prop) => ((a = (43 : Int32) → J62) ∧ (¬ a = (43 : Int32) → ((a = (45 : Int32) → J62) ∧ (¬ a = (45 : Int32) → (((0 : Int32) = 0 ∨ (0 : Int32) = 1) ∧ post (0 : Int32) (nI s.e) s.less s.last (nI s.n) s.un s.h s.lk s.fr)))))) := by
      intro g
      rw [if_neg g] at h1 h0
      refine jn_in ?_
      have hJ : a = 43 ∨ a = 45 → jn (fun (t_1 : Int32) => ((t_1 = 0 ∨ t_1 = 1) ∧ ((1 : Int32) = 0 ∨ (1 : Int32) = 1) ∧ post (1 : Int32) (2 : Int32) t_1 s.last (nI s.n) s.un s.h s.lk s.fr)) (fun (J74 : Int32 → Prop) => ((¬ a = (45 : Int32) → J74 (0 : Int32)) ∧ (a = (45 : Int32) → J74 (1 : Int32)))) := by
        intro g2
        rw [if_pos g2] at h1
        have := h1 _ rfl
        refine jn_in ⟨fun y => ⟨Or.inl rfl, Or.inr rfl, ?_⟩, fun y => ⟨Or.inr rfl, Or.inr rfl, ?_⟩⟩
        · rw [if_neg y] at this; exact this
        · rw [if_pos y] at this; exact this
      refine ⟨fun y => hJ (Or.inl y), fun y => ⟨fun y2 => hJ (Or.inr y2), fun y2 => ⟨Or.inl rfl, ?_⟩⟩⟩
      rw [if_neg (fun z => z.elim y y2)] at h0
      exact h0 rfl _ _ _ _ _ _ _ _
    refine ⟨fun y => hJ48 (fun g => y g.1), fun y => s_bitCount (fun i h7 h32 => ?_) ⟨fun z => hJ48 (fun g => ?_), fun z => ⟨Or.inr rfl, ?_⟩⟩⟩
    · cases q : bt s.un i
      · rfl
      · rcases p4 i h32 q with w | w <;> omega
    · have hc := cnt_le (bt s.un) 7
      have : nI 3 ≤ nI (cnt (bt s.un) 7) := z
      have := (nI_leI (by omega) (by omega)).mp this
      omega
    · have hc := cnt_le (bt s.un) 7
      have g : cnt (bt s.un) 7 < 3 := by
        rcases Nat.lt_or_ge (cnt (bt s.un) 7) 3 with w | w
        · exact w
        · exact absurd (show nI 3 ≤ nI (cnt (bt s.un) 7) from (nI_leI (by omega) (by omega)).mpr w) z
      rw [if_pos ⟨y, g⟩] at h1
      exact h1 _ rfl
  rw [if_neg e1] at h1 h0
  refine ⟨fun y => absurd y (hne 1 (by omega) e1), fun _ => ?_⟩
  by_cases e2 : s.e = 2
  · rw [if_pos e2] at h1 h0
    unfold st2 at h1 h0
    refine ⟨fun _ => ?_, fun y => absurd (by rw [e2]; rfl) y⟩
    unfold wp_X7_takesDigit
    by_cases g : 48 ≤ a ∧ a ≤ 57
    · rw [if_pos g] at h1
      have hh := h1 _ rfl
      rw [c_nI (show s.n < 64 by omega)]
      refine ⟨fun y => absurd y (hno7 hn7), fun _ => ⟨fun y => absurd g.1 (n_le.mpr y), fun _ => ⟨fun _ => jn_in ⟨fun z => ⟨v_in hn7 (by omega), Or.inr rfl, ?_⟩, fun z => ⟨v_in hn7 (by omega), Or.inr rfl, ?_⟩⟩, fun y => absurd g.2 y⟩⟩⟩
      · rw [if_pos z] at hh; exact hh
      · rw [if_neg z] at hh; exact hh
    · rw [if_neg g] at h0
      exact ⟨fun y => absurd y (hno7 hn7), fun _ => ⟨fun _ => ⟨Or.inl rfl, h0 rfl _ _ _ _ _ _ _ _⟩, fun y2 => ⟨fun y3 => absurd ⟨n_lt.mp y2, y3⟩ g, fun _ => ⟨Or.inl rfl, h0 rfl _ _ _ _ _ _ _ _⟩⟩⟩⟩
  rw [if_neg e2] at h1 h0
  refine ⟨fun y => absurd y (hne 2 (by omega) e2), fun _ => ?_⟩
  by_cases e3 : s.e = 3
  · rw [if_pos e3] at h1 h0
    unfold st3 at h1 h0
    refine ⟨fun _ => ⟨fun y => s_X7_takesEnd (fun z => ⟨Or.inr rfl, ?_⟩) (fun z => ⟨Or.inl rfl, ?_⟩), fun y => ?_⟩, fun y => absurd (by rw [e3]; rfl) y⟩
    · rw [if_neg y, if_pos z] at h1
      exact h1 _ rfl
    · rw [if_neg y, if_neg z] at h0
      exact h0 rfl _ _ _ _ _ _ _ _
    · rw [if_pos y] at h1
      unfold wp_X7_takesFearMark
      exact ⟨Or.inr rfl, h1 _ rfl⟩
  rw [if_neg e3] at h1 h0
  refine ⟨fun y => absurd y (hne 3 (by omega) e3), fun _ => ?_⟩
  by_cases e4 : s.e = 4
  · rw [if_pos e4] at h1 h0
    unfold st4 at h1 h0
    refine ⟨fun _ => s_X7_takesFeared hP0 hn7 (fun g => ⟨Or.inr rfl, ?_⟩) (fun g => ⟨Or.inl rfl, ?_⟩), fun y => absurd (by rw [e4]; rfl) y⟩
    · rw [if_pos g] at h1
      rw [if_pos (by rw [e4]; rfl)]
      exact h1 _ rfl
    · rw [if_neg g] at h0
      exact h0 rfl _ _ _ _ _ _ _ _
  rw [if_neg e4] at h1 h0
  refine ⟨fun y => absurd y (hne 4 (by omega) e4), fun _ => ?_⟩
  by_cases e5 : s.e = 5
  · rw [if_pos e5] at h1 h0
    unfold st5 at h1 h0
    refine ⟨fun _ => s_X7_takesFeared hP0 hn7 (fun g => ⟨fun _ => ?_, fun y => absurd y (by decide)⟩) (fun g => ⟨fun y => absurd rfl y, fun _ => s_X7_takesEnd (fun z => ⟨fun y => absurd y (by decide), fun _ => ?_⟩) (fun z => ⟨fun _ => ?_, fun y => absurd rfl y⟩)⟩), fun y => absurd (by rw [e5]; rfl) y⟩
    · rw [if_pos g] at h1
      rw [if_neg (by rw [e5]; decide)]
      exact h1 _ rfl
    · rw [if_neg g, if_pos z] at h1
      exact h1 _ rfl
    · rw [if_neg g, if_neg z] at h0
      exact h0 rfl _ _ _ _ _ _ _ _
  rw [if_neg e5] at h1 h0
  refine ⟨fun y => absurd y (hne 5 (by omega) e5), fun _ => ?_⟩
  unfold st6 at h1 h0
  refine s_X7_takesEnd (fun z => ⟨Or.inr rfl, ?_⟩) (fun z => ⟨Or.inl rfl, ?_⟩)
  · rw [if_pos z] at h1
    exact h1 _ rfl
  · rw [if_neg z] at h0
    exact h0 rfl _ _ _ _ _ _ _ _
/-- the drafts on the way -/
def rn (s0 : PS) (sg : Nat → Int32) : Nat → Option PS
  | 0 => some s0
  | k + 1 => match rn s0 sg k with
    | some s => stp s (sg k)
    | none => none
theorem rn_PI {s0 : PS} {sg : Nat → Int32} (h : PI s0) : ∀ {k : Nat} {s : PS}, rn s0 sg k = some s → PI s
  | 0, s, e => by
    have e : some s0 = some s := e
    obtain rfl := Option.some.inj e
    exact h
  | k + 1, s, e => by
    rw [rn] at e
    cases q : rn s0 sg k with
    | none => rw [q] at e; exact absurd e (by simp)
    | some s1 =>
      rw [q] at e
      exact PI_stp (rn_PI h q) e
theorem rn_back {s0 : PS} {sg : Nat → Int32} {k : Nat} : ∀ (j : Nat) {s : PS}, rn s0 sg (k + j) = some s → ∃ s1, rn s0 sg k = some s1
  | 0, s, e => ⟨s, e⟩
  | j + 1, s, e => by
    rw [show k + (j + 1) = (k + j) + 1 by omega, rn] at e
    cases q : rn s0 sg (k + j) with
    | none => rw [q] at e; exact absurd e (by simp)
    | some s1 => exact rn_back j q
theorem rn_step {s0 : PS} {sg : Nat → Int32} {k m : Nat} {s sf : PS} (hk : k < m) (hf : rn s0 sg m = some sf) (hs : rn s0 sg k = some s) : ∃ s2, stp s (sg k) = some s2 ∧ rn s0 sg (k + 1) = some s2 := by
  obtain ⟨s2, h2⟩ := rn_back (k := k + 1) (m - (k + 1)) (by rw [show k + 1 + (m - (k + 1)) = m by omega]; exact hf)
  refine ⟨s2, ?_, h2⟩
  rw [rn, hs] at h2
  exact h2
/-- the first fault of m signs -/
def FA (s0 : PS) (sg : Nat → Int32) (m : Nat) (r : Int32) : Prop := (∃ k s, k < m ∧ rn s0 sg k = some s ∧ stp s (sg k) = none ∧ r = nI k) ∨ (∃ s, rn s0 sg m = some s ∧ r = if s.e = 0 then -6 else nI m)
theorem FA_fun {s0 : PS} {sg : Nat → Int32} {m : Nat} {r r2 : Int32} (h1 : FA s0 sg m r) (h2 : FA s0 sg m r2) : r = r2 := by
  have hlt : ∀ {a b : Nat} {s t : PS}, a < b → rn s0 sg a = some s → stp s (sg a) = none → rn s0 sg b = some t → False := by
    intro a b s t hab ha hn hb
    obtain ⟨s2, e1, -⟩ := rn_step hab hb ha
    rw [hn] at e1; simp at e1
  rcases h1 with ⟨k, s, a1, a2, a3, rfl⟩ | ⟨s, a2, rfl⟩ <;> rcases h2 with ⟨j, t, b1, b2, b3, rfl⟩ | ⟨t, b2, rfl⟩
  · rcases Nat.lt_trichotomy k j with q | q | q
    · exact (hlt q a2 a3 b2).elim
    · rw [q]
    · exact (hlt q b2 b3 a2).elim
  · exact (hlt a1 a2 a3 b2).elim
  · exact (hlt b1 b2 b3 a2).elim
  · rw [a2] at b2
    obtain rfl := Option.some.inj b2
    rfl
theorem s_X9_clear {x1 x2 : Int32} {x3 x4 x5 x6 : Nat → Int32} {post : Int32 → Int32 → (Nat → Int32) → (Nat → Int32) → (Nat → Int32) → (Nat → Int32) → Prop} (hp : ∀ h lk fr he : Nat → Int32, (∀ d, d < 7 → h d = 0 ∧ lk d = 0 ∧ fr d = 0 ∧ he d = -1) → post 0 0 h lk fr he) : wp_X9_clear x1 x2 x3 x4 x5 x6 post := by
  unfold wp_X9_clear
  refine lofE5_0 7 (by omega) rfl (fun k h lk fr he => ∀ d, d < k → h d = 0 ∧ lk d = 0 ∧ fr d = 0 ∧ he d = -1) (fun h lk fr he hh => hp h lk fr he hh) ?_ _ _ _ _ (fun d hd => absurd hd (Nat.not_lt_zero _))
  intro k h lk fr he again hk hh hag
  have v : vp_in (nI k) 7 := v_in hk (by omega)
  rw [c_nI (by omega)]
  refine ⟨v, v, v, v, hag _ _ _ _ (fun d hd => ?_)⟩
  by_cases e : d = k
  · subst e; rw [u_s, u_s, u_s, u_s]; exact ⟨rfl, rfl, rfl, rfl⟩
  · rw [u_n e, u_n e, u_n e, u_n e]; exact hh d (by omega)
theorem s_X7_firstFault {k : Nat} (hk : k ≤ 60) {x1 x2 x3 x4 x5 : Int32} {sg x6 x7 x8 x9 : Nat → Int32} {post : Int32 → Int32 → Int32 → Int32 → Int32 → Int32 → (Nat → Int32) → (Nat → Int32) → (Nat → Int32) → (Nat → Int32) → Prop}
    (hp : ∀ (s0 : PS) (he : Nat → Int32), s0.e = 0 → s0.n = 0 → s0.un = 0 → PI s0 → (∀ d, d < 7 → s0.fr d = 0) → (∀ d, d < 7 → he d = -1) → (∀ r, FA s0 sg k r → ∀ z1 z2 z3 z4 z5 z6 z7 z8, (∀ s, rn s0 sg k = some s → s.e = 0 → z4 = nI s.n ∧ z5 = s.un ∧ z6 = s.h ∧ z7 = s.lk ∧ z8 = s.fr) → post r z1 z2 z3 z4 z5 z6 z7 z8 he)) :
    wp_X7_firstFault (nI k) x1 x2 x3 sg x4 x5 x6 x7 x8 x9 post := by
  unfold wp_X7_firstFault
  refine s_X9_clear (fun h lk fr he hz => jn_in ?_)
  obtain ⟨s0, hs0⟩ : ∃ s0 : PS, s0 = (0, 0, 0, x2, x3, h, lk, fr) := ⟨_, rfl⟩
  have hPI : PI s0 := by
    rw [hs0]
    refine ⟨by show 0 ≤ 6; omega, by show 0 ≤ 7; omega, fun y => absurd rfl y, fun i _ hb => ?_, fun d hd => ?_, fun d _ hb => ?_, fun d hd _ => (hz d hd).2.1, fun y => absurd y (by show ¬ (0 = 4); omega), fun y => absurd y (by show ¬ (0 = 5); omega)⟩
    · have hb : bt 0 i = true := hb
      rw [b_0] at hb; simp at hb
    · have hd : d < 0 ∨ (d = 0 ∧ 1 ≤ 0) := hd
      omega
    · have hb : bt 0 d = true := hb
      rw [b_0] at hb; simp at hb
  have hpp := hp s0 he (by rw [hs0]) (by rw [hs0]) (by rw [hs0]) hPI (by rw [hs0]; exact fun d hd => (hz d hd).2.2.1) (fun d hd => (hz d hd).2.2.2)
  refine lofE9_0 k (by omega) rfl (fun j a1 a2 a3 a4 a5 a6 a7 a8 => ∃ s, rn s0 sg j = some s ∧ a1 = nI s.e ∧ a2 = s.less ∧ a3 = s.last ∧ a4 = nI s.n ∧ a5 = s.un ∧ a6 = s.h ∧ a7 = s.lk ∧ a8 = s.fr) ?_ ?_ _ _ _ _ _ _ _ _ ⟨s0, rfl, by rw [hs0]; rfl, by rw [hs0], by rw [hs0], by rw [hs0]; rfl, by rw [hs0], by rw [hs0], by rw [hs0], by rw [hs0]⟩
  · rintro a1 a2 a3 a4 a5 a6 a7 a8 ⟨s, hs, rfl, rfl, rfl, rfl, rfl, rfl, rfl, rfl⟩
    have hPs := rn_PI hPI hs
    refine ⟨fun y => hpp _ (Or.inr ⟨s, hs, ?_⟩) _ _ _ _ _ _ _ _ (fun s2 h2 _ => ?_), fun y => hpp _ (Or.inr ⟨s, hs, ?_⟩) _ _ _ _ _ _ _ _ (fun s2 h2 _ => ?_)⟩
    · rw [if_neg]
      exact fun z => y (by rw [z]; rfl)
    · rw [hs] at h2
      obtain rfl := Option.some.inj h2
      exact ⟨rfl, rfl, rfl, rfl, rfl⟩
    · have y : nI s.e = nI 0 := y
      have hle := hPs.1
      rw [if_pos ((nI_eq (by omega) (by omega)).mp y)]
    · rw [hs] at h2
      obtain rfl := Option.some.inj h2
      exact ⟨rfl, rfl, rfl, rfl, rfl⟩
  · rintro j a1 a2 a3 a4 a5 a6 a7 a8 again hj ⟨s, hs, rfl, rfl, rfl, rfl, rfl, rfl, rfl, rfl⟩ hag
    rw [c_nI (by omega)]
    refine ⟨v_in (by omega) (by omega), s_X7_takes (rn_PI hPI hs) (fun s2 h2 => ⟨fun _ => hag _ _ _ _ _ _ _ _ ⟨s2, ?_, rfl, rfl, rfl, rfl, rfl, rfl, rfl, rfl⟩, fun y => absurd y (by decide)⟩) (fun h2 y1 y2 y3 y4 y5 y6 y7 y8 => ⟨fun y => absurd rfl y, fun _ => hpp _ (Or.inl ⟨j, s, hj, hs, h2, rfl⟩) _ _ _ _ _ _ _ _ (fun s3 h3 _ => ?_)⟩)⟩
    · rw [rn, hs]; exact h2
    · obtain ⟨s4, e1, -⟩ := rn_step hj h3 hs
      rw [h2] at e1; simp at e1
