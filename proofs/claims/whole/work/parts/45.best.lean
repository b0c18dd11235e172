/-! an EVENING of QUESTIONS -/
def evV (n : Nat) (h lk fr : Nat → Int32) (hu : Int32) (f : Nat → Int32) (L R : Int32) : VS := vfold n h lk fr (fun d => if f d < hu then L - R else 0) id (fun _ => false) n
def evS (n : Nat) (h lk fr : Nat → Int32) (hu : Int32) (qL qR qN : Nat → Int32) (o : Nat → Nat) : Nat → Int32 × (Nat → Int32)
  | 0 => (0, fun _ => 0)
  | k + 1 => ((evS n h lk fr hu qL qR qN o k).1 + (if win (evV n h lk fr hu (evS n h lk fr hu qL qR qN o k).2 (qL (o k)) (qR (o k))).1 (evV n h lk fr hu (evS n h lk fr hu qL qR qN o k).2 (qL (o k)) (qR (o k))).2.1 = 0 then qN (o k) else 0), fun d => nxtFill (evS n h lk fr hu qL qR qN o k).2 (evV n h lk fr hu (evS n h lk fr hu qL qR qN o k).2 (qL (o k)) (qR (o k))).2.2 (qL (o k)) (qR (o k)) d)
theorem evV_congr {n : Nat} {h lk fr h2 lk2 fr2 f f2 : Nat → Int32} {hu L R : Int32} (e : ∀ d, d < n → h d = h2 d ∧ lk d = lk2 d ∧ fr d = fr2 d ∧ f d = f2 d) : evV n h lk fr hu f L R = evV n h2 lk2 fr2 hu f2 L R := by
  refine vfold_congr n (fun i hi => ⟨rfl, rfl, fun _ => ?_⟩)
  obtain ⟨e1, e2, e3, e4⟩ := e i hi
  refine ⟨e1, e2, e3, ?_⟩
  show (if f i < hu then L - R else 0) = (if f2 i < hu then L - R else 0)
  rw [e4]
theorem evS_congr {n : Nat} {h lk fr h2 lk2 fr2 qL qR qN qL2 qR2 qN2 : Nat → Int32} {hu : Int32} {o : Nat → Nat} {m : Nat} (e : ∀ d, d < n → h d = h2 d ∧ lk d = lk2 d ∧ fr d = fr2 d) (e2 : ∀ i, i < m → qL i = qL2 i ∧ qR i = qR2 i ∧ qN i = qN2 i) : ∀ k, (∀ i, i < k → o i < m) → evS n h lk fr hu qL qR qN o k = evS n h2 lk2 fr2 hu qL2 qR2 qN2 o k
  | 0, _ => rfl
  | k + 1, ho => by
    have ih := evS_congr e e2 (hu := hu) k (fun i hi => ho i (by omega))
    obtain ⟨a1, a2, a3⟩ := e2 (o k) (ho k (by omega))
    rw [evS, evS, ih, a1, a2, a3, evV_congr (f2 := (evS n h2 lk2 fr2 hu qL2 qR2 qN2 o k).2) (fun d hd => ⟨(e d hd).1, (e d hd).2.1, (e d hd).2.2, rfl⟩)]
theorem evS_fill {n : Nat} {h lk fr qL qR qN : Nat → Int32} {hu : Int32} {o : Nat → Nat} (d : Nat) : ∀ k, ∃ c, c ≤ k ∧ (evS n h lk fr hu qL qR qN o k).2 d = nI c
  | 0 => ⟨0, Nat.le_refl _, rfl⟩
  | k + 1 => by
    obtain ⟨c, hc, e⟩ := evS_fill (n := n) (h := h) (lk := lk) (fr := fr) (qL := qL) (qR := qR) (qN := qN) (hu := hu) (o := o) d k
    rw [evS]
    dsimp only
    unfold nxtFill
    rw [e]
    split
    · exact ⟨c + 1, by omega, nI_1 c⟩
    · exact ⟨c, by omega, by simp⟩
theorem evS_sum {n : Nat} {h lk fr qL qR qN : Nat → Int32} {hu : Int32} {o : Nat → Nat} {m : Nat} (hq : ∀ i, i < m → 0 ≤ qN i ∧ qN i ≤ 99) : ∀ k, k ≤ 100 → (∀ i, i < k → o i < m) → ∃ s, s ≤ 99 * k ∧ (evS n h lk fr hu qL qR qN o k).1 = nI s
  | 0, _, _ => ⟨0, by omega, rfl⟩
  | k + 1, hk, ho => by
    obtain ⟨s, hs, e⟩ := evS_sum hq (n := n) (h := h) (lk := lk) (fr := fr) (qL := qL) (qR := qR) (hu := hu) k (by omega) (fun i hi => ho i (by omega))
    obtain ⟨a1, a2⟩ := hq (o k) (ho k (by omega))
    obtain ⟨t, ht, et⟩ := nI_of2 (x := qN (o k)) (M := 99) (n := 99) t_99 (n_lt.mpr a1) a2
    rw [evS]
    dsimp only
    rw [e]
    generalize win _ _ = w
    by_cases q : w = 0
    · rw [if_pos q, et, nI_add]; exact ⟨s + t, by omega, rfl⟩
    · rw [if_neg q]; exact ⟨s, by omega, by simp⟩
/-! the class: who is FULL, as bits -/
theorem s_X3_beHungry {fu : Int32} {me : Nat → Int32} {post : Int32 → (Nat → Int32) → Prop} (h : ∀ m2 : Nat → Int32, (∀ k, k < 7 → m2 k = 0) → post 0 m2) : wp_X3_beHungry fu me post := by
  unfold wp_X3_beHungry
  refine lofE2_0 7 (by omega) rfl (fun k o2 => ∀ i, i < k → o2 i = 0) (fun o2 ho => h o2 ho) ?_ _ (fun i hi => absurd hi (Nat.not_lt_zero _))
  intro k o2 again hk ho hag
  rw [c_nI (by omega)]
  refine ⟨v_in hk (by omega), hag _ (fun i hi => ?_)⟩
  by_cases e : i = k
  · subst e; rw [u_s]
  · rw [u_n e]; exact ho i (by omega)
theorem s_X3_feed {fu ea : Int32} {hk : Nat} {me : Nat → Int32} {c : Nat → Nat} (hhk : hk < 100) (hc : ∀ d, d < 7 → me d = nI (c d) ∧ c d ≤ 90 ∧ (bt fu d = true ↔ hk ≤ c d)) {post : Int32 → (Nat → Int32) → Prop}
    (hp : ∀ fu2 m2, (∀ d, d < 7 → m2 d = nI (c d + (if bt ea d then 1 else 0)) ∧ (bt fu2 d = true ↔ hk ≤ c d + (if bt ea d then 1 else 0))) → post fu2 m2) : wp_X3_feed fu me ea (nI hk) post := by
  unfold wp_X3_feed
  refine lofE3_0 7 (by omega) rfl (fun k fu2 m2 => (∀ d, d < k → m2 d = nI (c d + (if bt ea d then 1 else 0)) ∧ (bt fu2 d = true ↔ hk ≤ c d + (if bt ea d then 1 else 0))) ∧ (∀ d, k ≤ d → d < 7 → m2 d = me d ∧ bt fu2 d = bt fu d)) ?_ ?_ _ _ ⟨fun d hd => absurd hd (Nat.not_lt_zero _), fun d _ _ => ⟨rfl, rfl⟩⟩
  · rintro fu2 m2 ⟨h1, -⟩
    exact hp fu2 m2 h1
  · rintro k fu2 m2 again hk7 ⟨h1, h2⟩ hag
    have v : vp_in (nI k) 7 := v_in (by omega) (by omega)
    obtain ⟨g1, g2, g3⟩ := hc k hk7
    obtain ⟨f1, f2⟩ := h2 k (Nat.le_refl _) hk7
    have e1 : m2 k + (if bt ea k then 1 else 0) = nI (c k + (if bt ea k then 1 else 0)) := by
      rw [f1, g1]
      cases bt ea k
      · simp
      · simp only [if_true]; exact nI_1 _
    rw [c_nI (by omega), u_s, b_tst (by omega), e1]
    have hb : c k + (if bt ea k then 1 else 0) ≤ 91 := by cases bt ea k <;> simp <;> omega
    refine ⟨v, v, v, fun z => hag _ _ ⟨fun d hd => ?_, fun d hd1 hd2 => ?_⟩, fun z => hag _ _ ⟨fun d hd => ?_, fun d hd1 hd2 => ?_⟩⟩
    · by_cases e : d = k
      · subst e
        rw [u_s]
        refine ⟨rfl, ?_⟩
        have z2 := (nI_ltI (by omega) (by omega)).mp z
        rw [f2, g3]
        constructor
        · intro y; omega
        · intro y; omega
      · rw [u_n e]; exact h1 d (by omega)
    · rw [u_n (by omega)]; exact h2 d (by omega) hd2
    · rw [b_set (by omega) (by omega)]
      by_cases e : d = k
      · subst e
        rw [u_s]
        refine ⟨rfl, ?_⟩
        have z2 : ¬ c d + (if bt ea d then 1 else 0) < hk := fun y => z (nI_lt y (by omega))
        constructor
        · intro _; omega
        · intro _; simp
      · rw [u_n e]
        simp only [e, decide_false, Bool.or_false]
        exact h1 d (by omega)
    · rw [u_n (by omega), b_set (by omega) (by omega)]
      have e : d ≠ k := by omega
      simp only [e, decide_false, Bool.or_false]
      exact h2 d (by omega) hd2
theorem s_X3_worthsOf {n m hk : Nat} (hn : n ≤ 7) (hm : m ≤ 5) (hhk : 1 ≤ hk) (hhk9 : hk ≤ 9) {fu x1 x2 x3 x4 : Int32} {od me h lk fr qL qR qN : Nat → Int32} {l : List Nat} (hP : PM m l) (hA : AR m od l) {post : Int32 → Int32 → Int32 → Int32 → Int32 → Int32 → (Nat → Int32) → Prop}
    (hp : ∀ z1 z2 z3 z4 z5 z6, post (evS n h lk fr (nI hk) qL qR qN (lg l) m).1 z1 z2 z3 z4 z5 z6) : wp_X3_worthsOf fu (nI m) od x1 x2 x3 x4 me (nI hk) (nI n) h lk fr (nI m) qL qR qN post := by
  unfold wp_X3_worthsOf
  refine s_X3_beHungry (fun me0 hme0 => ?_)
  obtain ⟨S, hS⟩ : ∃ S : Nat → Int32 × (Nat → Int32), S = evS n h lk fr (nI hk) qL qR qN (lg l) := ⟨_, rfl⟩
  have hS0 : S 0 = (0, fun _ => 0) := by rw [hS]; rfl
  rw [← hS] at hp
  refine lofE8_1 m (by omega) rfl (fun k s fu2 _ _ _ _ me2 => s = (S k).1 ∧ ∀ d, d < 7 → ∃ c, c ≤ k ∧ me2 d = nI c ∧ (d < n → (S k).2 d = nI c) ∧ (bt fu2 d = true ↔ hk ≤ c)) ?_ ?_ _ _ _ _ _ _ _ ⟨by rw [hS0], fun d hd => ⟨0, Nat.le_refl _, hme0 d hd, fun _ => by rw [hS0]; rfl, by rw [b_0]; constructor; intro z; simp at z; intro z; omega⟩⟩
  · rintro s fu2 z1 z2 z3 z4 me2 ⟨rfl, -⟩
    exact hp _ _ _ _ _ _
  · rintro k s fu2 z1 z2 z3 z4 me2 again hkm ⟨rfl, hd⟩ hag
    have hq := hP.2.1 k hkm
    rw [c_nI (show k < 64 by omega), hA k hkm, c_nI (show lg l k < 64 by omega)]
    have v5 : vp_in (nI (lg l k)) 5 := v_in (by omega) (by omega)
    refine ⟨v_in (by omega) (by omega), fun z => absurd z (nI_pos (by omega)), fun _ => ⟨fun _ => ⟨v5, v5, s_X0_hold hn (fun lm rm hM => s_X0_winner (jn_in ?_))⟩, fun z => absurd (nI_lt hq (by omega)) z⟩⟩
    have eV : vfold n h lk fr (fun d => if bt fu2 d then 0 else qL (lg l k) - qR (lg l k)) id (bt 0) n = evV n h lk fr (nI hk) (S k).2 (qL (lg l k)) (qR (lg l k)) := by
      refine vfold_congr n (fun i hi => ⟨rfl, b_0 _, fun _ => ⟨rfl, rfl, rfl, ?_⟩⟩)
      obtain ⟨c, c1, c2, c3, c4⟩ := hd i (by omega)
      show (if bt fu2 i then 0 else qL (lg l k) - qR (lg l k)) = (if (S k).2 i < nI hk then qL (lg l k) - qR (lg l k) else 0)
      rw [c3 hi]
      cases y : bt fu2 i
      · have : ¬ hk ≤ c := fun q => by rw [c4.mpr q] at y; simp at y
        rw [if_pos (nI_lt (by omega) (by omega))]; rfl
      · have := c4.mp y
        rw [if_neg (nI_nlt this (by omega))]; rfl
    rw [eV] at hM ⊢
    obtain ⟨V, hV⟩ : ∃ V : VS, V = evV n h lk fr (nI hk) (S k).2 (qL (lg l k)) (qR (lg l k)) := ⟨_, rfl⟩
    rw [← hV] at hM ⊢
    have hSk : S (k + 1) = ((S k).1 + (if win V.1 V.2.1 = 0 then qN (lg l k) else 0), fun d => nxtFill (S k).2 V.2.2 (qL (lg l k)) (qR (lg l k)) d) := by
      rw [hV, hS]; rfl
    obtain ⟨cc, hcc⟩ : ∃ cc : Nat → Nat, ∀ d, cc d = (me2 d).toNatClampNeg := ⟨_, fun _ => rfl⟩
    have hcd : ∀ d, d < 7 → me2 d = nI (cc d) ∧ cc d ≤ k ∧ (d < n → (S k).2 d = nI (cc d)) ∧ (bt fu2 d = true ↔ hk ≤ cc d) := by
      intro d hd7
      obtain ⟨c, c1, c2, c3, c4⟩ := hd d hd7
      have : cc d = c := by rw [hcc, c2, c_nI (by omega)]
      rw [this]; exact ⟨c2, c1, c3, c4⟩
    have hfeed : ∀ (x3 t19 t20 : Int32), x3 = (S (k + 1)).1 → t19 = (if qL (lg l k) ≤ 0 then 0 else lm) → t20 = (if qR (lg l k) ≤ 0 then 0 else rm) → wp_X3_feed fu2 me2 (t19 ||| t20) (nI hk) (fun (zfull_22 : Int32) (zmeals_23 : Nat → Int32) => again x3 (nI k + (1 : Int32)) zfull_22 V.1 V.2.1 lm rm zmeals_23) := by
      intro x3 t19 t20 e3 e19 e20
      refine s_X3_feed (c := cc) (by omega) (fun d hd7 => ⟨(hcd d hd7).1, by have := (hcd d hd7).2.1; omega, (hcd d hd7).2.2.2⟩) (fun fu3 me3 h3 => hag _ _ _ _ _ _ _ ⟨e3, fun d hd7 => ?_⟩)
      obtain ⟨a1, a2⟩ := h3 d hd7
      have hle := (hcd d hd7).2.1
      refine ⟨cc d + (if bt (t19 ||| t20) d then 1 else 0), by cases bt (t19 ||| t20) d <;> simp <;> omega, a1, fun hdn => ?_, a2⟩
      rw [hSk]
      dsimp only
      unfold nxtFill
      rw [(hcd d hd7).2.2.1 hdn]
      obtain ⟨m1, m2⟩ := hM d (by omega)
      have hbt : bt (t19 ||| t20) d = decide ((V.2.2 d = 0 ∧ 0 < qL (lg l k)) ∨ (V.2.2 d = 1 ∧ 0 < qR (lg l k))) := by
        rw [b_or, e19, e20]
        by_cases y1 : qL (lg l k) ≤ 0
        · rw [if_pos y1, b_0]
          have y1' : ¬ 0 < qL (lg l k) := n_lt.mpr y1
          by_cases y2 : qR (lg l k) ≤ 0
          · rw [if_pos y2, b_0]
            have y2' : ¬ 0 < qR (lg l k) := n_lt.mpr y2
            simp [y1', y2']
          · rw [if_neg y2, m2]
            have y2' := n_le.mp y2
            simp [y1', y2', hdn]
        · rw [if_neg y1, m1]
          have y1' := n_le.mp y1
          by_cases y2 : qR (lg l k) ≤ 0
          · rw [if_pos y2, b_0]
            have y2' : ¬ 0 < qR (lg l k) := n_lt.mpr y2
            simp [y1', y2', hdn]
          · rw [if_neg y2, m2]
            have y2' := n_le.mp y2
            simp [y1', y2', hdn]
      rw [hbt]
      by_cases y : (V.2.2 d = 0 ∧ 0 < qL (lg l k)) ∨ (V.2.2 d = 1 ∧ 0 < qR (lg l k))
      · rw [if_pos y, decide_eq_true y]; exact nI_1 _
      · rw [if_neg y, decide_eq_false y]; simp
    have hin : ∀ x3 : Int32, x3 = (S (k + 1)).1 → jn (fun (t_19 : Int32) => jn (fun (t_20 : Int32) => wp_X3_feed fu2 me2 (t_19 ||| t_20) (nI hk) (fun (zfull_22 : Int32) (zmeals_23 : Nat → Int32) => again x3 (nI k + (1 : Int32)) zfull_22 V.1 V.2.1 lm rm zmeals_23)) (fun (J147 : Int32 → Prop) => ((qR (lg l k) ≤ 0 → J147 (0 : Int32)) ∧ (¬ qR (lg l k) ≤ 0 → J147 rm)))) (fun (J131 : Int32 → Prop) => ((qL (lg l k) ≤ 0 → J131 (0 : Int32)) ∧ (¬ qL (lg l k) ≤ 0 → J131 lm))) := by
      intro x3 e3
      exact jn_in ⟨fun y1 => jn_in ⟨fun y2 => hfeed _ _ _ e3 (by rw [if_pos y1]) (by rw [if_pos y2]), fun y2 => hfeed _ _ _ e3 (by rw [if_pos y1]) (by rw [if_neg y2])⟩, fun y1 => jn_in ⟨fun y2 => hfeed _ _ _ e3 (by rw [if_neg y1]) (by rw [if_pos y2]), fun y2 => hfeed _ _ _ e3 (by rw [if_neg y1]) (by rw [if_neg y2])⟩⟩
    refine ⟨fun y => hin _ ?_, fun y => ⟨v5, hin _ ?_⟩⟩
    · rw [hSk, if_neg y]; simp
    · rw [hSk, if_pos y]
def vB (n m : Nat) (h lk fr : Nat → Int32) (hu : Int32) (qL qR qN : Nat → Int32) (k : Nat) : Int32 := (evS n h lk fr hu qL qR qN (lg (sq m k)) m).1
def BestSpec (n m : Nat) (h lk fr : Nat → Int32) (hu : Int32) (qL qR qN : Nat → Int32) (most : Int32) (order : Nat → Int32) : Prop := most = vB n m h lk fr hu qL qR qN (bi (vB n m h lk fr hu qL qR qN) (fN m - 1)) ∧ ∀ i, i < m → order i = nI (lg (sq m (bi (vB n m h lk fr hu qL qR qN) (fN m - 1))) i)
theorem vB_congr {n m : Nat} (hm : m ≤ 7) {h lk fr h2 lk2 fr2 qL qR qN qL2 qR2 qN2 : Nat → Int32} {hu : Int32} (e : ∀ d, d < n → h d = h2 d ∧ lk d = lk2 d ∧ fr d = fr2 d) (e2 : ∀ i, i < m → qL i = qL2 i ∧ qR i = qR2 i ∧ qN i = qN2 i) {k : Nat} (hk : k < fN m) : vB n m h lk fr hu qL qR qN k = vB n m h2 lk2 fr2 hu qL2 qR2 qN2 k := by
  unfold vB
  rw [evS_congr e e2 m (fun i hi => (PM_sq hm k hk).2.1 i hi)]
theorem BestSpec_congr {n m : Nat} (hm : m ≤ 7) {h lk fr h2 lk2 fr2 qL qR qN qL2 qR2 qN2 : Nat → Int32} {hu most : Int32} {order : Nat → Int32} (e : ∀ d, d < n → h d = h2 d ∧ lk d = lk2 d ∧ fr d = fr2 d) (e2 : ∀ i, i < m → qL i = qL2 i ∧ qR i = qR2 i ∧ qN i = qN2 i) (H : BestSpec n m h lk fr hu qL qR qN most order) : BestSpec n m h2 lk2 fr2 hu qL2 qR2 qN2 most order := by
  have hN := (fN_fac m (by omega)).2.1
  have eb := bi_congr (v := vB n m h lk fr hu qL qR qN) (v2 := vB n m h2 lk2 fr2 hu qL2 qR2 qN2) (N := fN m) (fun j hj => vB_congr hm e e2 hj) (fN m - 1) (by omega)
  have hb := bi_le (vB n m h2 lk2 fr2 hu qL2 qR2 qN2) (fN m - 1)
  unfold BestSpec at H ⊢
  rw [eb, vB_congr hm e e2 (by omega)] at H
  exact H
theorem s_X3_find {n m hk : Nat} (hn : n ≤ 7) (hm : m ≤ 5) (hhk : 1 ≤ hk) (hhk9 : hk ≤ 9) {known most fu osz x1 x2 x3 x4 : Int32} {order oo me h lk fr qL qR qN : Nat → Int32} (hq : ∀ i, i < m → 0 ≤ qN i ∧ qN i ≤ 99) (hG : ¬ known = 0 → BestSpec n m h lk fr (nI hk) qL qR qN most order) {post : Int32 → Int32 → Int32 → (Nat → Int32) → Int32 → (Nat → Int32) → Int32 → Int32 → Int32 → Int32 → (Nat → Int32) → Prop}
    (hp : ∀ k2 m2 z0 o2 z1 z2 z3 z4 z5 z6 z7, BestSpec n m h lk fr (nI hk) qL qR qN m2 o2 → post k2 m2 z0 o2 z1 z2 z3 z4 z5 z6 z7) : wp_X3_find known most fu order osz oo x1 x2 x3 x4 me (nI hk) (nI n) h lk fr (nI m) qL qR qN post := by
  have hm7 : m ≤ 7 := by omega
  have hN := (fN_fac m (by omega)).2
  unfold wp_X3_find
  refine ⟨fun _ => s_X6_begin hm7 (fun od2 hod => jn_in ?_), fun z => hp _ _ _ _ _ _ _ _ _ _ _ (hG z)⟩
  obtain ⟨v, hv⟩ : ∃ v : Nat → Int32, v = vB n m h lk fr (nI hk) qL qR qN := ⟨_, rfl⟩
  have hrng : ∀ k, k < fN m → 0 ≤ v k := fun k hk2 => by
    obtain ⟨s, hs, e⟩ := evS_sum (n := n) (h := h) (lk := lk) (fr := fr) (qL := qL) (qR := qR) (hu := nI hk) hq m (by omega) (fun i hi => (PM_sq hm7 k hk2).2.1 i hi)
    rw [hv]; unfold vB; rw [e]; exact nI_pos' (by omega)
  refine lofE10_0 (fN m) (by omega) rfl (fun k mo _ o oo2 _ _ _ _ _ => ((k = 0 ∧ mo = -1) ∨ (0 < k ∧ mo = v (bi v (k - 1)) ∧ ∀ i, i < m → o i = nI (lg (sq m (bi v (k - 1))) i))) ∧ AR m oo2 (sq m (if k < fN m then k else fN m - 1))) ?_ ?_ _ _ _ _ _ _ _ _ _ ⟨Or.inl ⟨rfl, rfl⟩, by rw [if_pos (by omega), sq_0]; exact hod⟩
  · rintro mo z0 o oo2 z1 z2 z3 z4 z5 ⟨hmo, -⟩
    rcases hmo with ⟨e, -⟩ | ⟨-, e1, e2⟩
    · omega
    · exact hp _ _ _ _ _ _ _ _ _ _ _ ⟨by rw [e1, hv], by rw [← hv]; exact e2⟩
  · rintro k mo z0 o oo2 z1 z2 z3 z4 z5 again hk2 ⟨hmo, hA⟩ hag
    rw [if_pos hk2] at hA
    have hPk := PM_sq hm7 k hk2
    have hadv : ∀ m2 (o2 : Nat → Int32), (m2 = v (bi v k) ∧ ∀ i, i < m → o2 i = nI (lg (sq m (bi v k)) i)) → ∀ z0 z1 z2 z3 z4 z5, wp_X6_advance (nI m) oo2 (fun (zorders_order_29 : Nat → Int32) => again (nI k + (1 : Int32)) m2 z0 o2 zorders_order_29 z1 z2 z3 z4 z5) := by
      intro m2 o2 hmo2 z0 z1 z2 z3 z4 z5
      refine s_X6_advance hm7 hPk hA (fun e => hag _ _ _ _ _ _ _ _ _ ⟨Or.inr ⟨by omega, hmo2⟩, ?_⟩) (fun l2 od3 e h3 => hag _ _ _ _ _ _ _ _ _ ⟨Or.inr ⟨by omega, hmo2⟩, ?_⟩)
      · have hl : ¬ k + 1 < fN m := fun z => by rw [sq_s hm7 z] at e; simp at e
        rw [if_neg hl, show fN m - 1 = k by omega]; exact hA
      · have hl : k + 1 < fN m := by
          rcases Nat.lt_or_ge (k + 1) (fN m) with z | z
          · exact z
          · have := sq_e hm7
            rw [show fN m - 1 = k by omega, e] at this
            simp at this
        rw [sq_s hm7 hl] at e
        cases e
        rw [if_pos hl]; exact h3
    refine s_X3_worthsOf hn hm hhk hhk9 hPk hA (fun y1 y2 y3 y4 y5 y6 => jn_in ?_)
    have evk : (evS n h lk fr (nI hk) qL qR qN (lg (sq m k)) m).1 = v k := by rw [hv]; rfl
    rw [evk]
    refine ⟨fun z => hadv _ _ ?_ _ _ _ _ _ _, fun z => hadv _ _ ?_ _ _ _ _ _ _⟩
    · rcases hmo with ⟨e, em⟩ | ⟨e0, e1, e2⟩
      · have := hrng k hk2
        rw [em, i_le, t_m1] at z
        rw [i_le, t_0] at this
        omega
      · obtain ⟨k, rfl⟩ : ∃ k2, k = k2 + 1 := ⟨k - 1, by omega⟩
        rw [show k + 1 - 1 = k by omega] at e1 e2
        rw [bi, if_neg (by rw [← e1]; exact n_lt.mpr z)]
        exact ⟨e1, e2⟩
    · have ho : ∀ i, i < m → va_cpy oo2 o (0 : Int32).toNatClampNeg (0 : Int32).toNatClampNeg (7 : Int32).toNatClampNeg i = nI (lg (sq m k) i) := fun i hi => by rw [cpy7 _ _ (by omega)]; exact hA i hi
      rcases hmo with ⟨e, em⟩ | ⟨e0, e1, e2⟩
      · subst e; exact ⟨rfl, ho⟩
      · obtain ⟨k, rfl⟩ : ∃ k2, k = k2 + 1 := ⟨k - 1, by omega⟩
        rw [show k + 1 - 1 = k by omega] at e1 e2
        rw [bi, if_pos (by rw [← e1]; exact n_le.mp z)]
        exact ⟨rfl, ho⟩
