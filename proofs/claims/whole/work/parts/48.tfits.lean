/-! LIKINGS that are not told: the law's own reckoning, and both alike -/
theorem cnt_at {p : Nat → Bool} : ∀ {n i : Nat}, i < cnt p n → ∃ d, d < n ∧ p d = true ∧ cnt p d = i
  | 0, _, h => absurd h (Nat.not_lt_zero _)
  | n + 1, i, h => by
    rw [cnt] at h
    cases q : p n
    · rw [q] at h
      obtain ⟨d, a, b⟩ := cnt_at (p := p) (n := n) (i := i) h
      exact ⟨d, by omega, b⟩
    · rw [q] at h
      have h : i < cnt p n + 1 := h
      by_cases e : i = cnt p n
      · exact ⟨n, by omega, q, e.symm⟩
      · obtain ⟨d, a, b⟩ := cnt_at (p := p) (n := n) (i := i) (by omega)
        exact ⟨d, by omega, b⟩
theorem s_X12_codes {n : Nat} (hn : n ≤ 7) {mt : Nat → Int32} {un : Int32} (hm : ∀ d, d < n → mt d = (if bt un d then 0 else 1)) {post : Int32 → Prop} (hp : post (nI (19 ^ cnt (bt un) n))) : wp_X12_codes (nI n) mt post := by
  have hK : cnt (bt un) n ≤ n := cnt_le _ _
  unfold wp_X12_codes
  refine lor2 (I := fun r s i => ∃ j, j ≤ cnt (bt un) n ∧ r = cnt (bt un) n - j ∧ s = nI (19 ^ j) ∧ i = nI j) ?_ _ _ _ ⟨0, by omega, rfl, by rw [Nat.pow_zero]; rfl, rfl⟩
  rintro r s i again ⟨j, hj, rfl, rfl, rfl⟩ hag
  refine s_X12_opens hn hm ⟨fun z => ?_, fun z => ?_⟩
  · have := (nI_leI (by omega) (by omega)).mp z
    rw [show j = cnt (bt un) n by omega]; exact hp
  · have : ¬ cnt (bt un) n ≤ j := fun y => z ((nI_leI (by omega) (by omega)).mpr y)
    refine hag (cnt (bt un) n - (j + 1)) _ _ (by omega) ⟨j + 1, by omega, rfl, ?_, nI_1 _⟩
    rw [Nat.pow_succ]; exact pk_mul _ 19
theorem s_X12_unwrite {n : Nat} (hn : n ≤ 7) {mt zl : Nat → Int32} {un : Int32} (hm : ∀ d, d < n → mt d = (if bt un d then 0 else 1)) {post : (Nat → Int32) → Prop} (hp : ∀ l2 : Nat → Int32, (∀ d, d < n → l2 d = if bt un d then 0 else zl d) → post l2) : wp_X12_unwrite (nI n) zl mt post := by
  unfold wp_X12_unwrite
  refine lofE2_0 n (by omega) rfl (fun k l2 => (∀ d, d < k → l2 d = if bt un d then 0 else zl d) ∧ ∀ d, k ≤ d → l2 d = zl d) ?_ ?_ _ ⟨fun d hd => absurd hd (Nat.not_lt_zero _), fun _ _ => rfl⟩
  · rintro l2 ⟨a, -⟩; exact hp l2 a
  · rintro k l2 again hk ⟨a, b⟩ hag
    have v : vp_in (nI k) 7 := v_in (by omega) (by omega)
    rw [c_nI (by omega), hm k hk]
    have hup : ∀ x : Int32, (x = if bt un k then 0 else zl k) → again (nI k + 1) (upd l2 k x) := by
      intro x hx
      refine hag _ ⟨fun d hd => ?_, fun d hd => ?_⟩
      · by_cases e : d = k
        · subst e; rw [u_s, hx]
        · rw [u_n e]; exact a d (by omega)
      · rw [u_n (by omega)]; exact b d (by omega)
    refine ⟨v, jn_in ⟨fun z => ⟨v, hup _ ?_⟩, fun z => ⟨v, v, hup _ ?_⟩⟩⟩
    · cases q : bt un k
      · rw [q] at z; exact absurd z (by decide)
      · rfl
    · cases q : bt un k
      · exact b k (Nat.le_refl _)
      · rw [q] at z; exact absurd rfl z
theorem s_X12_write {n cc c : Nat} (hn : n ≤ 7) (hcc : cc ≤ 6) (hc : c < 2 ^ 31) {hu al ar un : Int32} {h zl lk mt fr arr od w fl : Nat → Int32} (hhu : 0 < hu) (hh : ∀ d, d < n → ∃ a : Nat, a ≤ 9 ∧ h d = nI a) (hm : ∀ d, d < n → mt d = (if bt un d then 0 else 1)) (hz : ∀ d, d < n → bt un d = false → zl d = lk d) {post : Int32 → Int32 → Int32 → (Nat → Int32) → (Nat → Int32) → (Nat → Int32) → (Nat → Int32) → Prop}
    (hp : ∀ (y1 y2 : Int32) (l2 y3 y4 y5 : Nat → Int32), (∀ d, d < n → l2 d = wlk un (cnt (bt un) n) c lk d) → post (if pF n un h lk fr (fun i => arr (3 * i)) (fun i => arr (3 * i + 1)) (fun i => arr (3 * i + 2)) cc c then 1 else 0) y1 y2 l2 y3 y4 y5) :
    wp_X12_write (nI n) hu (nI cc) al ar h zl mt fr arr od w fl (nI c) post := by
  have hK : cnt (bt un) n ≤ n := cnt_le _ _
  unfold wp_X12_write
  refine jn_in ?_
  obtain ⟨K, eK⟩ : ∃ K, K = cnt (bt un) n := ⟨_, rfl⟩
  refine lor3 (I := fun r x2 x3 g2 => r ≤ n ∧ x2 = nI (c / 19 ^ (K - cnt (bt un) r)) ∧ x3 = nI r - 1 ∧ (∀ d, d < n → bt un d = true → r ≤ d → g2 d = nI (dig K c (rk un d)) - 9) ∧ (∀ d, d < n → bt un d = false → g2 d = lk d)) ?_ n _ _ _ ⟨Nat.le_refl _, by rw [eK, Nat.sub_self, Nat.pow_zero, Nat.div_one], rfl, fun d hd hb hr => by omega, hz⟩
  rintro r x2 x3 g2 again ⟨hr, rfl, rfl, h1, h2⟩ hag
  cases r with
  | zero =>
    refine ⟨fun _ => ?_, fun z => absurd (by decide) z⟩
    have e3 : ∀ d, d < n → g2 d = wlk un (cnt (bt un) n) c lk d := by
      intro d hd
      unfold wlk
      cases q : bt un d
      · rw [h2 d hd q]; rfl
      · rw [h1 d hd q (Nat.zero_le _), eK]; rfl
    have ep : ∀ r, holdB n h g2 fr (fun i => arr (3 * i)) (fun i => arr (3 * i + 1)) (fun i => arr (3 * i + 2)) r = holdB n h (wlk un (cnt (bt un) n) c lk) fr (fun i => arr (3 * i)) (fun i => arr (3 * i + 1)) (fun i => arr (3 * i + 2)) r := by
      intro r
      induction r with
      | zero => rfl
      | succ r ih => rw [holdB, holdB, ih, vv_congr (fun d hd => ⟨rfl, e3 d hd, rfl⟩)]
    unfold pF at hp
    refine lofE7_1 cc (by omega) rfl (fun k x _ _ _ _ _ => (x = 1 ∧ ∀ i, i < k → (vv n h g2 fr (arr (3 * i) - arr (3 * i + 1)) (-6)).1 = arr (3 * i + 2)) ∨ (x = 0 ∧ holdB n h (wlk un (cnt (bt un) n) c lk) fr (fun i => arr (3 * i)) (fun i => arr (3 * i + 1)) (fun i => arr (3 * i + 2)) cc = false)) ?_ ?_ _ _ _ _ _ _ (Or.inl ⟨rfl, fun i hi => absurd hi (Nat.not_lt_zero _)⟩)
    · rintro x y1 y2 y3 y4 y5 (⟨rfl, hP⟩ | ⟨rfl, hP⟩)
      · have hb : holdB n h (wlk un (cnt (bt un) n) c lk) fr (fun i => arr (3 * i)) (fun i => arr (3 * i + 1)) (fun i => arr (3 * i + 2)) cc = true := by
          rw [← ep]; exact holdB_iff.mpr hP
        have := hp y1 y2 g2 y3 y4 y5 e3
        rw [if_pos hb] at this
        exact ⟨Or.inr rfl, this⟩
      · have := hp y1 y2 g2 y3 y4 y5 e3
        rw [hP] at this
        exact ⟨Or.inl rfl, this⟩
    · rintro k x y1 y2 y3 y4 y5 again2 hk (⟨rfl, hP⟩ | ⟨rfl, hP⟩) hag2
      · refine ⟨fun z => absurd z (by decide), fun _ => ?_⟩
        rw [show (3 : Int32) * nI k = nI (3 * k) from pk_mul 3 _, show nI (3 * k) + (1 : Int32) = nI (3 * k + 1) from nI_add _ 1, show nI (3 * k) + (2 : Int32) = nI (3 * k + 2) from nI_add _ 2, c_nI (show 3 * k < 64 by omega), c_nI (show 3 * k + 1 < 64 by omega), c_nI (show 3 * k + 2 < 64 by omega)]
        refine ⟨v_in (by omega) (by omega), v_in (by omega) (by omega), s_X12_fresh hn hhu hh (fun od2 w2 f2 hw => ⟨v_in (by omega) (by omega), jn_in ⟨fun z => hag2 _ _ _ _ _ _ (Or.inr ⟨rfl, ?_⟩), fun z => hag2 _ _ _ _ _ _ (Or.inl ⟨rfl, fun i hi => ?_⟩)⟩⟩)⟩
        · rw [← ep]
          cases q : holdB n h g2 fr (fun i => arr (3 * i)) (fun i => arr (3 * i + 1)) (fun i => arr (3 * i + 2)) cc
          · rfl
          · exact absurd (holdB_iff.mp q k hk) z
        · by_cases e : i = k
          · subst e; exact z
          · exact hP i (by omega)
      · refine ⟨fun _ => ⟨Or.inl rfl, ?_⟩, fun z => absurd rfl z⟩
        have := hp y1 y2 g2 y3 y4 y5 e3
        rw [hP] at this
        exact this
  | succ r =>
    rw [nI_pred]
    have hcr := cnt_le (bt un) r
    have hdv : c / 19 ^ (K - cnt (bt un) (r + 1)) ≤ c := Nat.div_le_self _ _
    have hn1 : nI r + (-1) = nI r - 1 := by grind
    have v : vp_in (nI r) 7 := v_in (by omega) (by omega)
    rw [d19 (by omega), r19 (by omega), c_nI (show r < 64 by omega), hm r (by omega)]
    refine ⟨fun z => absurd z (nI_pos (by omega)), fun _ => ⟨v, fun z => hag r _ _ _ (by omega) ⟨by omega, ?_, hn1, fun d hd hb hrd => ?_, h2⟩, fun z => ⟨v, hag r _ _ _ (by omega) ⟨by omega, ?_, hn1, fun d hd hb hrd => ?_, fun d hd hb => ?_⟩⟩⟩⟩
    · cases q : bt un r
      · rw [cnt, q]; rfl
      · rw [q] at z; exact absurd rfl z
    · refine h1 d hd hb ?_
      have : d ≠ r := fun y => by rw [y] at hb; rw [hb] at z; exact absurd rfl z
      omega
    · have q : bt un r = true := by
        cases q : bt un r
        · rw [q] at z; exact absurd z (by decide)
        · rfl
      have hlt : cnt (bt un) r < K := by rw [eK]; exact cnt_lt (by omega) q
      rw [cnt, if_pos q, Nat.div_div_eq_div_mul, ← Nat.pow_succ, show (K - (cnt (bt un) r + 1)).succ = K - cnt (bt un) r by omega]
    · by_cases e : d = r
      · subst e
        rw [u_s]
        unfold dig rk
        rw [cnt, if_pos hb, show K - (cnt (bt un) d + 1) = K - 1 - cnt (bt un) d by omega]
      · rw [u_n e]; exact h1 d hd hb (by omega)
    · have e : d ≠ r := fun y => by rw [y] at hb; rw [hb] at z; exact absurd z (by decide)
      rw [u_n e]; exact h2 d hd hb
theorem RR_lk {n : Nat} {dogs un mdogs : Int32} {h lk fr he mh mlk mt mfr mhe l2 : Nat → Int32} (H : RR n dogs un h lk fr he mdogs mh mlk mt mfr mhe) (e : ∀ d, d < n → l2 d = mlk d) : RR n dogs un h lk fr he mdogs mh l2 mt mfr mhe := by
  obtain ⟨hn, e1, e2, hd, hb⟩ := H
  refine ⟨hn, e1, e2, fun d hdn => ?_, hb⟩
  obtain ⟨a1, a2, a3⟩ := hd d hdn
  exact ⟨a1, by rw [a2, e d hdn], a3⟩
theorem t_fits {n cc : Nat} {dogs un mdogs hu mhu cs mcs : Int32} {h lk fr he mh mlk mt mfr mhe cl cr cn arr : Nat → Int32} (H : RR n dogs un h lk fr he mdogs mh mlk mt mfr mhe) (HH : RH hu mhu) (HC : RC 6 63 cc cs cl cr cn mcs arr) {uk uw us gd gu x1 x2 x3 x4 y1 y2 i : Int32} {ut fi le gr gh gl gf ghe y3 y4 y5 : Nat → Int32} (HU : ¬ uk = 0 → FitSpec n un (pF n un h lk fr cl cr cn cc) uw us fi le gr) :
    wp_X11_fits dogs un h lk fr he cs cl cr cn uk uw us ut fi le gr gd gu gh gl gf ghe x1 x2 x3 x4 i (fun r uk2 uw2 us2 _ fi2 le2 gr2 _ _ _ _ _ _ _ _ _ _ => wp_X12_fits mdogs mhu mcs y1 y2 mh mlk mt mfr arr y3 y4 y5 i (fun r2 _ _ mlk2 _ _ _ => r = r2 ∧ (∀ d, d < n → mlk2 d = mlk d) ∧ (¬ uk2 = 0 → FitSpec n un (pF n un h lk fr cl cr cn cc) uw2 us2 fi2 le2 gr2))) := by
  have H0 := H
  have hhu := RH_pos HH
  have hhm := RR_mh H0
  obtain ⟨hn, rfl, rfl, hd, -⟩ := H
  obtain ⟨hcc, rfl, rfl, hq⟩ := HC
  have hm : ∀ d, d < n → mt d = (if bt un d then 0 else 1) := fun d hdn => (hd d hdn).2.2.2.2.1
  have hlk0 : ∀ d, d < n → bt un d = true → mlk d = 0 := fun d hdn hb => by rw [← (hd d hdn).2.1]; exact (hd d hdn).2.2.2.2.2.1 hb
  have hpE : pF n un h lk fr cl cr cn cc = pF n un mh mlk mfr (fun i => arr (3 * i)) (fun i => arr (3 * i + 1)) (fun i => arr (3 * i + 2)) cc := pF_congr (fun d hdn => ⟨(hd d hdn).1, (hd d hdn).2.1, (hd d hdn).2.2.1⟩) (fun j hj => ⟨(hq j hj).1, (hq j hj).2.1, (hq j hj).2.2.1⟩)
  have hK : cnt (bt un) n ≤ n := cnt_le _ _
  obtain ⟨t1, t2⟩ := p19 (K := cnt (bt un) n) (by omega)
  unfold wp_X11_fits
  refine s_X5_find hn hcc HU (fun k2 w2 s2 u2 f2 l2 g2 z1 z2 z3 z4 z5 z6 z7 z8 z9 z10 hF => ?_)
  obtain ⟨p, hp⟩ : ∃ p : Nat → Bool, p = pF n un h lk fr cl cr cn cc := ⟨_, rfl⟩
  rw [hp.symm] at hF ⊢
  rw [← hp] at hpE
  obtain ⟨K, eK⟩ : ∃ K, K = cnt (bt un) n := ⟨_, rfl⟩
  obtain ⟨rfl, rfl, hFS⟩ := hF
  have hF : FitSpec n un p (nI (cnt p (19 ^ cnt (bt un) n))) (nI (cnt (bt un) n)) f2 l2 g2 := ⟨rfl, rfl, hFS⟩
  have hcT := cnt_le p (19 ^ cnt (bt un) n)
  have hmod : ∀ r : Int32, (i = -1 → r = nI (cnt p (19 ^ cnt (bt un) n))) → (¬ i = -1 → ¬ (isD K i ∧ 0 < cnt p (19 ^ cnt (bt un) n)) → r = -6) → (∀ j, j < K → i = nI j → 0 < cnt p (19 ^ cnt (bt un) n) → ∀ c0, c0 < 19 ^ cnt (bt un) n → p c0 = true → (∀ x, x < c0 → p x = false) → r = nI (dig K c0 j)) → wp_X12_fits (nI n) mhu (nI cc) y1 y2 mh mlk mt mfr arr y3 y4 y5 i (fun r2 _ _ mlk2 _ _ _ => r = r2 ∧ (∀ d, d < n → mlk2 d = mlk d) ∧ (¬ k2 = 0 → FitSpec n un p (nI (cnt p (19 ^ cnt (bt un) n))) (nI (cnt (bt un) n)) f2 l2 g2)) := by
    intro r r1 r2 r3
    unfold wp_X12_fits
    refine jn_in ?_
    refine lor9 (I := fun m x2 x3 x4 _ _ zl _ _ _ => ∃ c, c ≤ 19 ^ cnt (bt un) n ∧ m = 19 ^ cnt (bt un) n - c ∧ x4 = nI c ∧ x2 = nI (cnt p c) ∧ ((cnt p c = 0 ∧ x3 = -6) ∨ (0 < cnt p c ∧ ∃ c0, c0 < c ∧ p c0 = true ∧ (∀ x, x < c0 → p x = false) ∧ x3 = nI c0)) ∧ ∀ d, d < n → bt un d = false → zl d = mlk d) ?_ _ _ _ _ _ _ _ _ _ _ ⟨0, by omega, rfl, rfl, rfl, Or.inl ⟨rfl, rfl⟩, fun _ _ _ => rfl⟩
    rintro m x2 x3 x4 v1 v2 zl v3 v4 v5 again ⟨c, hc, rfl, rfl, rfl, hfi, hzl⟩ hag
    refine s_X12_codes hn hm ⟨fun z => ?_, fun z => ?_⟩
    · have := (nI_leI (by omega) (by omega)).mp z
      have hcE : c = 19 ^ cnt (bt un) n := by omega
      subst hcE
      refine s_X12_unwrite hn hm (fun l3 hl3 => ?_)
      have hl4 : ∀ d, d < n → l3 d = mlk d := by
        intro d hdn
        rw [hl3 d hdn]
        cases q : bt un d
        · exact hzl d hdn q
        · exact (hlk0 d hdn q).symm
      refine ⟨fun y => ⟨fun y2 => ⟨r2 y (fun g => ?_), hl4, fun _ => hF⟩, fun y2 => s_X12_opens hn hm (s_X12_in (fun y3 => ⟨fun _ => s_X12_opens hn hm (jn_in ?_), fun g => absurd g (by decide)⟩) (fun y3 => ⟨fun g => absurd rfl g, fun _ => ⟨r2 y (fun g => y3 ?_), hl4, fun _ => hF⟩⟩))⟩, fun y => ⟨r1 y, hl4, fun _ => hF⟩⟩
      · rcases hfi with ⟨a, -⟩ | ⟨a, c0, b1, b2, b3, rfl⟩
        · omega
        · exact nI_pos (by omega) y2
      · rcases hfi with ⟨a, rfl⟩ | ⟨a, c0, b1, b2, b3, rfl⟩
        · exact absurd (by decide) y2
        have hD : isD K i := by
          rw [isD_iff (by omega)]
          refine ⟨y3.1, ?_⟩
          have h2 := i_le.mp y3.2
          have h3 : (nI (cnt (bt un) n) - 1).toInt = (cnt (bt un) n : Int) - 1 := pk_sub_toInt (a := cnt (bt un) n) (b := 1) (by omega) (by omega)
          rw [h3] at h2
          rw [i_lt, nI_toInt (by omega)]; omega
        obtain ⟨j, hj, rfl⟩ := hD
        rw [← eK]
        refine lor2 (I := fun q x y => j + q < K ∧ y = nI (j + q) ∧ x = nI (c0 / 19 ^ (K - 1 - (j + q)))) ?_ (K - 1 - j) _ _ ⟨by omega, ?_, ?_⟩
        · rintro q x y again2 ⟨hq1, rfl, rfl⟩ hag2
          have hdv : c0 / 19 ^ (K - 1 - (j + q)) ≤ c0 := Nat.div_le_self _ _
          rw [d19 (by omega)]
          refine ⟨fun w => ?_, fun w => ?_⟩
          · have hq0 := (nI_leI (by omega) (by omega)).mp w
            have hq0 : q = 0 := by omega
            subst hq0
            rw [Nat.add_zero] at hdv ⊢
            dsimp only
            rw [d19 (show c0 / 19 ^ (K - 1 - j) < 2 ^ 31 by omega), r19 (show c0 / 19 ^ (K - 1 - j) < 2 ^ 31 by omega)]
            exact ⟨r3 j hj rfl a c0 b1 b2 b3, hl4, fun _ => by rw [eK]; exact hF⟩
          · have hq0 : 0 < q := by
              rcases Nat.eq_zero_or_pos q with e | e
              · subst e; exact absurd ((nI_leI (by omega) (by omega)).mpr (Nat.le_refl _)) w
              · exact e
            refine hag2 (q - 1) _ _ (by omega) ⟨by omega, ?_, ?_⟩
            · obtain ⟨q, rfl⟩ : ∃ q2, q = q2 + 1 := ⟨q - 1, by omega⟩
              rw [← Nat.add_assoc, ← nI_1, show q + 1 - 1 = q by omega]
              grind
            · rw [Nat.div_div_eq_div_mul, ← Nat.pow_succ, show (K - 1 - (j + q)).succ = K - 1 - (j + (q - 1)) by omega]
        · obtain ⟨K2, hK2⟩ : ∃ K2, K = K2 + 1 := ⟨K - 1, by omega⟩
          rw [hK2, nI_pred, show j + (K2 + 1 - 1 - j) = K2 by omega]
        · rw [show K - 1 - (j + (K - 1 - j)) = 0 by omega, Nat.pow_zero, Nat.div_one]
      · obtain ⟨g, -⟩ := g
        rw [isD_iff (by omega)] at g
        refine ⟨g.1, ?_⟩
        have h3 : (nI (cnt (bt un) n) - 1).toInt = (cnt (bt un) n : Int) - 1 := pk_sub_toInt (a := cnt (bt un) n) (b := 1) (by omega) (by omega)
        have h2 := i_lt.mp g.2
        rw [nI_toInt (by omega)] at h2
        rw [i_le, h3]; omega
    · have hlt : c < 19 ^ cnt (bt un) n := by
        rcases Nat.lt_or_ge c (19 ^ cnt (bt un) n) with e | e
        · exact e
        · exact absurd ((nI_leI (by omega) (by omega)).mpr e) z
      refine s_X12_write hn hcc (by omega) hhu hhm hm hzl (fun v6 v7 l3 v8 v9 v10 hl3 => ?_)
      rw [← hpE]
      have hzl3 : ∀ d, d < n → bt un d = false → l3 d = mlk d := fun d hdn hb => by rw [hl3 d hdn]; unfold wlk; rw [hb]; rfl
      cases q : p c
      · refine ⟨fun _ => hag (19 ^ cnt (bt un) n - (c + 1)) _ _ _ _ _ _ _ _ _ (by omega) ⟨c + 1, by omega, rfl, nI_1 _, by rw [cnt, q]; rfl, ?_, hzl3⟩, fun g => absurd rfl g⟩
        rw [cnt, q]
        rcases hfi with a | ⟨a, c0, b1, b2⟩
        · exact Or.inl a
        · exact Or.inr ⟨a, c0, by omega, b2⟩
      · have hcn : cnt p (c + 1) = cnt p c + 1 := by rw [cnt, if_pos q]
        refine ⟨fun g => absurd g (by decide), fun _ => jn_in ⟨fun g => hag (19 ^ cnt (bt un) n - (c + 1)) _ _ _ _ _ _ _ _ _ (by omega) ⟨c + 1, by omega, rfl, nI_1 _, ?_, ?_, hzl3⟩, fun g => hag (19 ^ cnt (bt un) n - (c + 1)) _ _ _ _ _ _ _ _ _ (by omega) ⟨c + 1, by omega, rfl, nI_1 _, ?_, ?_, hzl3⟩⟩⟩
        · rw [hcn, nI_1]
        · rcases hfi with ⟨a, rfl⟩ | ⟨a, c0, b1, b2⟩
          · exact absurd g (by decide)
          · exact Or.inr ⟨by omega, c0, by omega, b2⟩
        · rw [hcn, nI_1]
        · rcases hfi with ⟨a, rfl⟩ | ⟨a, c0, b1, b2, b3, rfl⟩
          · exact Or.inr ⟨by omega, c, by omega, q, cnt_zero a, rfl⟩
          · exact absurd (nI_pos' (by omega)) g
  refine ⟨fun y => ⟨fun y2 => hmod _ (fun e => absurd e y) (fun _ _ => rfl) (fun j hj e => ?_), fun y2 => ⟨fun y3 => hmod _ (fun e => absurd e y) (fun _ _ => rfl) (fun j hj e => ?_), fun y3 => ⟨fun y4 => ?_, fun y4 => hmod _ (fun e => absurd e y) (fun _ _ => rfl) (fun j hj e e2 => ?_)⟩⟩⟩, fun y => hmod _ (fun _ => rfl) (fun e => absurd y e) (fun j hj e => ?_)⟩
  · rw [e] at y2; exact absurd y2 (nI_pos (by omega))
  · rw [e] at y3
    have := (nI_leI (by omega) (by omega)).mp y3
    omega
  · have hD : isD K i := by rw [isD_iff (by omega), eK]; exact ⟨n_lt.mp y2, n_le.mp y3⟩
    have hpos : 0 < cnt p (19 ^ cnt (bt un) n) := by
      rcases Nat.eq_zero_or_pos (cnt p (19 ^ cnt (bt un) n)) with e | e
      · rw [e] at y4; exact absurd rfl y4
      · exact e
    refine ⟨?_, hmod _ (fun e => absurd e y) (fun _ g => absurd ⟨hD, hpos⟩ g) ?_⟩
    · obtain ⟨j, hj, rfl⟩ := hD
      exact v_in (by omega) (by omega)
    · rintro j hj rfl _ c0 hc0 hpc hmin
      obtain ⟨⟨c1, a1, a2, a3, a4⟩, -⟩ := hFS hpos
      have hcc1 : c1 = c0 := by
        rcases Nat.lt_trichotomy c0 c1 with w | w | w
        · rw [a3 c0 w] at hpc; simp at hpc
        · exact w.symm
        · rw [hmin c1 w] at a2; simp at a2
      subst hcc1
      rw [eK] at hj
      obtain ⟨d, hdn, hb, hrk⟩ := cnt_at hj
      rw [c_nI (by omega)]
      have := a4 d hdn hb
      unfold rk at this
      rw [hrk] at this
      rw [this, p9, eK]
  · have y5 : nI (cnt p (19 ^ cnt (bt un) n)) = nI 0 := y4
    have := (nI_eq (by omega) (by omega)).mp y5
    omega
  · rw [y] at e
    have := nI_pos' (n := j) (by omega)
    rw [← e] at this
    exact absurd this (by decide)
theorem t_liking {n cc : Nat} {dogs un mdogs hu mhu cs mcs : Int32} {h lk fr he mh mlk mt mfr mhe cl cr cn arr : Nat → Int32} (H : RR n dogs un h lk fr he mdogs mh mlk mt mfr mhe) (HH : RH hu mhu) (HC : RC 6 63 cc cs cl cr cn mcs arr) {uk uw us gd gu x1 x2 x3 x4 y1 y2 i b : Int32} {ut fi le gr gh gl gf ghe y3 y4 y5 : Nat → Int32} (HU : ¬ uk = 0 → FitSpec n un (pF n un h lk fr cl cr cn cc) uw us fi le gr) :
    wp_X11_liking dogs un h lk fr he cs cl cr cn uk uw us ut fi le gr gd gu gh gl gf ghe x1 x2 x3 x4 i b (fun r uk2 uw2 us2 _ fi2 le2 gr2 _ _ _ _ _ _ _ _ _ _ => wp_X12_liking mdogs mhu mcs y1 y2 mh mlk mt mfr arr y3 y4 y5 i b (fun r2 _ _ mlk2 _ _ _ => r = r2 ∧ (∀ d, d < n → mlk2 d = mlk d) ∧ (¬ uk2 = 0 → FitSpec n un (pF n un h lk fr cl cr cn cc) uw2 us2 fi2 le2 gr2))) := by
  have H0 := H
  have hhu := RH_pos HH
  have hhm := RR_mh H0
  obtain ⟨hn, rfl, rfl, hd, -⟩ := H
  obtain ⟨hcc, rfl, rfl, hq⟩ := HC
  have hm : ∀ d, d < n → mt d = (if bt un d then 0 else 1) := fun d hdn => (hd d hdn).2.2.2.2.1
  have hlk0 : ∀ d, d < n → bt un d = true → mlk d = 0 := fun d hdn hb => by rw [← (hd d hdn).2.1]; exact (hd d hdn).2.2.2.2.2.1 hb
  have hpE : pF n un h lk fr cl cr cn cc = pF n un mh mlk mfr (fun i => arr (3 * i)) (fun i => arr (3 * i + 1)) (fun i => arr (3 * i + 2)) cc := pF_congr (fun d hdn => ⟨(hd d hdn).1, (hd d hdn).2.1, (hd d hdn).2.2.1⟩) (fun j hj => ⟨(hq j hj).1, (hq j hj).2.1, (hq j hj).2.2.1⟩)
  have hK : cnt (bt un) n ≤ n := cnt_le _ _
  obtain ⟨t1, t2⟩ := p19 (K := cnt (bt un) n) (by omega)
  unfold wp_X11_liking
  refine s_X9_has (by omega) (fun hD => ⟨fun e => absurd e (by decide), fun _ => ?_⟩) (fun hD => ⟨fun _ => ?_, fun e => absurd rfl e⟩)
  · obtain ⟨j, hj, rfl⟩ := hD
    have hv : vp_in (nI j) 7 := v_in (by omega) (by omega)
    refine s_X9_isTold (by omega) (fun hb => ⟨fun e => absurd e (by decide), fun _ => ?_⟩) (fun hb => ⟨fun _ => s_X11_isWithin (fun q1 => ⟨fun _ => ?_, fun e => absurd e (by decide)⟩) (fun q1 => ⟨fun e => absurd rfl e, fun _ => ?_⟩), fun e => absurd rfl e⟩)
    · unfold wp_X12_liking
      refine s_X12_isDog (by omega) (fun _ => ⟨fun e => absurd e (by decide), fun _ => ?_⟩) (fun z => absurd ⟨j, hj, rfl⟩ z)
      rw [c_nI (by omega), hm j hj, hb]
      exact ⟨hv, fun e => absurd e (by decide), fun _ => ⟨rfl, fun _ _ => rfl, HU⟩⟩
    · refine s_X5_find hn hcc HU (fun k2 w2 s2 u2 f2 l2 g2 z1 z2 z3 z4 z5 z6 z7 z8 z9 z10 hF => ?_)
      obtain ⟨p, hp⟩ : ∃ p : Nat → Bool, p = pF n un h lk fr cl cr cn cc := ⟨_, rfl⟩
      rw [hp.symm] at hF ⊢
      rw [← hp] at hpE
      obtain ⟨rfl, rfl, hFS⟩ := hF
      have hF : FitSpec n un p (nI (cnt p (19 ^ cnt (bt un) n))) (nI (cnt (bt un) n)) f2 l2 g2 := ⟨rfl, rfl, hFS⟩
      have hcT := cnt_le p (19 ^ cnt (bt un) n)
      have hmod : ∀ r : Int32, (cnt p (19 ^ cnt (bt un) n) = 0 → r = -3) → (0 < cnt p (19 ^ cnt (bt un) n) → ∀ lo_ hi_ : Nat, (∃ x, x < 19 ^ cnt (bt un) n ∧ p x = true ∧ lo_ = dig (cnt (bt un) n) x (rk un j)) → (∀ x, x < 19 ^ cnt (bt un) n → p x = true → lo_ ≤ dig (cnt (bt un) n) x (rk un j)) → (∃ x, x < 19 ^ cnt (bt un) n ∧ p x = true ∧ hi_ = dig (cnt (bt un) n) x (rk un j)) → (∀ x, x < 19 ^ cnt (bt un) n → p x = true → dig (cnt (bt un) n) x (rk un j) ≤ hi_) → r = if b = 0 then nI lo_ else nI hi_) → wp_X12_liking (nI n) mhu (nI cc) y1 y2 mh mlk mt mfr arr y3 y4 y5 (nI j) b (fun r2 _ _ mlk2 _ _ _ => r = r2 ∧ (∀ d, d < n → mlk2 d = mlk d) ∧ (¬ k2 = 0 → FitSpec n un p (nI (cnt p (19 ^ cnt (bt un) n))) (nI (cnt (bt un) n)) f2 l2 g2)) := by
        intro r r1 r2
        unfold wp_X12_liking
        refine s_X12_isDog (by omega) (fun _ => ⟨fun e => absurd e (by decide), fun _ => ?_⟩) (fun z => absurd ⟨j, hj, rfl⟩ z)
        rw [c_nI (by omega), hm j hj, hb]
        refine ⟨hv, fun _ => s_X12_in (fun _ => ⟨fun _ => jn_in ?_, fun e => absurd e (by decide)⟩) (fun z => absurd q1 z), fun e => absurd rfl e⟩
        refine lor9 (I := fun m x3 x4 x5 _ _ zl _ _ _ => ∃ c, c ≤ 19 ^ cnt (bt un) n ∧ m = 19 ^ cnt (bt un) n - c ∧ x5 = nI c ∧ ((cnt p c = 0 ∧ x3 = 100 ∧ x4 = -6) ∨ (0 < cnt p c ∧ ∃ lo_ hi_ : Nat, x3 = nI lo_ ∧ x4 = nI hi_ ∧ (∃ x, x < c ∧ p x = true ∧ lo_ = dig (cnt (bt un) n) x (rk un j)) ∧ (∀ x, x < c → p x = true → lo_ ≤ dig (cnt (bt un) n) x (rk un j)) ∧ (∃ x, x < c ∧ p x = true ∧ hi_ = dig (cnt (bt un) n) x (rk un j)) ∧ (∀ x, x < c → p x = true → dig (cnt (bt un) n) x (rk un j) ≤ hi_))) ∧ ∀ d, d < n → bt un d = false → zl d = mlk d) ?_ _ _ _ _ _ _ _ _ _ _ ⟨0, by omega, rfl, rfl, Or.inl ⟨rfl, rfl, rfl⟩, fun _ _ _ => rfl⟩
        rintro m x3 x4 x5 v1 v2 zl v3 v4 v5 again ⟨c, hc, rfl, rfl, hfi, hzl⟩ hag
        refine s_X12_codes hn hm ⟨fun z => ?_, fun z => ?_⟩
        · have := (nI_leI (by omega) (by omega)).mp z
          have hcE : c = 19 ^ cnt (bt un) n := by omega
          subst hcE
          refine s_X12_unwrite hn hm (fun l3 hl3 => ?_)
          have hl4 : ∀ d, d < n → l3 d = mlk d := by
            intro d hdn
            rw [hl3 d hdn]
            cases q : bt un d
            · exact hzl d hdn q
            · exact (hlk0 d hdn q).symm
          rcases hfi with ⟨a, rfl, rfl⟩ | ⟨a, lo_, hi_, rfl, rfl, a1, a2, a3, a4⟩
          · exact ⟨fun e => absurd e (by decide), fun _ => ⟨r1 a, hl4, fun _ => hF⟩⟩
          · have hr := r2 a lo_ hi_ a1 a2 a3 a4
            have hhi : hi_ < 19 := by
              obtain ⟨x, -, -, e⟩ := a3
              rw [e]; exact dig_lt _ _ _
            refine ⟨fun _ => ⟨fun e => ⟨by rw [hr, if_neg e], hl4, fun _ => hF⟩, fun e => ⟨by rw [hr, if_pos e], hl4, fun _ => hF⟩⟩, fun e => absurd (nI_pos' (by omega)) e⟩
        · have hlt : c < 19 ^ cnt (bt un) n := by
            rcases Nat.lt_or_ge c (19 ^ cnt (bt un) n) with e | e
            · exact e
            · exact absurd ((nI_leI (by omega) (by omega)).mpr e) z
          refine s_X12_write hn hcc (by omega) hhu hhm hm hzl (fun v6 v7 l3 v8 v9 v10 hl3 => ?_)
          rw [← hpE]
          have hzl3 : ∀ d, d < n → bt un d = false → l3 d = mlk d := fun d hdn hb => by rw [hl3 d hdn]; unfold wlk; rw [hb]; rfl
          cases q : p c
          · refine ⟨fun _ => hag (19 ^ cnt (bt un) n - (c + 1)) _ _ _ _ _ _ _ _ _ (by omega) ⟨c + 1, by omega, rfl, nI_1 _, ?_, hzl3⟩, fun g => absurd rfl g⟩
            have hx : ∀ x, x < c + 1 → p x = true → x < c := fun x h1 h2 => by
              have : x ≠ c := fun e => by rw [e, q] at h2; simp at h2
              omega
            rw [cnt, q]
            rcases hfi with a | ⟨a, lo_, hi_, e1, e2, ⟨x, w1, w2⟩, a2, ⟨y, w3, w4⟩, a4⟩
            · exact Or.inl a
            · exact Or.inr ⟨a, lo_, hi_, e1, e2, ⟨x, by omega, w2⟩, fun x h1 h2 => a2 x (hx x h1 h2) h2, ⟨y, by omega, w4⟩, fun x h1 h2 => a4 x (hx x h1 h2) h2⟩
          · have hcn : cnt p (c + 1) = cnt p c + 1 := by rw [cnt, if_pos q]
            have ho : l3 j + 9 = nI (dig (cnt (bt un) n) c (rk un j)) := by
              rw [hl3 j hj]; unfold wlk; rw [if_pos hb, p9]
            have hdl := dig_lt (cnt (bt un) n) c (rk un j)
            obtain ⟨o, hoe⟩ : ∃ o, o = dig (cnt (bt un) n) c (rk un j) := ⟨_, rfl⟩
            simp only [ho]
            rw [← hoe] at hdl ⊢
            have hgo : ∀ t1 t2 : Int32, (t1 = if x3 ≤ nI o then x3 else nI o) → (t2 = if nI o ≤ x4 then x4 else nI o) → again t1 t2 (nI c + 1) v6 v7 l3 v8 v9 v10 := by
              intro t1 t2 e1 e2
              refine hag (19 ^ cnt (bt un) n - (c + 1)) _ _ _ _ _ _ _ _ _ (by omega) ⟨c + 1, by omega, rfl, nI_1 _, Or.inr ⟨by omega, ?_⟩, hzl3⟩
              rcases hfi with ⟨a, rfl, rfl⟩ | ⟨a, lo_, hi_, rfl, rfl, ⟨x, w1, w2, w5⟩, a2, ⟨y, w3, w4, w6⟩, a4⟩
              · rw [if_neg (by show ¬ nI 100 ≤ nI o; rw [nI_leI (by omega) (by omega)]; omega)] at e1
                rw [if_neg (by rw [i_le, t_m6, nI_toInt (by omega)]; omega)] at e2
                have hx : ∀ x, x < c + 1 → p x = true → x = c := fun x h1 h2 => by
                  rcases Nat.lt_or_ge x c with w | w
                  · rw [cnt_zero a x w] at h2; simp at h2
                  · omega
                exact ⟨o, o, e1, e2, ⟨c, by omega, q, hoe⟩, fun x h1 h2 => by rw [hx x h1 h2, hoe]; exact Nat.le_refl _, ⟨c, by omega, q, hoe⟩, fun x h1 h2 => by rw [hx x h1 h2, hoe]; exact Nat.le_refl _⟩
              · have hl := dig_lt (cnt (bt un) n) x (rk un j)
                have hh2 := dig_lt (cnt (bt un) n) y (rk un j)
                rw [← w5] at hl
                rw [← w6] at hh2
                simp only [nI_leI (show lo_ < 2 ^ 31 by omega) (show o < 2 ^ 31 by omega)] at e1
                simp only [nI_leI (show o < 2 ^ 31 by omega) (show hi_ < 2 ^ 31 by omega)] at e2
                have hx : ∀ x, x < c + 1 → x = c ∨ x < c := fun x h1 => by omega
                refine ⟨if lo_ ≤ o then lo_ else o, if o ≤ hi_ then hi_ else o, ?_, ?_, ?_, ?_, ?_, ?_⟩
                · rw [e1]; split <;> rfl
                · rw [e2]; split <;> rfl
                · by_cases g : lo_ ≤ o
                  · rw [if_pos g]; exact ⟨x, by omega, w2, w5⟩
                  · rw [if_neg g]; exact ⟨c, by omega, q, hoe⟩
                · intro t h1 h2
                  rcases hx t h1 with rfl | h3
                  · rw [← hoe]; split <;> omega
                  · have := a2 t h3 h2
                    split <;> omega
                · by_cases g : o ≤ hi_
                  · rw [if_pos g]; exact ⟨y, by omega, w4, w6⟩
                  · rw [if_neg g]; exact ⟨c, by omega, q, hoe⟩
                · intro t h1 h2
                  rcases hx t h1 with rfl | h3
                  · rw [← hoe]; split <;> omega
                  · have := a4 t h3 h2
                    split <;> omega
            refine ⟨fun g => absurd g (by decide), fun _ => ⟨hv, jn_in (jn_in ?_)⟩⟩
            refine ⟨fun g1 => ⟨fun g2 => hgo _ _ ?_ ?_, fun g2 => hgo _ _ ?_ ?_⟩, fun g1 => ⟨fun g2 => hgo _ _ ?_ ?_, fun g2 => hgo _ _ ?_ ?_⟩⟩
            all_goals simp only [g1, g2, if_true, if_false]
      refine ⟨fun y => jn_in ?_, fun y => hmod _ (fun _ => rfl) (fun g => ?_)⟩
      · have hpos : 0 < cnt p (19 ^ cnt (bt un) n) := by
          rcases Nat.eq_zero_or_pos (cnt p (19 ^ cnt (bt un) n)) with e | e
          · rw [e] at y; exact absurd rfl y
          · exact e
        obtain ⟨-, hall⟩ := hFS hpos
        obtain ⟨⟨⟨x, pp1, pp2, pp3⟩, pp4⟩, ⟨⟨y', ss1, ss2, ss3⟩, ss4⟩⟩ := hall j hj hb
        have dx := dig_lt (cnt (bt un) n) x (rk un j)
        have dy := dig_lt (cnt (bt un) n) y' (rk un j)
        rw [pp3, p9, c_nI (by omega)] at pp4
        rw [ss3, p9, c_nI (by omega)] at ss4
        have hgo : ∀ t : Int32, (t = if b = 0 then l2 j else g2 j) → wp_X12_liking (nI n) mhu (nI cc) y1 y2 mh mlk mt mfr arr y3 y4 y5 (nI j) b (fun r2 _ _ mlk2 _ _ _ => t + 9 = r2 ∧ (∀ d, d < n → mlk2 d = mlk d) ∧ (¬ k2 = 0 → FitSpec n un p (nI (cnt p (19 ^ cnt (bt un) n))) (nI (cnt (bt un) n)) f2 l2 g2)) := by
          intro t ht
          refine hmod _ (fun g => by omega) (fun _ lo_ hi_ ⟨a, a1, a2, a3⟩ b1 ⟨c, c1, c2, c3⟩ d1 => ?_)
          rw [ht]
          have e1 : lo_ = dig (cnt (bt un) n) x (rk un j) := by
            have h1 := b1 x pp1 pp2
            have h2 := pp4 a a1 a2
            omega
          have e2 : hi_ = dig (cnt (bt un) n) y' (rk un j) := by
            have h1 := d1 y' ss1 ss2
            have h2 := ss4 c c1 c2
            omega
          by_cases hb0 : b = 0
          · rw [if_pos hb0, if_pos hb0, pp3, p9, e1]
          · rw [if_neg hb0, if_neg hb0, ss3, p9, e2]
        rw [c_nI (by omega)]
        exact ⟨fun g => ⟨hv, hgo _ (by rw [if_neg g])⟩, fun g => ⟨hv, hgo _ (by rw [if_pos g])⟩⟩
      · have y5 : nI (cnt p (19 ^ cnt (bt un) n)) = nI 0 := y
        have := (nI_eq (by omega) (by omega)).mp y5
        omega
    · unfold wp_X12_liking
      refine s_X12_isDog (by omega) (fun _ => ⟨fun e => absurd e (by decide), fun _ => ?_⟩) (fun z => absurd ⟨j, hj, rfl⟩ z)
      rw [c_nI (by omega), hm j hj, hb]
      exact ⟨hv, fun _ => s_X12_in (fun z => absurd z q1) (fun _ => ⟨fun e => absurd rfl e, fun _ => ⟨rfl, fun _ _ => rfl, HU⟩⟩), fun e => absurd rfl e⟩
  · unfold wp_X12_liking
    exact s_X12_isDog (by omega) (fun z => absurd z hD) (fun _ => ⟨fun _ => ⟨rfl, fun _ _ => rfl, HU⟩, fun e => absurd rfl e⟩)
