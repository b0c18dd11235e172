/-! what both sides hold alike -/
def RP (k : Nat) (sz : Int32) (sg : Nat → Int32) (msz : Int32) (mp : Nat → Int32) : Prop := k ≤ 60 ∧ sz = nI k ∧ msz = nI k ∧ ∀ j, j < k → sg j = mp j ∧ 33 ≤ sg j ∧ sg j ≤ 126
def RR (n : Nat) (dogs un : Int32) (h lk fr he : Nat → Int32) (mdogs : Int32) (mh mlk mt mfr mhe : Nat → Int32) : Prop :=
  n ≤ 7 ∧ dogs = nI n ∧ mdogs = nI n ∧ (∀ d, d < n → h d = mh d ∧ lk d = mlk d ∧ fr d = mfr d ∧ (∃ a : Nat, a ≤ 9 ∧ h d = nI a) ∧ mt d = (if bt un d then 0 else 1) ∧ (bt un d = true → lk d = 0) ∧ ((he d = -1 ∧ mhe d = -6) ∨ ∃ j, j < n ∧ he d = nI j ∧ mhe d = nI j)) ∧ (∀ i, n ≤ i → i < 32 → bt un i = false)
def RC (N : Nat) (B : Int32) (c : Nat) (sz : Int32) (lf rt nm : Nat → Int32) (msz : Int32) (arr : Nat → Int32) : Prop :=
  c ≤ N ∧ sz = nI c ∧ msz = nI c ∧ ∀ i, i < c → lf i = arr (3 * i) ∧ rt i = arr (3 * i + 1) ∧ nm i = arr (3 * i + 2) ∧ 0 ≤ nm i ∧ nm i ≤ B
def RH (hu mhu : Int32) : Prop := hu = mhu ∧ ∃ k : Nat, 1 ≤ k ∧ k ≤ 9 ∧ hu = nI k
theorem t_say {k : Nat} {sz msz a : Int32} {sg mp : Nat → Int32} (h : RP k sz sg msz mp) : wp_X11_say sz sg a (fun r sz2 sg2 => wp_X12_say msz mp a (fun r2 msz2 mp2 => r = r2 ∧ ∃ k2, RP k2 sz2 sg2 msz2 mp2)) := by
  obtain ⟨hk, rfl, rfl, hj⟩ := h
  have h0 : RP k (nI k) sg (nI k) mp := ⟨hk, rfl, rfl, hj⟩
  by_cases ha : (33 : Int32) ≤ a ∧ a ≤ 126
  · have hm : ∀ (r sz2 : Int32) (sg2 : Nat → Int32), (if k = 60 then r = -4 ∧ sz2 = nI k ∧ sg2 = sg else r = nI (k + 1) ∧ sz2 = nI (k + 1) ∧ sg2 = upd sg k a) → wp_X12_say (nI k) mp a (fun r2 msz2 mp2 => r = r2 ∧ ∃ k2, RP k2 sz2 sg2 msz2 mp2) := by
      intro r sz2 sg2 hq
      unfold wp_X12_say
      refine s_X12_in (fun _ => ⟨fun _ => ⟨fun h1 => ?_, fun h1 => ?_⟩, fun h => absurd h (by decide)⟩) (fun q => absurd ha q)
      · have h2 : k ≠ 60 := fun e => h1 (by rw [e]; rfl)
        rw [if_neg h2] at hq
        obtain ⟨rfl, rfl, rfl⟩ := hq
        rw [c_nI (by omega), nI_1]
        refine ⟨v_in (by omega) (by omega), rfl, k + 1, by omega, rfl, rfl, fun j hjk => ?_⟩
        by_cases e : j = k
        · subst e; rw [u_s, u_s]; exact ⟨rfl, ha⟩
        · rw [u_n e, u_n e]; exact hj j (by omega)
      · have h2 : k = 60 := (nI_eq (by omega) (by omega)).mp h1
        rw [if_pos h2] at hq
        obtain ⟨rfl, rfl, rfl⟩ := hq
        exact ⟨rfl, k, h0⟩
    unfold wp_X11_say
    refine ⟨fun q => absurd ha.1 (n_le.mpr q), fun _ => ⟨fun _ => ?_, fun q => absurd ha.2 q⟩⟩
    unfold wp_X7_add
    refine ⟨fun q => ?_, fun q => ?_⟩
    · have h2 : k < 60 := (nI_ltI (by omega) (by omega)).mp q
      rw [c_nI (by omega), nI_1]
      refine ⟨v_in h2 (by omega), fun e => absurd e (by decide), fun _ => hm _ _ _ ?_⟩
      rw [if_neg (by omega)]
      exact ⟨rfl, rfl, rfl⟩
    · have h2 : ¬ k < 60 := fun e => q (nI_lt (b := 60) e (by decide))
      refine ⟨fun _ => hm _ _ _ ?_, fun e => absurd rfl e⟩
      rw [if_pos (by omega)]
      exact ⟨rfl, rfl, rfl⟩
  · have hm : wp_X12_say (nI k) mp a (fun r2 msz2 mp2 => (-2 : Int32) = r2 ∧ ∃ k2, RP k2 (nI k) sg msz2 mp2) := by
      unfold wp_X12_say
      exact s_X12_in (fun q => absurd q ha) (fun _ => ⟨fun e => absurd rfl e, fun _ => ⟨rfl, k, h0⟩⟩)
    unfold wp_X11_say
    refine ⟨fun _ => hm, fun q => ⟨fun q2 => absurd ⟨n_lt.mp q, q2⟩ ha, fun _ => hm⟩⟩
theorem t_wipe {k : Nat} {sz msz : Int32} {sg mp : Nat → Int32} (h : RP k sz sg msz mp) : wp_X11_wipe sz (fun r sz2 => wp_X12_wipe msz (fun r2 msz2 => r = r2 ∧ RP 0 sz2 sg msz2 mp)) := by
  obtain ⟨hk, rfl, rfl, hj⟩ := h
  exact ⟨rfl, by omega, nI_0.symm, nI_0.symm, fun j h => absurd h (Nat.not_lt_zero _)⟩
theorem t_dog {n : Nat} {dogs un mdogs a b : Int32} {h lk fr he mh mlk mt mfr mhe : Nat → Int32} (H : RR n dogs un h lk fr he mdogs mh mlk mt mfr mhe) : wp_X11_dog dogs un h lk fr a b (fun r => wp_X12_dog mdogs mh mlk mt mfr a b (fun r2 => r = r2)) := by
  obtain ⟨hn, rfl, rfl, hd, hu⟩ := H
  unfold wp_X11_dog
  refine s_X9_has (by omega) (fun q => ⟨fun _ => ?_, fun e => absurd e (by decide)⟩) (fun q => ⟨fun e => absurd rfl e, fun _ => ?_⟩)
  · obtain ⟨j, hj, rfl⟩ := q
    obtain ⟨e1, e2, e3, -, e4, -, -⟩ := hd j hj
    have hm : ∀ r : Int32, r = (if b = 0 then h j else if b = 1 then (if bt un j then -6 else lk j + 9) else if b = 2 then fr j else -2) → wp_X12_dog (nI n) mh mlk mt mfr (nI j) b (fun r2 => r = r2) := by
      intro r hr
      unfold wp_X12_dog
      refine s_X12_isDog (by omega) (fun q => ⟨fun _ => ?_, fun e => absurd e (by decide)⟩) (fun q => absurd ⟨j, hj, rfl⟩ q)
      rw [c_nI (by omega)]
      refine ⟨fun b0 => ⟨fun b1 => ⟨fun b2 => ?_, fun b2 => ⟨v_in (by omega) (by omega), ?_⟩⟩, fun b1 => ⟨v_in (by omega) (by omega), fun m0 => ?_, fun m0 => ⟨v_in (by omega) (by omega), ?_⟩⟩⟩, fun b0 => ⟨v_in (by omega) (by omega), ?_⟩⟩
      · rw [if_neg b0, if_neg b1, if_neg b2] at hr; exact hr
      · rw [if_neg b0, if_neg b1, if_pos b2] at hr; rw [hr, e3]
      · rw [if_neg b0, if_pos b1] at hr
        rw [e4] at m0
        cases hb : bt un j
        · rw [hb] at m0; exact absurd m0 (by decide)
        · rw [hb] at hr; exact hr
      · rw [if_neg b0, if_pos b1] at hr
        rw [e4] at m0
        cases hb : bt un j
        · rw [hb] at hr; rw [hr, ← e2]; rfl
        · rw [hb] at m0; exact absurd rfl m0
      · rw [if_pos b0] at hr; rw [hr, e1]
    rw [c_nI (by omega)]
    refine ⟨fun b0 => ⟨v_in (by omega) (by omega), hm _ (by rw [if_pos b0])⟩, fun b0 => ⟨fun b1 => s_X9_isTold (by omega) (fun u => ⟨fun e => absurd e (by decide), fun _ => ⟨v_in (by omega) (by omega), hm _ ?_⟩⟩) (fun u => ⟨fun _ => hm _ ?_, fun e => absurd rfl e⟩), fun b1 => ⟨fun b2 => ⟨v_in (by omega) (by omega), hm _ ?_⟩, fun b2 => hm _ ?_⟩⟩⟩
    · rw [if_neg b0, if_pos b1, u]; rfl
    · rw [if_neg b0, if_pos b1, u]; rfl
    · rw [if_neg b0, if_neg b1, if_pos b2]
    · rw [if_neg b0, if_neg b1, if_neg b2]
  · unfold wp_X12_dog
    exact s_X12_isDog (by omega) (fun q2 => absurd q2 q) (fun _ => ⟨fun e => absurd rfl e, fun _ => rfl⟩)
theorem t_heir {n : Nat} {dogs un mdogs a b : Int32} {h lk fr he mh mlk mt mfr mhe : Nat → Int32} (H : RR n dogs un h lk fr he mdogs mh mlk mt mfr mhe) : wp_X11_heir dogs he a b (fun r he2 => wp_X12_heir mdogs mhe a b (fun r2 mhe2 => r = r2 ∧ RR n dogs un h lk fr he2 mdogs mh mlk mt mfr mhe2)) := by
  have H0 := H
  obtain ⟨hn, rfl, rfl, hd, hu⟩ := H
  unfold wp_X11_heir
  have hbad : (¬ isD n a ∨ a = b ∨ (¬ b = -1 ∧ ¬ isD n b)) → wp_X12_heir (nI n) mhe a b (fun r2 mhe2 => (-1 : Int32) = r2 ∧ RR n (nI n) un h lk fr he (nI n) mh mlk mt mfr mhe2) := by
    intro hb
    unfold wp_X12_heir
    refine s_X12_isDog (by omega) (fun q => ⟨fun e => absurd e (by decide), fun _ => ?_⟩) (fun q => ⟨fun _ => ⟨rfl, H0⟩, fun e => absurd rfl e⟩)
    refine jn_in ⟨fun b1 => ⟨fun e => ?_, fun e => ⟨rfl, H0⟩⟩, fun b1 => s_X12_isDog (by omega) (fun q2 => ⟨fun e => absurd e (by decide), fun _ => ⟨fun e => ?_, fun e => ⟨rfl, H0⟩⟩⟩) (fun q2 => ⟨fun _ => ⟨rfl, H0⟩, fun e => absurd rfl e⟩)⟩
    · rcases hb with h1 | h1 | h1
      · exact absurd q h1
      · exact absurd h1 e
      · exact absurd b1 h1.1
    · rcases hb with h1 | h1 | h1
      · exact absurd q h1
      · exact absurd h1 e
      · exact absurd q2 h1.2
  refine s_X9_has (by omega) (fun q => ⟨fun e => absurd e (by decide), fun _ => ⟨fun e => hbad (Or.inr (Or.inl e)), fun e => jn_in ?_⟩⟩) (fun q => ⟨fun _ => hbad (Or.inl q), fun e => absurd rfl e⟩)
  obtain ⟨j, hj, rfl⟩ := q
  have hgood : (b = -1 ∨ isD n b) → vp_in (nI j) 7 ∧ vp_in (nI j) 7 ∧ wp_X11_heirTold (he (nI j).toNatClampNeg) (fun r => wp_X12_heir (nI n) mhe (nI j) b (fun r2 mhe2 => r = r2 ∧ RR n (nI n) un h lk fr (upd he (nI j).toNatClampNeg b) (nI n) mh mlk mt mfr mhe2)) := by
    intro hb
    refine ⟨v_in (by omega) (by omega), v_in (by omega) (by omega), s_X11_heirTold ?_⟩
    rw [c_nI (by omega)]
    have hfin : ∀ t : Int32, ((b = -1 ∧ t = -6) ∨ (isD n b ∧ t = b)) → ((if he j = -1 then -6 else he j) = mhe j ∧ RR n (nI n) un h lk fr (upd he j b) (nI n) mh mlk mt mfr (upd mhe j t)) := by
      intro t ht
      obtain ⟨e1, e2, e3, e4, e5, e6, e7⟩ := hd j hj
      refine ⟨?_, hn, rfl, rfl, fun d hdn => ?_, hu⟩
      · rcases e7 with ⟨g1, g2⟩ | ⟨i, hi, g1, g2⟩
        · rw [if_pos g1, g2]
        · rw [if_neg (by rw [g1]; intro g; exact absurd (i_eq.mp g) (by rw [nI_toInt (by omega), t_m1]; omega)), g1, g2]
      · obtain ⟨f1, f2, f3, f4, f5, f6, f7⟩ := hd d hdn
        refine ⟨f1, f2, f3, f4, f5, f6, ?_⟩
        by_cases g : d = j
        · subst g
          rw [u_s, u_s]
          rcases ht with ⟨g1, g2⟩ | ⟨⟨i, hi, g1⟩, g2⟩
          · exact Or.inl ⟨g1, g2⟩
          · exact Or.inr ⟨i, hi, g1, by rw [g2, g1]⟩
        · rw [u_n g, u_n g]; exact f7
    unfold wp_X12_heir
    refine s_X12_isDog (by omega) (fun q => ⟨fun e => absurd e (by decide), fun _ => ?_⟩) (fun q => absurd ⟨j, hj, rfl⟩ q)
    have hend : vp_in (nI j) 7 ∧ jn (fun (t : Int32) => vp_in (nI j) 7 ∧ ((if he j = -1 then -6 else he j) = mhe (nI j).toNatClampNeg ∧ RR n (nI n) un h lk fr (upd he j b) (nI n) mh mlk mt mfr (upd mhe (nI j).toNatClampNeg t))) (fun (J50 : Int32 → Prop) => ((0 ≤ b → J50 b) ∧ (¬ 0 ≤ b → J50 (-6 : Int32)))) := by
      rw [c_nI (by omega)]
      refine ⟨v_in (by omega) (by omega), jn_in ⟨fun p0 => ⟨v_in (by omega) (by omega), hfin b ?_⟩, fun p0 => ⟨v_in (by omega) (by omega), hfin (-6) ?_⟩⟩⟩
      · rcases hb with g | g
        · rw [g] at p0; exact absurd p0 (by decide)
        · exact Or.inr ⟨g, rfl⟩
      · rcases hb with g | ⟨i, hi, g⟩
        · exact Or.inl ⟨g, rfl⟩
        · rw [g] at p0; exact absurd (nI_pos' (by omega)) p0
    refine jn_in ⟨fun b1 => ⟨fun _ => hend, fun g => absurd g e⟩, fun b1 => s_X12_isDog (by omega) (fun q2 => ⟨fun e => absurd e (by decide), fun _ => ⟨fun _ => hend, fun g => absurd g e⟩⟩) (fun q2 => ?_)⟩
    rcases hb with g | g
    · exact absurd g b1
    · exact absurd g q2
  refine ⟨fun b1 => hgood (Or.inl b1), fun b1 => s_X9_has (by omega) (fun q2 => ⟨fun _ => hgood (Or.inr q2), fun e => absurd e (by decide)⟩) (fun q2 => ⟨fun e => absurd rfl e, fun _ => hbad (Or.inr (Or.inr ⟨b1, q2⟩))⟩)⟩
theorem s_X10_add {N c : Nat} (hN : N < 100) (hc : c ≤ N) {lf rt nm : Nat → Int32} {a b d : Int32} {post : Int32 → Int32 → (Nat → Int32) → (Nat → Int32) → (Nat → Int32) → Prop} (h1 : c < N → post 1 (nI (c + 1)) (upd lf c a) (upd rt c b) (upd nm c d)) (h0 : c = N → post 0 (nI c) lf rt nm) : wp_X10_add N (nI c) lf rt nm a b d post := by
  unfold wp_X10_add
  refine ⟨fun q => ?_, fun q => ?_⟩
  · have h2 : c < N := (nI_ltI (by omega) (by omega)).mp q
    have hv := v_in h2 (by omega)
    rw [nI_1, nI_clamp (by omega)]
    exact ⟨hv, hv, hv, h1 h2⟩
  · have h2 : ¬ c < N := fun e => q (nI_lt e (by omega))
    exact h0 (by omega)
theorem RC_add {N : Nat} {B : Int32} {c : Nat} {lf rt nm arr : Nat → Int32} {a b d : Int32} (hN : N < 100) (h : RC N B c (nI c) lf rt nm (nI c) arr) (hc : c < N) (hd : 0 ≤ d ∧ d ≤ B) : RC N B (c + 1) (nI (c + 1)) (upd lf c a) (upd rt c b) (upd nm c d) (nI (c + 1)) (upd (upd (upd arr (3 * c) a) (3 * c + 1) b) (3 * c + 2) d) := by
  obtain ⟨h1, -, -, h4⟩ := h
  refine ⟨hc, rfl, rfl, fun i hi => ?_⟩
  by_cases e : i = c
  · subst e
    rw [u_s, u_s, u_s, u_s, u_n (by omega), u_n (by omega), u_s, u_n (by omega), u_s]
    exact ⟨rfl, rfl, rfl, hd⟩
  · rw [u_n e, u_n e, u_n e, u_n (by omega), u_n (by omega), u_n (by omega), u_n (by omega), u_n (by omega), u_n (by omega), u_n (by omega), u_n (by omega), u_n (by omega)]
    exact h4 i (by omega)
theorem x3 {c : Nat} (hc : c < 100) : (3 : Int32) * nI c = nI (3 * c) := pk_mul 3 c
theorem x31 {c k : Nat} : nI (3 * c) + nI k = nI (3 * c + k) := nI_add _ _
theorem t_counted {c : Nat} {sz msz gk uk ek a b d : Int32} {lf rt nm arr : Nat → Int32} (h : RC 6 63 c sz lf rt nm msz arr) :
    wp_X11_counted sz lf rt nm gk uk ek a b d (fun r sz2 lf2 rt2 nm2 gk2 uk2 ek2 => wp_X12_counted msz arr a b d (fun r2 msz2 arr2 => r = r2 ∧ ∃ c2, RC 6 63 c2 sz2 lf2 rt2 nm2 msz2 arr2 ∧ ((gk2 = gk ∧ uk2 = uk ∧ ek2 = ek ∧ c2 = c ∧ sz2 = sz ∧ lf2 = lf ∧ rt2 = rt ∧ nm2 = nm ∧ msz2 = msz ∧ arr2 = arr) ∨ (gk2 = 0 ∧ uk2 = 0 ∧ ek2 = 0)))) := by
  have h00 := h
  obtain ⟨hc, rfl, rfl, hj⟩ := h
  have hbad : ¬ (liv a b ∧ (0 ≤ d ∧ d ≤ 63)) → wp_X12_counted (nI c) arr a b d (fun r2 msz2 arr2 => (-2 : Int32) = r2 ∧ ∃ c2, RC 6 63 c2 (nI c) lf rt nm msz2 arr2 ∧ ((gk = gk ∧ uk = uk ∧ ek = ek ∧ c2 = c ∧ nI c = nI c ∧ lf = lf ∧ rt = rt ∧ nm = nm ∧ msz2 = nI c ∧ arr2 = arr) ∨ (gk = 0 ∧ uk = 0 ∧ ek = 0))) := by
    intro hq
    have he : (-2 : Int32) = -2 ∧ ∃ c2, RC 6 63 c2 (nI c) lf rt nm (nI c) arr ∧ ((gk = gk ∧ uk = uk ∧ ek = ek ∧ c2 = c ∧ nI c = nI c ∧ lf = lf ∧ rt = rt ∧ nm = nm ∧ nI c = nI c ∧ arr = arr) ∨ (gk = 0 ∧ uk = 0 ∧ ek = 0)) := ⟨rfl, c, h00, Or.inl ⟨rfl, rfl, rfl, rfl, rfl, rfl, rfl, rfl, rfl, rfl⟩⟩
    unfold wp_X12_counted
    exact s_X12_areLivers (fun q => ⟨fun e => absurd e (by decide), fun _ => s_X12_in (fun q2 => absurd ⟨q, q2⟩ hq) (fun _ => ⟨fun e => absurd rfl e, fun _ => he⟩)⟩) (fun q => ⟨fun _ => he, fun e => absurd rfl e⟩)
  unfold wp_X11_counted
  refine s_X11_areLivers (fun q => ⟨fun e => absurd e (by decide), fun _ => s_X11_isWithin (fun q2 => ⟨fun _ => ?_, fun e => absurd e (by decide)⟩) (fun q2 => ⟨fun e => absurd rfl e, fun _ => hbad (fun z => q2 z.2)⟩)⟩) (fun q => ⟨fun _ => hbad (fun z => q z.1), fun e => absurd rfl e⟩)
  have hmod : ∀ (r sz2 : Int32) (lf2 rt2 nm2 : Nat → Int32) (gk2 uk2 ek2 : Int32), ((c < 6 ∧ r = nI (c + 1) ∧ sz2 = nI (c + 1) ∧ lf2 = upd lf c a ∧ rt2 = upd rt c b ∧ nm2 = upd nm c d ∧ gk2 = 0 ∧ uk2 = 0 ∧ ek2 = 0) ∨ (c = 6 ∧ r = -4 ∧ sz2 = nI c ∧ lf2 = lf ∧ rt2 = rt ∧ nm2 = nm ∧ gk2 = gk ∧ uk2 = uk ∧ ek2 = ek)) → wp_X12_counted (nI c) arr a b d (fun r2 msz2 arr2 => r = r2 ∧ ∃ c2, RC 6 63 c2 sz2 lf2 rt2 nm2 msz2 arr2 ∧ ((gk2 = gk ∧ uk2 = uk ∧ ek2 = ek ∧ c2 = c ∧ sz2 = nI c ∧ lf2 = lf ∧ rt2 = rt ∧ nm2 = nm ∧ msz2 = nI c ∧ arr2 = arr) ∨ (gk2 = 0 ∧ uk2 = 0 ∧ ek2 = 0))) := by
    intro r sz2 lf2 rt2 nm2 gk2 uk2 ek2 hq
    unfold wp_X12_counted
    refine s_X12_areLivers (fun _ => ⟨fun e => absurd e (by decide), fun _ => s_X12_in (fun _ => ⟨fun _ => ⟨fun z => ?_, fun z => ?_⟩, fun e => absurd e (by decide)⟩) (fun z => absurd q2 z)⟩) (fun z => absurd q z)
    · rcases hq with ⟨h1, rfl, rfl, rfl, rfl, rfl, rfl, rfl, rfl⟩ | ⟨h1, -⟩
      · rw [x3 (by omega), show (1 : Int32) = nI 1 from rfl, show (2 : Int32) = nI 2 from rfl, nI_add, nI_add, nI_add, nI_clamp (by omega), nI_clamp (by omega), nI_clamp (by omega)]
        exact ⟨v_in (by omega) (by omega), v_in (by omega) (by omega), v_in (by omega) (by omega), rfl, c + 1, RC_add (by omega) h00 h1 q2, Or.inr ⟨rfl, rfl, rfl⟩⟩
      · exact absurd (by rw [h1]; rfl) z
    · have h6 : c = 6 := (nI_eq (by omega) (by omega)).mp z
      rcases hq with ⟨h1, -⟩ | ⟨-, rfl, rfl, rfl, rfl, rfl, rfl, rfl, rfl⟩
      · omega
      · exact ⟨rfl, c, h00, Or.inl ⟨rfl, rfl, rfl, rfl, rfl, rfl, rfl, rfl, rfl, rfl⟩⟩
  refine s_X10_add (by omega) hc (fun h1 => ⟨fun _ => hmod _ _ _ _ _ _ _ _ (Or.inl ⟨h1, rfl, rfl, rfl, rfl, rfl, rfl, rfl, rfl⟩), fun e => absurd e (by decide)⟩) (fun h1 => ⟨fun e => absurd rfl e, fun _ => hmod _ _ _ _ _ _ _ _ (Or.inr ⟨h1, rfl, rfl, rfl, rfl, rfl, rfl, rfl, rfl⟩)⟩)
theorem t_ask {c : Nat} {sz msz gk uk ek a b d : Int32} {lf rt nm arr : Nat → Int32} (h : RC 5 99 c sz lf rt nm msz arr) :
    wp_X11_ask sz lf rt nm gk uk ek a b d (fun r sz2 lf2 rt2 nm2 gk2 uk2 ek2 => wp_X12_ask msz arr a b d (fun r2 msz2 arr2 => r = r2 ∧ ∃ c2, RC 5 99 c2 sz2 lf2 rt2 nm2 msz2 arr2 ∧ ((gk2 = gk ∧ uk2 = uk ∧ ek2 = ek ∧ c2 = c ∧ sz2 = sz ∧ lf2 = lf ∧ rt2 = rt ∧ nm2 = nm ∧ msz2 = msz ∧ arr2 = arr) ∨ (gk2 = 0 ∧ uk2 = 0 ∧ ek2 = 0)))) := by
  have h00 := h
  obtain ⟨hc, rfl, rfl, hj⟩ := h
  have hbad : ¬ (liv a b ∧ (0 ≤ d ∧ d ≤ 99)) → wp_X12_ask (nI c) arr a b d (fun r2 msz2 arr2 => (-2 : Int32) = r2 ∧ ∃ c2, RC 5 99 c2 (nI c) lf rt nm msz2 arr2 ∧ ((gk = gk ∧ uk = uk ∧ ek = ek ∧ c2 = c ∧ nI c = nI c ∧ lf = lf ∧ rt = rt ∧ nm = nm ∧ msz2 = nI c ∧ arr2 = arr) ∨ (gk = 0 ∧ uk = 0 ∧ ek = 0))) := by
    intro hq
    have he : (-2 : Int32) = -2 ∧ ∃ c2, RC 5 99 c2 (nI c) lf rt nm (nI c) arr ∧ ((gk = gk ∧ uk = uk ∧ ek = ek ∧ c2 = c ∧ nI c = nI c ∧ lf = lf ∧ rt = rt ∧ nm = nm ∧ nI c = nI c ∧ arr = arr) ∨ (gk = 0 ∧ uk = 0 ∧ ek = 0)) := ⟨rfl, c, h00, Or.inl ⟨rfl, rfl, rfl, rfl, rfl, rfl, rfl, rfl, rfl, rfl⟩⟩
    unfold wp_X12_ask
    exact s_X12_areLivers (fun q => ⟨fun e => absurd e (by decide), fun _ => s_X12_in (fun q2 => absurd ⟨q, q2⟩ hq) (fun _ => ⟨fun e => absurd rfl e, fun _ => he⟩)⟩) (fun q => ⟨fun _ => he, fun e => absurd rfl e⟩)
  unfold wp_X11_ask
  refine s_X11_areLivers (fun q => ⟨fun e => absurd e (by decide), fun _ => s_X11_isWithin (fun q2 => ⟨fun _ => ?_, fun e => absurd e (by decide)⟩) (fun q2 => ⟨fun e => absurd rfl e, fun _ => hbad (fun z => q2 z.2)⟩)⟩) (fun q => ⟨fun _ => hbad (fun z => q z.1), fun e => absurd rfl e⟩)
  have hmod : ∀ (r sz2 : Int32) (lf2 rt2 nm2 : Nat → Int32) (gk2 uk2 ek2 : Int32), ((c < 5 ∧ r = nI (c + 1) ∧ sz2 = nI (c + 1) ∧ lf2 = upd lf c a ∧ rt2 = upd rt c b ∧ nm2 = upd nm c d ∧ gk2 = 0 ∧ uk2 = 0 ∧ ek2 = 0) ∨ (c = 5 ∧ r = -4 ∧ sz2 = nI c ∧ lf2 = lf ∧ rt2 = rt ∧ nm2 = nm ∧ gk2 = gk ∧ uk2 = uk ∧ ek2 = ek)) → wp_X12_ask (nI c) arr a b d (fun r2 msz2 arr2 => r = r2 ∧ ∃ c2, RC 5 99 c2 sz2 lf2 rt2 nm2 msz2 arr2 ∧ ((gk2 = gk ∧ uk2 = uk ∧ ek2 = ek ∧ c2 = c ∧ sz2 = nI c ∧ lf2 = lf ∧ rt2 = rt ∧ nm2 = nm ∧ msz2 = nI c ∧ arr2 = arr) ∨ (gk2 = 0 ∧ uk2 = 0 ∧ ek2 = 0))) := by
    intro r sz2 lf2 rt2 nm2 gk2 uk2 ek2 hq
    unfold wp_X12_ask
    refine s_X12_areLivers (fun _ => ⟨fun e => absurd e (by decide), fun _ => s_X12_in (fun _ => ⟨fun _ => ⟨fun z => ?_, fun z => ?_⟩, fun e => absurd e (by decide)⟩) (fun z => absurd q2 z)⟩) (fun z => absurd q z)
    · rcases hq with ⟨h1, rfl, rfl, rfl, rfl, rfl, rfl, rfl, rfl⟩ | ⟨h1, -⟩
      · rw [x3 (by omega), show (1 : Int32) = nI 1 from rfl, show (2 : Int32) = nI 2 from rfl, nI_add, nI_add, nI_add, nI_clamp (by omega), nI_clamp (by omega), nI_clamp (by omega)]
        exact ⟨v_in (by omega) (by omega), v_in (by omega) (by omega), v_in (by omega) (by omega), rfl, c + 1, RC_add (by omega) h00 h1 q2, Or.inr ⟨rfl, rfl, rfl⟩⟩
      · exact absurd (by rw [h1]; rfl) z
    · have h6 : c = 5 := (nI_eq (by omega) (by omega)).mp z
      rcases hq with ⟨h1, -⟩ | ⟨-, rfl, rfl, rfl, rfl, rfl, rfl, rfl, rfl⟩
      · omega
      · exact ⟨rfl, c, h00, Or.inl ⟨rfl, rfl, rfl, rfl, rfl, rfl, rfl, rfl, rfl, rfl⟩⟩
  refine s_X10_add (by omega) hc (fun h1 => ⟨fun _ => hmod _ _ _ _ _ _ _ _ (Or.inl ⟨h1, rfl, rfl, rfl, rfl, rfl, rfl, rfl, rfl⟩), fun e => absurd e (by decide)⟩) (fun h1 => ⟨fun e => absurd rfl e, fun _ => hmod _ _ _ _ _ _ _ _ (Or.inr ⟨h1, rfl, rfl, rfl, rfl, rfl, rfl, rfl, rfl⟩)⟩)
theorem RC_none {N : Nat} {B : Int32} {lf rt nm arr : Nat → Int32} : RC N B 0 0 lf rt nm 0 arr := ⟨Nat.zero_le _, nI_0.symm, nI_0.symm, fun i h => absurd h (Nat.not_lt_zero _)⟩
theorem t_forget {c : Nat} {sz msz gk uk ek : Int32} {lf rt nm arr : Nat → Int32} (h : RC 6 63 c sz lf rt nm msz arr) :
    wp_X11_forget sz gk uk ek (fun r sz2 gk2 uk2 ek2 => wp_X12_forget msz (fun r2 msz2 => r = r2 ∧ RC 6 63 0 sz2 lf rt nm msz2 arr ∧ gk2 = 0 ∧ uk2 = 0 ∧ ek2 = 0)) := by
  obtain ⟨hc, rfl, rfl, hj⟩ := h
  exact ⟨rfl, RC_none, rfl, rfl, rfl⟩
theorem t_drop {c : Nat} {sz msz gk uk ek : Int32} {lf rt nm arr : Nat → Int32} (h : RC 5 99 c sz lf rt nm msz arr) :
    wp_X11_drop sz gk uk ek (fun r sz2 gk2 uk2 ek2 => wp_X12_drop msz (fun r2 msz2 => r = r2 ∧ RC 5 99 0 sz2 lf rt nm msz2 arr ∧ gk2 = 0 ∧ uk2 = 0 ∧ ek2 = 0)) := by
  obtain ⟨hc, rfl, rfl, hj⟩ := h
  exact ⟨rfl, RC_none, rfl, rfl, rfl⟩
theorem t_hunger {hu mhu gk uk ek a : Int32} (h : RH hu mhu) :
    wp_X11_hunger hu gk uk ek a (fun r hu2 gk2 uk2 ek2 => wp_X12_hunger mhu a (fun r2 mhu2 => r = r2 ∧ RH hu2 mhu2 ∧ ((gk2 = gk ∧ uk2 = uk ∧ ek2 = ek ∧ hu2 = hu ∧ mhu2 = mhu) ∨ (gk2 = 0 ∧ uk2 = 0 ∧ ek2 = 0)))) := by
  have h0 := h
  obtain ⟨rfl, hk⟩ := h
  by_cases ha : (1 : Int32) ≤ a ∧ a ≤ 9
  · have hra : RH a a := by
      refine ⟨rfl, ?_⟩
      obtain ⟨j, hj, e⟩ := nI_of2 (x := a) (M := 9) (n := 9) t_9 (fun q => absurd (i_le.mp ha.1) (by rw [i_lt] at q; rw [t_1]; rw [t_0] at q; omega)) ha.2
      refine ⟨j, ?_, hj, e⟩
      have h1 := i_le.mp ha.1
      rw [e, nI_toInt (by omega), t_1] at h1
      omega
    unfold wp_X11_hunger
    refine ⟨fun q => absurd ha.1 (n_le.mpr q), fun _ => ⟨fun _ => ?_, fun q => absurd ha.2 q⟩⟩
    unfold wp_X11_changed
    unfold wp_X12_hunger
    exact s_X12_in (fun _ => ⟨fun _ => ⟨rfl, hra, Or.inr ⟨rfl, rfl, rfl⟩⟩, fun e => absurd e (by decide)⟩) (fun q => absurd ha q)
  · have hm : wp_X12_hunger hu a (fun r2 mhu2 => (-2 : Int32) = r2 ∧ RH hu mhu2 ∧ ((gk = gk ∧ uk = uk ∧ ek = ek ∧ hu = hu ∧ mhu2 = hu) ∨ (gk = 0 ∧ uk = 0 ∧ ek = 0))) := by
      unfold wp_X12_hunger
      exact s_X12_in (fun q => absurd q ha) (fun _ => ⟨fun e => absurd rfl e, fun _ => ⟨rfl, h0, Or.inl ⟨rfl, rfl, rfl, rfl, rfl⟩⟩⟩)
    unfold wp_X11_hunger
    exact ⟨fun _ => hm, fun q => ⟨fun q2 => absurd ⟨n_lt.mp q, q2⟩ ha, fun _ => hm⟩⟩
