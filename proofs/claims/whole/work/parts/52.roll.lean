theorem stp_inv3 {s s3 : PS} {a : Int32} (hP : PI s) (h1 : 33 ≤ a) (h2 : a ≤ 126) (he : 3 ≤ s.e) (h : stp s a = some s3) : (a = 59 ∧ s3 = sEnd s) ∨ (¬ a = 59 ∧ a = 33 ∧ s3 = (4, s.n, s.un, s.less, -1, s.h, s.lk, s.fr)) ∨ (¬ a = 59 ∧ ¬ a = 33 ∧ ∃ e, 3 ≤ e ∧ s3 = sFe s a e) := by
  obtain ⟨p1, p2, p3, p4, p5, p6, p7, p8, p9⟩ := hP
  have hbig : 97 ≤ a → ¬ a = 59 ∧ ¬ a = 33 := fun g => ⟨fun w => absurd g (by rw [w]; decide), fun w => absurd g (by rw [w]; decide)⟩
  unfold stp at h
  rw [if_neg (by omega), if_neg (by omega), if_neg (by omega)] at h
  by_cases e3 : s.e = 3
  · rw [if_pos e3] at h
    unfold st3 at h
    by_cases g : a = 33
    · rw [if_pos g] at h
      exact Or.inr (Or.inl ⟨by rw [g]; decide, g, (Option.some.inj h).symm⟩)
    · rw [if_neg g] at h
      by_cases g2 : a = 59
      · rw [if_pos g2] at h
        exact Or.inl ⟨g2, (Option.some.inj h).symm⟩
      · rw [if_neg g2] at h; simp at h
  rw [if_neg e3] at h
  by_cases e4 : s.e = 4
  · rw [if_pos e4] at h
    unfold st4 at h
    by_cases g : fOk s a
    · rw [if_pos g] at h
      have := hbig ((fO4 h1 h2 (p8 e4)).mp g).1.1
      exact Or.inr (Or.inr ⟨this.1, this.2, 5, by omega, (Option.some.inj h).symm⟩)
    · rw [if_neg g] at h; simp at h
  rw [if_neg e4] at h
  by_cases e5 : s.e = 5
  · rw [if_pos e5] at h
    unfold st5 at h
    by_cases g : fOk s a
    · rw [if_pos g] at h
      have := hbig ((fO5 h1 h2 (p9 e5) rfl).mp g).1.1
      exact Or.inr (Or.inr ⟨this.1, this.2, 6, by omega, (Option.some.inj h).symm⟩)
    · rw [if_neg g] at h
      by_cases g2 : a = 59
      · rw [if_pos g2] at h
        exact Or.inl ⟨g2, (Option.some.inj h).symm⟩
      · rw [if_neg g2] at h; simp at h
  rw [if_neg e5] at h
  unfold st6 at h
  by_cases g2 : a = 59
  · rw [if_pos g2] at h
    exact Or.inl ⟨g2, (Option.some.inj h).symm⟩
  · rw [if_neg g2] at h; simp at h
theorem rn_more {s0 s sf : PS} {sg : Nat → Int32} {q k : Nat} (hq : q ≤ k) (hf : rn s0 sg k = some sf) (he : sf.e = 0) (hs : rn s0 sg q = some s) (hne : s.e ≠ 0) : q < k ∧ ∃ s2, stp s (sg q) = some s2 ∧ rn s0 sg (q + 1) = some s2 := by
  have hlt : q < k := by
    rcases Nat.lt_or_ge q k with y | y
    · exact y
    · have : q = k := by omega
      subst this
      rw [hs] at hf
      obtain rfl := Option.some.inj hf
      exact absurd he hne
  exact ⟨hlt, rn_step hlt hf hs⟩
theorem s_fears {k nD : Nat} (hk : k ≤ 60) {s0 sf : PS} {sg mp : Nat → Int32} (hP0 : PI s0) (hsg : ∀ j, j < k → sg j = mp j ∧ 33 ≤ sg j ∧ sg j ≤ 126) (hf : rn s0 sg k = some sf) (hfe : sf.e = 0) (hnD : nD < 7) {J : Int32 → (Nat → Int32) → Prop} {q : Nat} {s : PS} {f : Nat → Int32} (hs : rn s0 sg q = some s) (hq : q ≤ k) (he : 3 ≤ s.e) (hn : s.n = nD) (hfr : ∀ d, d < 7 → f d = s.fr d)
    (hJ : ∀ (q2 : Nat) (s2 : PS) (f2 : Nat → Int32), q2 < k → q ≤ q2 → rn s0 sg (q2 + 1) = some s2 → s2.e = 0 → s2.n = nD + 1 → s2.un = s.un → s2.h = s.h → s2.lk = s.lk → (∀ d, d < 7 → f2 d = s2.fr d) → J (nI q2) f2) :
    lo (fun _ _ => False) (fun (G172 : Int32 → (Nat → Int32) → Prop) (x1_18 : Int32) (zfears_19 : Nat → Int32) => (vp_in x1_18 60 ∧ (((mp (x1_18).toNatClampNeg) = (59 : Int32) → J x1_18 zfears_19) ∧ (¬ (mp (x1_18).toNatClampNeg) = (59 : Int32) → (vp_in (nI nD) 7 ∧ (vp_in x1_18 60 ∧ jn (fun (t_20 : Int32) => (vp_in (nI nD) 7 ∧ G172 (x1_18 + (1 : Int32)) (upd zfears_19 nD ((zfears_19 nD) ||| t_20)))) (fun (J219 : Int32 → Prop) => ((¬ (mp (x1_18).toNatClampNeg) = (33 : Int32) → (vp_in x1_18 60 ∧ J219 ((1 : Int32) <<< (((mp (x1_18).toNatClampNeg) - (97 : Int32)) &&& 31)))) ∧ ((mp (x1_18).toNatClampNeg) = (33 : Int32) → J219 (0 : Int32)))))))))) (fun G172 => G172 (nI q) f) := by
  refine lor2 (I := fun m x f => ∃ (q2 : Nat) (s2 : PS), q ≤ q2 ∧ q2 ≤ k ∧ m = k - q2 ∧ rn s0 sg q2 = some s2 ∧ 3 ≤ s2.e ∧ s2.n = nD ∧ s2.un = s.un ∧ s2.h = s.h ∧ s2.lk = s.lk ∧ x = nI q2 ∧ ∀ d, d < 7 → f d = s2.fr d) ?_ (k - q) _ _ ⟨q, s, Nat.le_refl _, hq, rfl, hs, he, hn, rfl, rfl, rfl, rfl, hfr⟩
  rintro m x f again ⟨q2, s2, h1, h2, rfl, h3, h4, h5, h6, h7, h8, rfl, h9⟩ hag
  obtain ⟨hlt, s3, e1, e2⟩ := rn_more h2 hf hfe h3 (by omega)
  obtain ⟨ea, a1, a2⟩ := hsg q2 hlt
  rw [c_nI (by omega), ← ea]
  have v : vp_in (nI q2) 60 := v_in (by omega) (by omega)
  have vn : vp_in (nI nD) 7 := v_in hnD (by omega)
  refine ⟨v, ?_⟩
  rcases stp_inv3 (rn_PI hP0 h3) a1 a2 h4 e1 with ⟨g, rfl⟩ | ⟨g, g2, rfl⟩ | ⟨g, g2, e, he3, rfl⟩
  · exact ⟨fun _ => hJ q2 _ f hlt h1 e2 rfl (by show s2.n + 1 = nD + 1; rw [h5]) h6 h7 h8 h9, fun y => absurd g y⟩
  · refine ⟨fun y => absurd y g, fun _ => ⟨vn, v, jn_in ⟨fun y => absurd g2 y, fun _ => ⟨vn, ?_⟩⟩⟩⟩
    rw [nI_1]
    refine hag (k - (q2 + 1)) _ _ (by omega) ⟨q2 + 1, _, by omega, hlt, rfl, e2, by show 3 ≤ 4; omega, h5, h6, h7, h8, rfl, fun d hd => ?_⟩
    show upd f nD (f nD ||| 0) d = s2.fr d
    by_cases w : d = nD
    · subst w; rw [u_s, Int32.or_zero]; exact h9 _ hd
    · rw [u_n w]; exact h9 d hd
  · refine ⟨fun y => absurd y g, fun _ => ⟨vn, v, jn_in ⟨fun _ => ⟨v, vn, ?_⟩, fun y => absurd y g2⟩⟩⟩
    rw [nI_1]
    refine hag (k - (q2 + 1)) _ _ (by omega) ⟨q2 + 1, _, by omega, hlt, rfl, e2, he3, h5, h6, h7, h8, rfl, fun d hd => ?_⟩
    show upd f nD _ d = upd s2.fr s2.n _ d
    rw [h5]
    by_cases w : d = nD
    · subst w; rw [u_s, u_s, h9 _ hd]
    · rw [u_n w, u_n w]; exact h9 d hd
theorem s_X12_roll {k : Nat} (hk : k ≤ 60) {s0 : PS} {sg mp : Nat → Int32} (z1 : s0.e = 0) (z2 : s0.n = 0) (z3 : s0.un = 0) (hP0 : PI s0) (hfr0 : ∀ d, d < 7 → s0.fr d = 0) (hsg : ∀ j, j < k → sg j = mp j ∧ 33 ≤ sg j ∧ sg j ≤ 126) {x1 x2 : Int32} {x3 x4 x5 x6 x7 : Nat → Int32} {post : Int32 → Int32 → Int32 → Int32 → (Nat → Int32) → (Nat → Int32) → (Nat → Int32) → (Nat → Int32) → (Nat → Int32) → Prop}
    (h1 : ∀ sf, rn s0 sg k = some sf → sf.e = 0 → ∀ h lk t fr he : Nat → Int32, (∀ d, d < sf.n → h d = sf.h d ∧ lk d = sf.lk d ∧ t d = (if bt sf.un d then 0 else 1) ∧ fr d = sf.fr d ∧ he d = -6) → post (nI sf.n) (nI sf.n) 0 0 h lk t fr he) (h0 : (∃ j, j ≤ 60 ∧ FA s0 sg k (nI j)) → post (-5) x1 x2 (nI k) x3 x4 x5 x6 x7) :
    wp_X12_roll x1 x2 (nI k) x3 x4 x5 x6 x7 mp post := by
  unfold wp_X12_roll
  refine s_X12_faultOf hk z1 z2 z3 hP0 hsg (fun r hF => ?_)
  have hFc : (∃ j, j ≤ 60 ∧ r = nI j) ∨ (∃ sf, rn s0 sg k = some sf ∧ sf.e = 0 ∧ r = -6) := by
    rcases hF with ⟨j, s, q1, -, -, q2⟩ | ⟨s, q1, q2⟩
    · exact Or.inl ⟨j, by omega, q2⟩
    · by_cases e : s.e = 0
      · rw [if_pos e] at q2; exact Or.inr ⟨s, q1, e, q2⟩
      · rw [if_neg e] at q2; exact Or.inl ⟨k, hk, q2⟩
  rcases hFc with ⟨j, hj, rfl⟩ | ⟨sf, hf, hfe, rfl⟩
  · exact ⟨fun y => absurd y (nI_pos (by omega)), fun _ => h0 ⟨j, hj, hF⟩⟩
  · refine ⟨fun _ => jn_in ?_, fun y => absurd (by decide) y⟩
    refine lofE3_0 7 (by omega) rfl (fun j f he => ∀ d, d < j → f d = 0 ∧ he d = -6) ?_ ?_ _ _ (fun d hd => absurd hd (Nat.not_lt_zero _))
    · intro f0 he hz
      refine jn_in ?_
      refine lor6 (I := fun m x dg h lk t f => ∃ (p : Nat) (s : PS), p ≤ k ∧ m = k - p ∧ rn s0 sg p = some s ∧ s.e = 0 ∧ x = nI p ∧ dg = nI s.n ∧ (∀ d, d < s.n → h d = s.h d ∧ lk d = s.lk d ∧ t d = (if bt s.un d then 0 else 1)) ∧ ∀ d, d < 7 → f d = s.fr d) ?_ k _ _ _ _ _ _ ⟨0, s0, by omega, rfl, rfl, z1, rfl, by rw [z2]; rfl, fun d hd => by omega, fun d hd => by rw [(hz d hd).1, hfr0 d hd]⟩
      rintro m x dg h lk t f again ⟨p, s, hp, rfl, hs, he0, rfl, rfl, hd, hfr⟩ hag
      refine ⟨fun y => ?_, fun y => ?_⟩
      · have := (nI_leI (by omega) (by omega)).mp y
        have hpk : p = k := by omega
        subst hpk
        rw [hs] at hf
        obtain rfl := Option.some.inj hf
        have hPs := rn_PI hP0 hs
        refine h1 s hs he0 _ _ _ _ _ (fun d hdn => ?_)
        have h7 := hPs.2.1
        exact ⟨(hd d hdn).1, (hd d hdn).2.1, (hd d hdn).2.2, hfr d (by omega), (hz d (by omega)).2⟩
      · have hpk : p < k := by
          rcases Nat.lt_or_ge p k with w | w
          · exact w
          · exact absurd ((nI_leI (by omega) (by omega)).mpr w) y
        have hPs := rn_PI hP0 hs
        obtain ⟨s1, e1, r1⟩ := rn_step hpk hf hs
        have e1 : st0 s (sg p) = some s1 := by
          unfold stp at e1; rw [if_pos he0] at e1; exact e1
        unfold st0 at e1
        by_cases g : s.n < 7 ∧ 49 ≤ sg p ∧ sg p ≤ 57
        rotate_left
        · rw [if_neg g] at e1; simp at e1
        rw [if_pos g] at e1
        obtain rfl := Option.some.inj e1
        obtain ⟨l1, s2, e2, r2⟩ := rn_more (by omega) hf hfe r1 (by show ¬ (1 = 0); omega)
        have hbn : bt s.un s.n = false := by
          cases w : bt s.un s.n
          · rfl
          · rcases hPs.2.2.2.1 s.n (by omega) w with w2 | w2 <;> omega
        have hlk0 : s.lk s.n = 0 := hPs.2.2.2.2.2.2.1 s.n (by omega) (Or.inr ⟨rfl, by omega⟩)
        have vp : vp_in (nI p) 60 := v_in (by omega) (by omega)
        have vp1 : vp_in (nI (p + 1)) 60 := v_in (by omega) (by omega)
        have vn : vp_in (nI s.n) 7 := v_in (by omega) (by omega)
        obtain ⟨ea, a1, a2⟩ := hsg p hpk
        obtain ⟨eb, b1, b2⟩ := hsg (p + 1) l1
        rw [nI_1, c_nI (show p < 64 by omega), c_nI (show p + 1 < 64 by omega), c_nI (show s.n < 64 by omega), ← ea, ← eb, show nI p + (2 : Int32) = nI (p + 2) from nI_add _ 2, show nI (p + 1) + (2 : Int32) = nI (p + 3) from nI_add _ 2]
        refine ⟨vp, vn, vp1, jn_in ?_⟩
        have e2 : st1 _ (sg (p + 1)) = some s2 := e2
        unfold st1 at e2
        have hold : ∀ (un2 : Int32) (h2 lk2 : Nat → Int32) (x y z : Int32), (∀ d, d < s.n → bt un2 d = bt s.un d) → (∀ d, d < s.n → h2 d = s.h d) → (∀ d, d < s.n → lk2 d = s.lk d) → h2 s.n = x → lk2 s.n = y → (z = if bt un2 s.n then 0 else 1) → ∀ (lk3 : Nat → Int32), (∀ d, d < s.n → lk3 d = lk d) → lk3 s.n = y → ∀ d, d < s.n + 1 → upd h s.n x d = h2 d ∧ lk3 d = lk2 d ∧ upd t s.n z d = (if bt un2 d then 0 else 1) := by
          intro un2 h2 lk2 x y z g1 g2 g3 g4 g5 g6 lk3 g7 g8 d hdn
          by_cases w : d = s.n
          · subst w; rw [u_s, u_s]; exact ⟨g4.symm, by rw [g8, g5], g6⟩
          · have hlt : d < s.n := by omega
            rw [u_n w, u_n w, g7 d hlt, g2 d hlt, g3 d hlt, g1 d hlt]
            exact hd d hlt
        by_cases w : sg (p + 1) = 63
        · refine ⟨fun _ => ?_, fun w2 => absurd w w2⟩
          dsimp only
          rw [nb0, u_s]
          refine ⟨vn, vn, vn, fun _ => jn_in ?_, fun w2 => absurd rfl w2⟩
          by_cases w2 : sg (p + 1) = 63 ∧ cnt (bt s.un) 7 < 3
          rotate_left
          · have n43 : ¬ (sg (p + 1) = 43 ∨ sg (p + 1) = 45) := by rw [w]; decide
            have e2 : (if sg (p + 1) = 63 ∧ cnt (bt s.un) 7 < 3 then _ else if sg (p + 1) = 43 ∨ sg (p + 1) = 45 then _ else none) = some s2 := e2
            rw [if_neg w2, if_neg n43] at e2; simp at e2
          have e2 : (if sg (p + 1) = 63 ∧ cnt (bt s.un) 7 < 3 then _ else if sg (p + 1) = 43 ∨ sg (p + 1) = 45 then _ else none) = some s2 := e2
          rw [if_pos w2] at e2
          obtain rfl := Option.some.inj e2
          refine s_fears hk hP0 hsg hf hfe g.1 (q := p + 2) r2 (by omega) (by show 3 ≤ 3; omega) rfl hfr (fun q2 s3 f2 i1 i2 i3 i4 i5 i6 i7 i8 i9 => ?_)
          rw [nI_1, nI_1]
          refine hag (k - (q2 + 1)) _ _ _ _ _ _ (by omega) ⟨q2 + 1, s3, by omega, rfl, i3, i4, rfl, by rw [i5], ?_, i9⟩
          rw [i5, i6, i7, i8]
          refine hold _ _ _ _ 0 _ (fun d hdn => ?_) (fun d hdn => ?_) (fun d hdn => rfl) ?_ hlk0 ?_ _ (fun d hdn => ?_) ?_
          · show bt (s.un ||| ((1 : Int32) <<< (nI s.n &&& 31))) d = bt s.un d
            rw [b_set (by omega) (by omega), decide_eq_false (by omega), Bool.or_false]
          · show upd s.h s.n _ d = s.h d
            rw [u_n (by omega)]
          · show upd s.h s.n _ s.n = _
            rw [u_s]
          · show (0 : Int32) = if bt (s.un ||| ((1 : Int32) <<< (nI s.n &&& 31))) s.n then 0 else 1
            rw [b_set (by omega) (by omega), decide_eq_true rfl, Bool.or_true]; rfl
          · rw [u_n (by omega)]
          · rw [u_s]
        · refine ⟨fun w2 => absurd w2 w, fun _ => ?_⟩
          dsimp only
          rw [nb1, u_s]
          have e2 : (if sg (p + 1) = 63 ∧ cnt (bt s.un) 7 < 3 then _ else if sg (p + 1) = 43 ∨ sg (p + 1) = 45 then _ else none) = some s2 := e2
          rw [if_neg (fun w2 => w w2.1)] at e2
          by_cases w2 : sg (p + 1) = 43 ∨ sg (p + 1) = 45
          rotate_left
          · rw [if_neg w2] at e2; simp at e2
          rw [if_pos w2] at e2
          obtain rfl := Option.some.inj e2
          obtain ⟨l2, s3, e3, r3⟩ := rn_more (by omega) hf hfe r2 (by show ¬ (2 = 0); omega)
          have e3 : st2 _ (sg (p + 2)) = some s3 := e3
          unfold st2 at e3
          by_cases w3 : 48 ≤ sg (p + 2) ∧ sg (p + 2) ≤ 57
          rotate_left
          · rw [if_neg w3] at e3; simp at e3
          rw [if_pos w3] at e3
          obtain rfl := Option.some.inj e3
          obtain ⟨ec, c1, c2⟩ := hsg (p + 2) l2
          have vp2 : vp_in (nI (p + 2)) 60 := v_in (by omega) (by omega)
          rw [c_nI (show p + 2 < 64 by omega), ← ec]
          refine ⟨vn, vn, vn, fun y => absurd y (by decide), fun _ => ⟨vp2, vp1, jn_in ?_⟩⟩
          have hrest : ∀ v : Int32, (v = if (if sg (p + 1) = 45 then (1 : Int32) else 0) = 0 then sg (p + 2) - 48 else 48 - sg (p + 2)) → lo (fun _ _ => False) (fun (G172 : Int32 → (Nat → Int32) → Prop) (x1_18 : Int32) (zfears_19 : Nat → Int32) => (vp_in x1_18 60 ∧ (((mp (x1_18).toNatClampNeg) = (59 : Int32) → again (x1_18 + 1) (nI s.n + 1) (upd h s.n (sg p - 48)) (upd (upd lk s.n 0) s.n v) (upd t s.n 1) zfears_19) ∧ (¬ (mp (x1_18).toNatClampNeg) = (59 : Int32) → (vp_in (nI s.n) 7 ∧ (vp_in x1_18 60 ∧ jn (fun (t_20 : Int32) => (vp_in (nI s.n) 7 ∧ G172 (x1_18 + (1 : Int32)) (upd zfears_19 s.n ((zfears_19 s.n) ||| t_20)))) (fun (J219 : Int32 → Prop) => ((¬ (mp (x1_18).toNatClampNeg) = (33 : Int32) → (vp_in x1_18 60 ∧ J219 ((1 : Int32) <<< (((mp (x1_18).toNatClampNeg) - (97 : Int32)) &&& 31)))) ∧ ((mp (x1_18).toNatClampNeg) = (33 : Int32) → J219 (0 : Int32)))))))))) (fun G172 => G172 (nI (p + 3)) f) := by
            intro v hv
            refine s_fears hk hP0 hsg hf hfe g.1 (J := fun x f2 => again (x + 1) (nI s.n + 1) (upd h s.n (sg p - 48)) (upd (upd lk s.n 0) s.n v) (upd t s.n 1) f2) (q := p + 3) r3 (by omega) (by show 3 ≤ 3; omega) rfl hfr (fun q2 s4 f2 i1 i2 i3 i4 i5 i6 i7 i8 i9 => ?_)
            rw [nI_1, nI_1]
            refine hag (k - (q2 + 1)) _ _ _ _ _ _ (by omega) ⟨q2 + 1, s4, by omega, rfl, i3, i4, rfl, by rw [i5], ?_, i9⟩
            rw [i5, i6, i7, i8]
            refine hold _ _ _ _ v _ (fun d hdn => rfl) (fun d hdn => ?_) (fun d hdn => ?_) ?_ ?_ ?_ _ (fun d hdn => ?_) ?_
            · show upd s.h s.n _ d = s.h d
              rw [u_n (by omega)]
            · show upd s.lk s.n _ d = s.lk d
              rw [u_n (by omega)]
            · show upd s.h s.n _ s.n = _
              rw [u_s]
            · show upd s.lk s.n _ s.n = v
              rw [u_s, hv]
            · show (1 : Int32) = if bt s.un s.n then 0 else 1
              rw [hbn]; rfl
            · rw [u_n (by omega), u_n (by omega)]
            · rw [u_s]
          refine ⟨fun y => ⟨vn, jn_in (hrest _ ?_)⟩, fun y => ⟨vn, jn_in (hrest _ ?_)⟩⟩
          · have y2 : sg (p + 1) = 45 := w2.resolve_left y
            rw [if_pos y2, if_neg (by decide)]
            grind
          · have y2 : ¬ sg (p + 1) = 45 := by rw [y]; decide
            rw [if_neg y2, if_pos rfl]
    · intro j f he again hj hz hag
      have v : vp_in (nI j) 7 := v_in hj (by omega)
      rw [c_nI (by omega)]
      refine ⟨v, v, hag _ _ (fun d hd => ?_)⟩
      by_cases e : d = j
      · subst e; rw [u_s, u_s]; exact ⟨rfl, rfl⟩
      · rw [u_n e, u_n e]; exact hz d (by omega)
theorem t_roll {k : Nat} {sz msz dogs un cs gk uk ek mdogs mcs : Int32} {sg mp h lk fr he mh mlk mt mfr mhe : Nat → Int32} (HP : RP k sz sg msz mp) {x1 x2 x3 x4 x5 : Int32} {x6 x7 x8 x9 : Nat → Int32} :
    wp_X11_roll sz x1 x2 x3 sg x4 x5 x6 x7 x8 x9 dogs un h lk fr he cs gk uk ek (fun r sz2 _ _ _ _ _ _ _ _ _ dogs2 un2 h2 lk2 fr2 he2 cs2 gk2 uk2 ek2 => wp_X12_roll mdogs mcs msz mh mlk mt mfr mhe mp (fun r2 mdogs2 mcs2 msz2 mh2 mlk2 mt2 mfr2 mhe2 => r = r2 ∧ ((sz2 = sz ∧ dogs2 = dogs ∧ un2 = un ∧ h2 = h ∧ lk2 = lk ∧ fr2 = fr ∧ he2 = he ∧ cs2 = cs ∧ gk2 = gk ∧ uk2 = uk ∧ ek2 = ek ∧ mdogs2 = mdogs ∧ mcs2 = mcs ∧ msz2 = msz ∧ mh2 = mh ∧ mlk2 = mlk ∧ mt2 = mt ∧ mfr2 = mfr ∧ mhe2 = mhe) ∨ (sz2 = 0 ∧ msz2 = 0 ∧ cs2 = 0 ∧ mcs2 = 0 ∧ gk2 = 0 ∧ uk2 = 0 ∧ ek2 = 0 ∧ ∃ n2, RR n2 dogs2 un2 h2 lk2 fr2 he2 mdogs2 mh2 mlk2 mt2 mfr2 mhe2)))) := by
  obtain ⟨hk, rfl, rfl, hj⟩ := HP
  unfold wp_X11_roll
  refine s_X7_firstFault hk (fun s0 heD z1 z2 z3 hP hfr0 hhe r hF y1 y2 y3 y4 y5 y6 y7 y8 hD => ?_)
  refine ⟨fun e => ?_, fun e => ?_⟩
  · unfold wp_X9_copyFrom wp_X11_changed
    refine s_X12_roll hk z1 z2 z3 hP hfr0 hj (fun sf hf hfe h2 lk2 t2 fr2 he2 hh => ?_) (fun ⟨j, hj2, hF2⟩ => ?_)
    · obtain ⟨rfl, rfl, rfl, rfl, rfl⟩ := hD sf hf hfe
      obtain ⟨p1, p2, p3, p4, p5, p6, p7, p8, p9⟩ := rn_PI hP hf
      refine ⟨rfl, Or.inr ⟨rfl, rfl, rfl, rfl, rfl, rfl, rfl, sf.n, p2, rfl, rfl, fun d hd => ?_, fun i hi hi2 => ?_⟩⟩
      · obtain ⟨g1, g2, g3, g4, g5⟩ := hh d hd
        rw [cpy7 _ _ (by omega), cpy7 _ _ (by omega), cpy7 _ _ (by omega), cpy7 _ _ (by omega)]
        exact ⟨g1.symm, g2.symm, g4.symm, p5 d (Or.inl hd), g3, fun hb => p6 d (by omega) hb, Or.inl ⟨hhe d (by omega), g5⟩⟩
      · cases w : bt sf.un i
        · rfl
        · rcases p4 i hi2 w with w2 | w2 <;> omega
    · rw [e] at hF
      have := FA_fun hF hF2
      exact absurd this.symm (nI_ne6 (by omega))
  · refine s_X12_roll hk z1 z2 z3 hP hfr0 hj (fun sf hf hfe h2 lk2 t2 fr2 he2 hh => ?_) (fun _ => ⟨rfl, Or.inl ⟨rfl, rfl, rfl, rfl, rfl, rfl, rfl, rfl, rfl, rfl, rfl, rfl, rfl, rfl, rfl, rfl, rfl, rfl, rfl⟩⟩)
    exact absurd (FA_fun hF (Or.inr ⟨sf, hf, by rw [if_pos hfe]⟩)) e
