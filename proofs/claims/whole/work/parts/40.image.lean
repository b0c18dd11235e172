theorem RR_cong {n : Nat} {dogs un mdogs : Int32} {h lk fr he mh mlk mt mfr mhe h2 lk2 fr2 he2 mh2 mlk2 mt2 mfr2 mhe2 : Nat → Int32} (H : RR n dogs un h lk fr he mdogs mh mlk mt mfr mhe) (e : ∀ d, d < 7 → h2 d = h d ∧ lk2 d = lk d ∧ fr2 d = fr d ∧ he2 d = he d) (e2 : ∀ d, d < 7 → mh2 d = mh d ∧ mlk2 d = mlk d ∧ (d < n → mt2 d = mt d) ∧ mfr2 d = mfr d ∧ mhe2 d = mhe d) : RR n dogs un h2 lk2 fr2 he2 mdogs mh2 mlk2 mt2 mfr2 mhe2 := by
  obtain ⟨hn, r1, r2, hd, hu⟩ := H
  refine ⟨hn, r1, r2, fun d hdn => ?_, hu⟩
  obtain ⟨a1, a2, a3, a4⟩ := e d (by omega)
  obtain ⟨b1, b2, b3, b4, b5⟩ := e2 d (by omega)
  rw [a1, a2, a3, a4, b1, b2, b3 hdn, b4, b5]
  exact hd d hdn
theorem RC_cong {N : Nat} {B : Int32} {c : Nat} {sz msz : Int32} {lf rt nm arr lf2 rt2 nm2 arr2 : Nat → Int32} (H : RC N B c sz lf rt nm msz arr) (e : ∀ i, i < c → lf2 i = lf i ∧ rt2 i = rt i ∧ nm2 i = nm i) (e2 : ∀ k, k < 3 * N → arr2 k = arr k) : RC N B c sz lf2 rt2 nm2 msz arr2 := by
  obtain ⟨hc, r1, r2, hd⟩ := H
  refine ⟨hc, r1, r2, fun i hi => ?_⟩
  obtain ⟨a1, a2, a3⟩ := e i hi
  rw [a1, a2, a3, e2 _ (by omega), e2 _ (by omega), e2 _ (by omega)]
  exact hd i hi
/-- all that an IMAGE keeps, on both sides -/
def RA (hu : Int32) (dogs : Int32) (un : Int32) (h : Nat → Int32) (lk : Nat → Int32) (fr : Nat → Int32) (he : Nat → Int32) (cs : Int32) (cl : Nat → Int32) (cr : Nat → Int32) (cn : Nat → Int32) (qs : Int32) (ql : Nat → Int32) (qr : Nat → Int32) (qn : Nat → Int32) (mhu mdogs : Int32) (mh mlk mt mfr mhe : Nat → Int32) (mcs : Int32) (mc : Nat → Int32) (mqs : Int32) (mq : Nat → Int32) : Prop :=
  (∃ n, RR n dogs un h lk fr he mdogs mh mlk mt mfr mhe) ∧ (∃ c, RC 6 63 c cs cl cr cn mcs mc) ∧ (∃ q, RC 5 99 q qs ql qr qn mqs mq) ∧ RH hu mhu
def RV (hu : Int32) (dogs : Int32) (un : Int32) (h : Nat → Int32) (lk : Nat → Int32) (fr : Nat → Int32) (he : Nat → Int32) (cs : Int32) (cl : Nat → Int32) (cr : Nat → Int32) (cn : Nat → Int32) (qs : Int32) (ql : Nat → Int32) (qr : Nat → Int32) (qn : Nat → Int32) (im : Nat → Int32) (b : Nat) : Prop := RA hu dogs un h lk fr he cs cl cr cn qs ql qr qn (im (b + 71)) (im (b + 68)) (fun d => im (b + d)) (fun d => im (b + 7 + d)) (fun d => im (b + 14 + d)) (fun d => im (b + 21 + d)) (fun d => im (b + 28 + d)) (im (b + 69)) (fun k => im (b + 35 + k)) (im (b + 70)) (fun k => im (b + 53 + k))
theorem RV_cong {hu dogs un cs qs : Int32} {h lk fr he cl cr cn ql qr qn : Nat → Int32} {im im2 : Nat → Int32} {b : Nat} (H : RV hu dogs un h lk fr he cs cl cr cn qs ql qr qn im b) (e : ∀ j, b ≤ j → j < b + 72 → im2 j = im j) : RV hu dogs un h lk fr he cs cl cr cn qs ql qr qn im2 b := by
  obtain ⟨⟨n, h1⟩, ⟨c, h2⟩, ⟨q, h3⟩, h4⟩ := H
  unfold RV RA
  rw [e (b + 71) (by omega) (by omega), e (b + 68) (by omega) (by omega), e (b + 69) (by omega) (by omega), e (b + 70) (by omega) (by omega)]
  refine ⟨⟨n, RR_cong h1 (fun d _ => ⟨rfl, rfl, rfl, rfl⟩) (fun d hd => ⟨e _ (by omega) (by omega), e _ (by omega) (by omega), fun _ => e _ (by omega) (by omega), e _ (by omega) (by omega), e _ (by omega) (by omega)⟩)⟩, ⟨c, RC_cong h2 (fun i _ => ⟨rfl, rfl, rfl⟩) (fun k hk => e _ (by omega) (by omega))⟩, ⟨q, RC_cong h3 (fun i _ => ⟨rfl, rfl, rfl⟩) (fun k hk => e _ (by omega) (by omega))⟩, h4⟩
theorem cpy7 (f g : Nat → Int32) {d : Nat} (hd : d < 7) : va_cpy f g (0 : Int32).toNatClampNeg (0 : Int32).toNatClampNeg (7 : Int32).toNatClampNeg d = f d := by
  rw [show (0 : Int32).toNatClampNeg = 0 from c_nI (k := 0) (by omega), show (7 : Int32).toNatClampNeg = 7 from c_nI (k := 7) (by omega)]
  exact sb_cpy0 hd
theorem s_X10_copyFrom {N c : Nat} (hN : N < 100) (hc : c ≤ N) {s0 : Int32} {lf rt nm plf prt pnm : Nat → Int32} {post : Int32 → (Nat → Int32) → (Nat → Int32) → (Nat → Int32) → Prop} (hp : ∀ lf2 rt2 nm2 : Nat → Int32, (∀ i, i < c → lf2 i = plf i ∧ rt2 i = prt i ∧ nm2 i = pnm i) → post (nI c) lf2 rt2 nm2) : wp_X10_copyFrom N s0 lf rt nm (nI c) plf prt pnm post := by
  unfold wp_X10_copyFrom
  refine lofE5_0 c (by omega) rfl (fun k sz lf2 rt2 nm2 => sz = nI k ∧ ∀ i, i < k → lf2 i = plf i ∧ rt2 i = prt i ∧ nm2 i = pnm i) ?_ ?_ _ _ _ _ ⟨rfl, fun i hi => absurd hi (Nat.not_lt_zero _)⟩
  · rintro sz lf2 rt2 nm2 ⟨rfl, h⟩
    exact hp lf2 rt2 nm2 h
  · rintro k sz lf2 rt2 nm2 again hk ⟨rfl, h⟩ hag
    have v : vp_in (nI k) N := v_in (by omega) (by omega)
    rw [nI_clamp (by omega)]
    refine ⟨v, v, v, s_X10_add hN (by omega) (fun _ => hag _ _ _ _ ⟨rfl, fun i hi => ?_⟩) (fun e => by omega)⟩
    by_cases e : i = k
    · subst e; rw [u_s, u_s, u_s]; exact ⟨rfl, rfl, rfl⟩
    · rw [u_n e, u_n e, u_n e]; exact h i (by omega)
theorem s_X8_copyFrom {dhu ddogs dun dcs dqs : Int32} {dh dlk dfr dhe dcl dcr dcn dql dqr dqn : Nat → Int32} {hu dogs un cs qs : Int32} {h lk fr he cl cr cn ql qr qn : Nat → Int32} {mhu mdogs mcs mqs : Int32} {mh mlk mt mfr mhe mc mq : Nat → Int32} {post : Int32 → Int32 → Int32 → (Nat → Int32) → (Nat → Int32) → (Nat → Int32) → (Nat → Int32) → Int32 → (Nat → Int32) → (Nat → Int32) → (Nat → Int32) → Int32 → (Nat → Int32) → (Nat → Int32) → (Nat → Int32) → Prop} (H : RA hu dogs un h lk fr he cs cl cr cn qs ql qr qn mhu mdogs mh mlk mt mfr mhe mcs mc mqs mq) (hp : ∀ (ehu : Int32) (edogs : Int32) (eun : Int32) (eh : Nat → Int32) (elk : Nat → Int32) (efr : Nat → Int32) (ehe : Nat → Int32) (ecs : Int32) (ecl : Nat → Int32) (ecr : Nat → Int32) (ecn : Nat → Int32) (eqs : Int32) (eql : Nat → Int32) (eqr : Nat → Int32) (eqn : Nat → Int32), RA ehu edogs eun eh elk efr ehe ecs ecl ecr ecn eqs eql eqr eqn mhu mdogs mh mlk mt mfr mhe mcs mc mqs mq → post ehu edogs eun eh elk efr ehe ecs ecl ecr ecn eqs eql eqr eqn) :
    wp_X8_copyFrom dhu ddogs dun dh dlk dfr dhe dcs dcl dcr dcn dqs dql dqr dqn hu dogs un h lk fr he cs cl cr cn qs ql qr qn post := by
  obtain ⟨⟨n, h1⟩, ⟨c, h2⟩, ⟨q, h3⟩, h4⟩ := H
  unfold wp_X8_copyFrom wp_X9_copyFrom
  obtain ⟨c1, c2, -⟩ := id h2
  obtain ⟨q1, q2, -⟩ := id h3
  rw [c2, q2]
  refine s_X10_copyFrom (by omega) c1 (fun cl2 cr2 cn2 hc2 => s_X10_copyFrom (by omega) q1 (fun ql2 qr2 qn2 hq2 => hp _ _ _ _ _ _ _ _ _ _ _ _ _ _ _ ⟨⟨n, ?_⟩, ⟨c, ?_⟩, ⟨q, ?_⟩, h4⟩))
  · exact RR_cong h1 (fun d hd => ⟨cpy7 _ _ hd, cpy7 _ _ hd, cpy7 _ _ hd, cpy7 _ _ hd⟩) (fun d _ => ⟨rfl, rfl, fun _ => rfl, rfl, rfl⟩)
  · rw [c2] at h2; exact RC_cong h2 hc2 (fun _ _ => rfl)
  · rw [q2] at h3; exact RC_cong h3 hq2 (fun _ _ => rfl)
theorem x72 {b k : Nat} : nI b + nI k = nI (b + k) := nI_add _ _
theorem nb1 : vp_nar .boolean (1 : Int32) = 1 := by decide +kernel
theorem nb0 : vp_nar .boolean (0 : Int32) = 0 := by decide +kernel
theorem s_X12_image {i : Nat} (hi : i < 2) {mhu mdogs mcs mqs : Int32} {mh mlk mt mfr mhe mc mq im ik : Nat → Int32} {post : Int32 → (Nat → Int32) → (Nat → Int32) → Prop}
    (hp : ∀ im2 : Nat → Int32, (∀ d, d < 7 → im2 (72 * i + d) = mh d ∧ im2 (72 * i + 7 + d) = mlk d ∧ im2 (72 * i + 14 + d) = (if mt d = 0 then 0 else 1) ∧ im2 (72 * i + 21 + d) = mfr d ∧ im2 (72 * i + 28 + d) = mhe d) → (∀ k, k < 18 → im2 (72 * i + 35 + k) = mc k) → (∀ k, k < 15 → im2 (72 * i + 53 + k) = mq k) → im2 (72 * i + 68) = mdogs → im2 (72 * i + 69) = mcs → im2 (72 * i + 70) = mqs → im2 (72 * i + 71) = mhu → (∀ j, (j < 72 * i ∨ 72 * i + 72 ≤ j) → im2 j = im j) → post 1 im2 (upd ik i 1)) :
    wp_X12_image mdogs mhu mcs mqs mh mlk mt mfr mhe mc mq im ik (nI i) post := by
  unfold wp_X12_image
  refine s_X12_in (fun _ => ⟨fun _ => ?_, fun e => absurd e (by decide)⟩) (fun z => absurd ⟨nI_pos' (by omega), nI_le (b := 1) (by omega) (by omega)⟩ z)
  rw [show (72 : Int32) * nI i = nI (72 * i) from pk_mul 72 i]
  obtain ⟨b, hb⟩ : ∃ b, b = 72 * i := ⟨_, rfl⟩
  have hb2 : b ≤ 72 := by omega
  rw [← hb] at hp ⊢
  rw [show (7 : Int32) = nI 7 from rfl, show (14 : Int32) = nI 14 from rfl, show (21 : Int32) = nI 21 from rfl, show (28 : Int32) = nI 28 from rfl, show (35 : Int32) = nI 35 from rfl, show (53 : Int32) = nI 53 from rfl, show (68 : Int32) = nI 68 from rfl, show (69 : Int32) = nI 69 from rfl, show (70 : Int32) = nI 70 from rfl, show (71 : Int32) = nI 71 from rfl]
  simp only [x72]
  refine jn_in ?_
  refine lofE2_0 7 (by omega) rfl (fun k im2 => (∀ d, d < k → im2 (b + d) = mh d ∧ im2 (b + 7 + d) = mlk d ∧ im2 (b + 14 + d) = (if mt d = 0 then 0 else 1) ∧ im2 (b + 21 + d) = mfr d ∧ im2 (b + 28 + d) = mhe d) ∧ (∀ j, (j < b ∨ b + 35 ≤ j) → im2 j = im j)) ?_ ?_ _ ⟨fun d hd => absurd hd (Nat.not_lt_zero _), fun _ _ => rfl⟩
  · rintro im1 ⟨g1, g2⟩
    refine jn_in ?_
    refine lofE2_0 18 (by omega) rfl (fun k im2 => (∀ d, d < k → im2 (b + 35 + d) = mc d) ∧ (∀ j, (j < b + 35 ∨ b + 53 ≤ j) → im2 j = im1 j)) ?_ ?_ _ ⟨fun d hd => absurd hd (Nat.not_lt_zero _), fun _ _ => rfl⟩
    · rintro im2 ⟨g3, g4⟩
      refine jn_in ?_
      refine lofE2_0 15 (by omega) rfl (fun k im3 => (∀ d, d < k → im3 (b + 53 + d) = mq d) ∧ (∀ j, (j < b + 53 ∨ b + 68 ≤ j) → im3 j = im2 j)) ?_ ?_ _ ⟨fun d hd => absurd hd (Nat.not_lt_zero _), fun _ _ => rfl⟩
      · rintro im3 ⟨g5, g6⟩
        rw [nI_clamp (by omega), nI_clamp (by omega), nI_clamp (by omega), nI_clamp (by omega), c_nI (show i < 64 by omega), nb1]
        refine ⟨v_in (by omega) (by omega), v_in (by omega) (by omega), v_in (by omega) (by omega), v_in (by omega) (by omega), v_in (by omega) (by omega), hp _ (fun d hd => ?_) (fun k hk => ?_) (fun k hk => ?_) ?_ ?_ ?_ ?_ (fun j hj => ?_)⟩
        · obtain ⟨a1, a2, a3, a4, a5⟩ := g1 d hd
          refine ⟨?_, ?_, ?_, ?_, ?_⟩
          · rw [u_n (by omega), u_n (by omega), u_n (by omega), u_n (by omega), g6 _ (by omega), g4 _ (by omega)]; exact a1
          · rw [u_n (by omega), u_n (by omega), u_n (by omega), u_n (by omega), g6 _ (by omega), g4 _ (by omega)]; exact a2
          · rw [u_n (by omega), u_n (by omega), u_n (by omega), u_n (by omega), g6 _ (by omega), g4 _ (by omega)]; exact a3
          · rw [u_n (by omega), u_n (by omega), u_n (by omega), u_n (by omega), g6 _ (by omega), g4 _ (by omega)]; exact a4
          · rw [u_n (by omega), u_n (by omega), u_n (by omega), u_n (by omega), g6 _ (by omega), g4 _ (by omega)]; exact a5
        · rw [u_n (by omega), u_n (by omega), u_n (by omega), u_n (by omega), g6 _ (by omega)]; exact g3 k hk
        · rw [u_n (by omega), u_n (by omega), u_n (by omega), u_n (by omega)]; exact g5 k hk
        · rw [u_n (by omega), u_n (by omega), u_n (by omega), u_s]
        · rw [u_n (by omega), u_n (by omega), u_s]
        · rw [u_n (by omega), u_s]
        · rw [u_s]
        · rw [u_n (by omega), u_n (by omega), u_n (by omega), u_n (by omega), g6 _ (by omega), g4 _ (by omega)]; exact g2 j (by omega)
      · rintro k im3 again hk ⟨g5, g6⟩ hag
        simp only [x72]
        rw [nI_clamp (by omega), nI_clamp (by omega)]
        refine ⟨v_in (by omega) (by omega), v_in (by omega) (by omega), hag _ ⟨fun d hd => ?_, fun j hj => ?_⟩⟩
        · by_cases e : d = k
          · subst e; rw [u_s]
          · rw [u_n (by omega)]; exact g5 d (by omega)
        · rw [u_n (by omega)]; exact g6 j hj
    · rintro k im3 again hk ⟨g5, g6⟩ hag
      simp only [x72]
      rw [nI_clamp (by omega), nI_clamp (by omega)]
      refine ⟨v_in (by omega) (by omega), v_in (by omega) (by omega), hag _ ⟨fun d hd => ?_, fun j hj => ?_⟩⟩
      · by_cases e : d = k
        · subst e; rw [u_s]
        · rw [u_n (by omega)]; exact g5 d (by omega)
      · rw [u_n (by omega)]; exact g6 j hj
  · rintro k im2 again hk ⟨g1, g2⟩ hag
    simp only [x72]
    rw [nI_clamp (show k < 2 ^ 31 by omega), nI_clamp (show b + k < 2 ^ 31 by omega), nI_clamp (show b + 7 + k < 2 ^ 31 by omega), nI_clamp (show b + 14 + k < 2 ^ 31 by omega), nI_clamp (show b + 21 + k < 2 ^ 31 by omega), nI_clamp (show b + 28 + k < 2 ^ 31 by omega)]
    have v : vp_in (nI k) 7 := v_in (by omega) (by omega)
    have hfin : ∀ t : Int32, t = (if mt k = 0 then 0 else 1) → vp_in (nI (b + 14 + k)) 144 ∧ vp_in (nI k) 7 ∧ vp_in (nI (b + 21 + k)) 144 ∧ vp_in (nI k) 7 ∧ vp_in (nI (b + 28 + k)) 144 ∧ again (nI k + 1) (upd (upd (upd (upd (upd im2 (b + k) (mh k)) (b + 7 + k) (mlk k)) (b + 14 + k) t) (b + 21 + k) (mfr k)) (b + 28 + k) (mhe k)) := by
      rintro t rfl
      refine ⟨v_in (by omega) (by omega), v, v_in (by omega) (by omega), v, v_in (by omega) (by omega), hag _ ⟨fun d hd => ?_, fun j hj => ?_⟩⟩
      · by_cases e : d = k
        · subst e
          refine ⟨?_, ?_, ?_, ?_, ?_⟩
          · rw [u_n (by omega), u_n (by omega), u_n (by omega), u_n (by omega), u_s]
          · rw [u_n (by omega), u_n (by omega), u_n (by omega), u_s]
          · rw [u_n (by omega), u_n (by omega), u_s]
          · rw [u_n (by omega), u_s]
          · rw [u_s]
        · obtain ⟨a1, a2, a3, a4, a5⟩ := g1 d (by omega)
          refine ⟨?_, ?_, ?_, ?_, ?_⟩
          · rw [u_n (by omega), u_n (by omega), u_n (by omega), u_n (by omega), u_n (by omega)]; exact a1
          · rw [u_n (by omega), u_n (by omega), u_n (by omega), u_n (by omega), u_n (by omega)]; exact a2
          · rw [u_n (by omega), u_n (by omega), u_n (by omega), u_n (by omega), u_n (by omega)]; exact a3
          · rw [u_n (by omega), u_n (by omega), u_n (by omega), u_n (by omega), u_n (by omega)]; exact a4
          · rw [u_n (by omega), u_n (by omega), u_n (by omega), u_n (by omega), u_n (by omega)]; exact a5
      · rw [u_n (by omega), u_n (by omega), u_n (by omega), u_n (by omega), u_n (by omega)]; exact g2 j hj
    exact ⟨v, v_in (by omega) (by omega), v, v_in (by omega) (by omega), v, jn_in ⟨fun g => hfin _ (by rw [if_pos g]), fun g => hfin _ (by rw [if_neg g])⟩⟩
theorem s_X12_restore {i : Nat} (hi : i < 2) {mhu mdogs mcs mqs : Int32} {mh mlk mt mfr mhe mc mq im ik : Nat → Int32} {post : Int32 → Int32 → Int32 → Int32 → Int32 → (Nat → Int32) → (Nat → Int32) → (Nat → Int32) → (Nat → Int32) → (Nat → Int32) → (Nat → Int32) → (Nat → Int32) → Prop} (h0 : ik i = 0 → post (-3) mdogs mhu mcs mqs mh mlk mt mfr mhe mc mq)
    (hp : ¬ ik i = 0 → ∀ mh2 mlk2 mt2 mfr2 mhe2 mc2 mq2 : Nat → Int32, (∀ d, d < 7 → mh2 d = im (72 * i + d) ∧ mlk2 d = im (72 * i + 7 + d) ∧ mt2 d = (if im (72 * i + 14 + d) = 1 then 1 else 0) ∧ mfr2 d = im (72 * i + 21 + d) ∧ mhe2 d = im (72 * i + 28 + d)) → (∀ k, k < 18 → mc2 k = im (72 * i + 35 + k)) → (∀ k, k < 15 → mq2 k = im (72 * i + 53 + k)) → post 1 (im (72 * i + 68)) (im (72 * i + 71)) (im (72 * i + 69)) (im (72 * i + 70)) mh2 mlk2 mt2 mfr2 mhe2 mc2 mq2) :
    wp_X12_restore mdogs mhu mcs mqs mh mlk mt mfr mhe mc mq im ik (nI i) post := by
  unfold wp_X12_restore
  refine s_X12_in (fun _ => ⟨fun _ => ?_, fun e => absurd e (by decide)⟩) (fun z => absurd ⟨nI_pos' (by omega), nI_le (b := 1) (by omega) (by omega)⟩ z)
  rw [show (72 : Int32) * nI i = nI (72 * i) from pk_mul 72 i, c_nI (show i < 64 by omega)]
  refine ⟨v_in (by omega) (by omega), fun z => ?_, fun z => h0 z⟩
  have hp := hp z
  obtain ⟨b, hb⟩ : ∃ b, b = 72 * i := ⟨_, rfl⟩
  have hb2 : b ≤ 72 := by omega
  rw [← hb] at hp ⊢
  rw [show (7 : Int32) = nI 7 from rfl, show (14 : Int32) = nI 14 from rfl, show (21 : Int32) = nI 21 from rfl, show (28 : Int32) = nI 28 from rfl, show (35 : Int32) = nI 35 from rfl, show (53 : Int32) = nI 53 from rfl, show (68 : Int32) = nI 68 from rfl, show (69 : Int32) = nI 69 from rfl, show (70 : Int32) = nI 70 from rfl, show (71 : Int32) = nI 71 from rfl]
  simp only [x72]
  refine jn_in ?_
  refine lofE6_0 7 (by omega) rfl (fun k h2 lk2 t2 fr2 he2 => ∀ d, d < k → h2 d = im (b + d) ∧ lk2 d = im (b + 7 + d) ∧ t2 d = (if im (b + 14 + d) = 1 then 1 else 0) ∧ fr2 d = im (b + 21 + d) ∧ he2 d = im (b + 28 + d)) ?_ ?_ _ _ _ _ _ (fun d hd => absurd hd (Nat.not_lt_zero _))
  · intro h2 lk2 t2 fr2 he2 g1
    refine jn_in ?_
    refine lofE2_0 18 (by omega) rfl (fun k c2 => ∀ d, d < k → c2 d = im (b + 35 + d)) ?_ ?_ _ (fun d hd => absurd hd (Nat.not_lt_zero _))
    · intro c2 g2
      refine jn_in ?_
      refine lofE2_0 15 (by omega) rfl (fun k q2 => ∀ d, d < k → q2 d = im (b + 53 + d)) ?_ ?_ _ (fun d hd => absurd hd (Nat.not_lt_zero _))
      · intro q2 g3
        rw [nI_clamp (by omega), nI_clamp (by omega), nI_clamp (by omega), nI_clamp (by omega)]
        exact ⟨v_in (by omega) (by omega), v_in (by omega) (by omega), v_in (by omega) (by omega), v_in (by omega) (by omega), hp _ _ _ _ _ _ _ g1 g2 g3⟩
      · intro k q2 again hk g hag
        simp only [x72]
        rw [nI_clamp (by omega), nI_clamp (by omega)]
        refine ⟨v_in (by omega) (by omega), v_in (by omega) (by omega), hag _ (fun d hd => ?_)⟩
        by_cases e : d = k
        · subst e; rw [u_s]
        · rw [u_n (by omega)]; exact g d (by omega)
    · intro k q2 again hk g hag
      simp only [x72]
      rw [nI_clamp (by omega), nI_clamp (by omega)]
      refine ⟨v_in (by omega) (by omega), v_in (by omega) (by omega), hag _ (fun d hd => ?_)⟩
      by_cases e : d = k
      · subst e; rw [u_s]
      · rw [u_n (by omega)]; exact g d (by omega)
  · intro k h2 lk2 t2 fr2 he2 again hk g1 hag
    simp only [x72]
    rw [nI_clamp (show k < 2 ^ 31 by omega), nI_clamp (show b + k < 2 ^ 31 by omega), nI_clamp (show b + 7 + k < 2 ^ 31 by omega), nI_clamp (show b + 14 + k < 2 ^ 31 by omega), nI_clamp (show b + 21 + k < 2 ^ 31 by omega), nI_clamp (show b + 28 + k < 2 ^ 31 by omega)]
    have v : vp_in (nI k) 7 := v_in (by omega) (by omega)
    have hfin : ∀ t : Int32, t = (if im (b + 14 + k) = 1 then 1 else 0) → vp_in (nI k) 7 ∧ vp_in (nI (b + 21 + k)) 144 ∧ vp_in (nI k) 7 ∧ vp_in (nI (b + 28 + k)) 144 ∧ vp_in (nI k) 7 ∧ again (nI k + 1) (upd h2 k (im (b + k))) (upd lk2 k (im (b + 7 + k))) (upd t2 k (vp_nar .boolean t)) (upd fr2 k (im (b + 21 + k))) (upd he2 k (im (b + 28 + k))) := by
      intro t ht
      have ht2 : vp_nar .boolean t = t := by
        rw [ht]; by_cases g : im (b + 14 + k) = 1
        · rw [if_pos g, nb1]
        · rw [if_neg g, nb0]
      refine ⟨v, v_in (by omega) (by omega), v, v_in (by omega) (by omega), v, hag _ _ _ _ _ (fun d hd => ?_)⟩
      by_cases e : d = k
      · subst e; rw [u_s, u_s, u_s, u_s, u_s, ht2, ht]; exact ⟨rfl, rfl, rfl, rfl, rfl⟩
      · rw [u_n e, u_n e, u_n e, u_n e, u_n e]; exact g1 d (by omega)
    exact ⟨v_in (by omega) (by omega), v, v_in (by omega) (by omega), v, v_in (by omega) (by omega), jn_in ⟨fun g => hfin _ (by rw [if_neg g]), fun g => hfin _ (by rw [if_pos g])⟩⟩
/-- an IMAGE, on both sides -/
def RI (i : Nat) (kept : Int32) (hu : Int32) (dogs : Int32) (un : Int32) (h : Nat → Int32) (lk : Nat → Int32) (fr : Nat → Int32) (he : Nat → Int32) (cs : Int32) (cl : Nat → Int32) (cr : Nat → Int32) (cn : Nat → Int32) (qs : Int32) (ql : Nat → Int32) (qr : Nat → Int32) (qn : Nat → Int32) (im ik : Nat → Int32) : Prop := ik i = (if bt kept i then 1 else 0) ∧ (bt kept i = true → RV hu dogs un h lk fr he cs cl cr cn qs ql qr qn im (72 * i))
theorem RA_RV {hu dogs un cs qs : Int32} {h lk fr he cl cr cn ql qr qn : Nat → Int32} {mhu mdogs mcs mqs : Int32} {mh mlk mt mfr mhe mc mq im : Nat → Int32} {b : Nat} (H : RA hu dogs un h lk fr he cs cl cr cn qs ql qr qn mhu mdogs mh mlk mt mfr mhe mcs mc mqs mq) (g1 : ∀ d, d < 7 → im (b + d) = mh d ∧ im (b + 7 + d) = mlk d ∧ im (b + 14 + d) = (if mt d = 0 then 0 else 1) ∧ im (b + 21 + d) = mfr d ∧ im (b + 28 + d) = mhe d) (g2 : ∀ k, k < 18 → im (b + 35 + k) = mc k) (g3 : ∀ k, k < 15 → im (b + 53 + k) = mq k) (g4 : im (b + 68) = mdogs) (g5 : im (b + 69) = mcs) (g6 : im (b + 70) = mqs) (g7 : im (b + 71) = mhu) : RV hu dogs un h lk fr he cs cl cr cn qs ql qr qn im b := by
  obtain ⟨⟨n, h1⟩, ⟨c, h2⟩, ⟨q, h3⟩, h4⟩ := H
  unfold RV RA
  rw [g4, g5, g6, g7]
  refine ⟨⟨n, RR_cong h1 (fun d _ => ⟨rfl, rfl, rfl, rfl⟩) (fun d hd => ?_)⟩, ⟨c, RC_cong h2 (fun i _ => ⟨rfl, rfl, rfl⟩) (fun k hk => g2 k (by omega))⟩, ⟨q, RC_cong h3 (fun i _ => ⟨rfl, rfl, rfl⟩) (fun k hk => g3 k (by omega))⟩, h4⟩
  obtain ⟨a1, a2, a3, a4, a5⟩ := g1 d hd
  refine ⟨a1, a2, fun hdn => ?_, a4, a5⟩
  show im (b + 14 + d) = mt d
  rw [a3]
  have e := (h1.2.2.2.1 d hdn).2.2.2.2.1
  rw [e]
  cases bt un d <;> simp
theorem RV_RA {hu dogs un cs qs : Int32} {h lk fr he cl cr cn ql qr qn : Nat → Int32} {mh mlk mt mfr mhe mc mq im : Nat → Int32} {b : Nat} (H : RV hu dogs un h lk fr he cs cl cr cn qs ql qr qn im b) (g1 : ∀ d, d < 7 → mh d = im (b + d) ∧ mlk d = im (b + 7 + d) ∧ mt d = (if im (b + 14 + d) = 1 then 1 else 0) ∧ mfr d = im (b + 21 + d) ∧ mhe d = im (b + 28 + d)) (g2 : ∀ k, k < 18 → mc k = im (b + 35 + k)) (g3 : ∀ k, k < 15 → mq k = im (b + 53 + k)) : RA hu dogs un h lk fr he cs cl cr cn qs ql qr qn (im (b + 71)) (im (b + 68)) mh mlk mt mfr mhe (im (b + 69)) mc (im (b + 70)) mq := by
  obtain ⟨⟨n, h1⟩, ⟨c, h2⟩, ⟨q, h3⟩, h4⟩ := H
  refine ⟨⟨n, RR_cong h1 (fun d _ => ⟨rfl, rfl, rfl, rfl⟩) (fun d hd => ?_)⟩, ⟨c, RC_cong h2 (fun i _ => ⟨rfl, rfl, rfl⟩) (fun k hk => g2 k (by omega))⟩, ⟨q, RC_cong h3 (fun i _ => ⟨rfl, rfl, rfl⟩) (fun k hk => g3 k (by omega))⟩, h4⟩
  obtain ⟨a1, a2, a3, a4, a5⟩ := g1 d hd
  refine ⟨a1, a2, fun hdn => ?_, a4, a5⟩
  show mt d = im (b + 14 + d)
  rw [a3]
  have e : im (b + 14 + d) = (if bt un d then 0 else 1) := (h1.2.2.2.1 d hdn).2.2.2.2.1
  rw [e]
  cases bt un d <;> simp
theorem in01 {a : Int32} (h : 0 ≤ a ∧ a ≤ 1) : a = nI 0 ∨ a = nI 1 := by
  obtain ⟨j, hj, rfl⟩ := nI_of2 (x := a) (M := 1) (n := 1) t_1 (n_lt.mpr h.1) h.2
  rcases (show j = 0 ∨ j = 1 by omega) with rfl | rfl
  · exact Or.inl rfl
  · exact Or.inr rfl
theorem t_image {kept a mhu mdogs mcs mqs : Int32} {hu dogs un cs qs : Int32} {h lk fr he cl cr cn ql qr qn : Nat → Int32} {ihu idogs iun ics iqs : Int32} {ih ilk ifr ihe icl icr icn iql iqr iqn : Nat → Int32} {jhu jdogs jun jcs jqs : Int32} {jh jlk jfr jhe jcl jcr jcn jql jqr jqn : Nat → Int32} {mh mlk mt mfr mhe mc mq im ik : Nat → Int32} (H : RA hu dogs un h lk fr he cs cl cr cn qs ql qr qn mhu mdogs mh mlk mt mfr mhe mcs mc mqs mq) (H0 : RI 0 kept ihu idogs iun ih ilk ifr ihe ics icl icr icn iqs iql iqr iqn im ik) (H1 : RI 1 kept jhu jdogs jun jh jlk jfr jhe jcs jcl jcr jcn jqs jql jqr jqn im ik) :
    wp_X11_image kept hu dogs un h lk fr he cs cl cr cn qs ql qr qn ihu idogs iun ih ilk ifr ihe ics icl icr icn iqs iql iqr iqn jhu jdogs jun jh jlk jfr jhe jcs jcl jcr jcn jqs jql jqr jqn a (fun r kept2 ehu edogs eun eh elk efr ehe ecs ecl ecr ecn eqs eql eqr eqn vhu vdogs vun vh vlk vfr vhe vcs vcl vcr vcn vqs vql vqr vqn => wp_X12_image mdogs mhu mcs mqs mh mlk mt mfr mhe mc mq im ik a (fun r2 im2 ik2 => r = r2 ∧ RI 0 kept2 ehu edogs eun eh elk efr ehe ecs ecl ecr ecn eqs eql eqr eqn im2 ik2 ∧ RI 1 kept2 vhu vdogs vun vh vlk vfr vhe vcs vcl vcr vcn vqs vql vqr vqn im2 ik2)) := by
  unfold wp_X11_image
  refine s_X11_isWithin (fun q => ⟨fun _ => ?_, fun e => absurd e (by decide)⟩) (fun q => ⟨fun e => absurd rfl e, fun _ => ?_⟩)
  · rcases in01 q with rfl | rfl
    · refine ⟨Or.inl rfl, fun _ => s_X8_copyFrom H (fun e0 e1 e2 e3 e4 e5 e6 e7 e8 e9 e10 e11 e12 e13 e14 he => ?_), fun e => absurd e (by decide)⟩
      refine s_X12_image (i := 0) (by omega) (fun im2 g1 g2 g3 g4 g5 g6 g7 g8 => ⟨rfl, ⟨?_, fun _ => RA_RV he g1 g2 g3 g4 g5 g6 g7⟩, ⟨?_, fun z => ?_⟩⟩)
      · rw [u_s, b_set (by omega) (by omega)]; simp
      · rw [u_n (by omega), b_set (by omega) (by omega)]; simp [H1.1]
      · rw [b_set (by omega) (by omega)] at z
        exact RV_cong (H1.2 (by simpa using z)) (fun j hj1 hj2 => g8 j (by omega))
    · refine ⟨Or.inr rfl, fun e => absurd e (by decide), fun _ => s_X8_copyFrom H (fun e0 e1 e2 e3 e4 e5 e6 e7 e8 e9 e10 e11 e12 e13 e14 he => ?_)⟩
      refine s_X12_image (i := 1) (by omega) (fun im2 g1 g2 g3 g4 g5 g6 g7 g8 => ⟨rfl, ⟨?_, fun z => ?_⟩, ⟨?_, fun _ => RA_RV he g1 g2 g3 g4 g5 g6 g7⟩⟩)
      · rw [u_n (by omega), b_set (by omega) (by omega)]; simp [H0.1]
      · rw [b_set (by omega) (by omega)] at z
        exact RV_cong (H0.2 (by simpa using z)) (fun j hj1 hj2 => g8 j (by omega))
      · rw [u_s, b_set (by omega) (by omega)]; simp
  · unfold wp_X12_image
    exact s_X12_in (fun z => absurd z q) (fun _ => ⟨fun e => absurd rfl e, fun _ => ⟨rfl, H0, H1⟩⟩)
theorem t_restore {kept a gk uk ek mhu mdogs mcs mqs : Int32} {hu dogs un cs qs : Int32} {h lk fr he cl cr cn ql qr qn : Nat → Int32} {ihu idogs iun ics iqs : Int32} {ih ilk ifr ihe icl icr icn iql iqr iqn : Nat → Int32} {jhu jdogs jun jcs jqs : Int32} {jh jlk jfr jhe jcl jcr jcn jql jqr jqn : Nat → Int32} {mh mlk mt mfr mhe mc mq im ik : Nat → Int32} (H : RA hu dogs un h lk fr he cs cl cr cn qs ql qr qn mhu mdogs mh mlk mt mfr mhe mcs mc mqs mq) (H0 : RI 0 kept ihu idogs iun ih ilk ifr ihe ics icl icr icn iqs iql iqr iqn im ik) (H1 : RI 1 kept jhu jdogs jun jh jlk jfr jhe jcs jcl jcr jcn jqs jql jqr jqn im ik) :
    wp_X11_restore kept hu dogs un h lk fr he cs cl cr cn qs ql qr qn ihu idogs iun ih ilk ifr ihe ics icl icr icn iqs iql iqr iqn jhu jdogs jun jh jlk jfr jhe jcs jcl jcr jcn jqs jql jqr jqn gk uk ek a (fun r ehu edogs eun eh elk efr ehe ecs ecl ecr ecn eqs eql eqr eqn gk2 uk2 ek2 => wp_X12_restore mdogs mhu mcs mqs mh mlk mt mfr mhe mc mq im ik a (fun r2 mdogs2 mhu2 mcs2 mqs2 mh2 mlk2 mt2 mfr2 mhe2 mc2 mq2 => r = r2 ∧ RA ehu edogs eun eh elk efr ehe ecs ecl ecr ecn eqs eql eqr eqn mhu2 mdogs2 mh2 mlk2 mt2 mfr2 mhe2 mcs2 mc2 mqs2 mq2 ∧ ((gk2 = gk ∧ uk2 = uk ∧ ek2 = ek ∧ ehu = hu ∧ edogs = dogs ∧ eun = un ∧ eh = h ∧ elk = lk ∧ efr = fr ∧ ehe = he ∧ ecs = cs ∧ ecl = cl ∧ ecr = cr ∧ ecn = cn ∧ eqs = qs ∧ eql = ql ∧ eqr = qr ∧ eqn = qn ∧ mdogs2 = mdogs ∧ mhu2 = mhu ∧ mcs2 = mcs ∧ mqs2 = mqs ∧ mh2 = mh ∧ mlk2 = mlk ∧ mt2 = mt ∧ mfr2 = mfr ∧ mhe2 = mhe ∧ mc2 = mc ∧ mq2 = mq) ∨ (gk2 = 0 ∧ uk2 = 0 ∧ ek2 = 0)))) := by
  unfold wp_X11_restore
  refine s_X11_isWithin (fun q => ⟨fun _ => ?_, fun e => absurd e (by decide)⟩) (fun q => ⟨fun e => absurd rfl e, fun _ => ?_⟩)
  · rcases in01 q with rfl | rfl
    · rw [b_tst0 (by omega)]
      refine ⟨fun z => ⟨Or.inl rfl, fun _ => s_X8_copyFrom (H0.2 (by simpa using z)) (fun e0 e1 e2 e3 e4 e5 e6 e7 e8 e9 e10 e11 e12 e13 e14 he => ?_), fun e => absurd e (by decide)⟩, fun z => ?_⟩
      · unfold wp_X11_changed
        refine s_X12_restore (i := 0) (by omega) (fun g => ?_) (fun _ mh2 mlk2 mt2 mfr2 mhe2 mc2 mq2 g1 g2 g3 => ⟨rfl, RV_RA he g1 g2 g3, Or.inr ⟨rfl, rfl, rfl⟩⟩)
        rw [H0.1, if_pos (by simpa using z)] at g; exact absurd g (by decide)
      · refine s_X12_restore (i := 0) (by omega) (fun g => ⟨rfl, H, Or.inl ⟨rfl, rfl, rfl, rfl, rfl, rfl, rfl, rfl, rfl, rfl, rfl, rfl, rfl, rfl, rfl, rfl, rfl, rfl, rfl, rfl, rfl, rfl, rfl, rfl, rfl, rfl, rfl, rfl, rfl⟩⟩) (fun g => ?_)
        rw [H0.1, z] at g; exact absurd rfl g
    · rw [b_tst0 (by omega)]
      refine ⟨fun z => ⟨Or.inr rfl, fun e => absurd e (by decide), fun _ => s_X8_copyFrom (H1.2 (by simpa using z)) (fun e0 e1 e2 e3 e4 e5 e6 e7 e8 e9 e10 e11 e12 e13 e14 he => ?_)⟩, fun z => ?_⟩
      · unfold wp_X11_changed
        refine s_X12_restore (i := 1) (by omega) (fun g => ?_) (fun _ mh2 mlk2 mt2 mfr2 mhe2 mc2 mq2 g1 g2 g3 => ⟨rfl, RV_RA he g1 g2 g3, Or.inr ⟨rfl, rfl, rfl⟩⟩)
        rw [H1.1, if_pos (by simpa using z)] at g; exact absurd g (by decide)
      · refine s_X12_restore (i := 1) (by omega) (fun g => ⟨rfl, H, Or.inl ⟨rfl, rfl, rfl, rfl, rfl, rfl, rfl, rfl, rfl, rfl, rfl, rfl, rfl, rfl, rfl, rfl, rfl, rfl, rfl, rfl, rfl, rfl, rfl, rfl, rfl, rfl, rfl, rfl, rfl⟩⟩) (fun g => ?_)
        rw [H1.1, z] at g; exact absurd rfl g
  · unfold wp_X12_restore
    exact s_X12_in (fun z => absurd z q) (fun _ => ⟨fun e => absurd rfl e, fun _ => ⟨rfl, H, Or.inl ⟨rfl, rfl, rfl, rfl, rfl, rfl, rfl, rfl, rfl, rfl, rfl, rfl, rfl, rfl, rfl, rfl, rfl, rfl, rfl, rfl, rfl, rfl, rfl, rfl, rfl, rfl, rfl, rfl, rfl⟩⟩⟩)
theorem s_X12_opens {n : Nat} (hn : n ≤ 7) {mt : Nat → Int32} {un : Int32} (hm : ∀ d, d < n → mt d = (if bt un d then 0 else 1)) {post : Int32 → Prop} (hp : post (nI (cnt (bt un) n))) : wp_X12_opens (nI n) mt post := by
  unfold wp_X12_opens
  refine lofE2_1 n (by omega) rfl (fun k s => s = nI (cnt (bt un) k)) ?_ ?_ _ rfl
  · rintro s rfl; exact hp
  · rintro k s again hk rfl hag
    rw [c_nI (by omega), hm k hk]
    refine ⟨v_in (by omega) (by omega), jn_in ⟨fun g => hag _ ?_, fun g => hag _ ?_⟩⟩
    · rw [cnt]; cases z : bt un k
      · rw [z] at g; exact absurd g (by decide)
      · simp [nI_1]
    · rw [cnt]; cases z : bt un k
      · simp
      · rw [z] at g; exact absurd rfl g
theorem cnt_hi {p : Nat → Bool} {n : Nat} : ∀ k, (∀ i, n ≤ i → i < n + k → p i = false) → cnt p (n + k) = cnt p n
  | 0, _ => rfl
  | k + 1, h => by rw [show n + (k + 1) = (n + k) + 1 by omega, cnt, h (n + k) (by omega) (by omega)]; exact cnt_hi k (fun i h1 h2 => h i h1 (by omega))
theorem t_told {k n c q : Nat} {sz msz dogs un mdogs hu mhu cs mcs qs mqs a : Int32} {sg mp h lk fr he mh mlk mt mfr mhe clf crt cnm carr qlf qrt qnm qarr : Nat → Int32} (HP : RP k sz sg msz mp) (H : RR n dogs un h lk fr he mdogs mh mlk mt mfr mhe) (HC : RC 6 63 c cs clf crt cnm mcs carr) (HQ : RC 5 99 q qs qlf qrt qnm mqs qarr) (HH : RH hu mhu) :
    wp_X11_told sz hu dogs un he cs qs a (fun r => wp_X12_told mdogs mhu mcs mqs msz mt mhe a (fun r2 => r = r2)) := by
  obtain ⟨-, rfl, rfl, -⟩ := HP
  obtain ⟨-, rfl, rfl, -⟩ := HC
  obtain ⟨-, rfl, rfl, -⟩ := HQ
  obtain ⟨rfl, -⟩ := HH
  obtain ⟨hn, rfl, rfl, hd, hu9⟩ := H
  have hno : ∀ j, j ≤ 5 → ¬ ((10 : Int32) ≤ nI j ∧ nI j ≤ 16) := by
    intro j hj z
    have := (nI_leI (a := 10) (b := j) (by omega) (by omega)).mp z.1
    omega
  have hsm : ∀ (j : Nat) (r : Int32), j ≤ 5 → a = nI j → r = (if j = 0 then nI k else if j = 1 then nI n else if j = 2 then hu else if j = 3 then nI c else if j = 4 then nI q else nI (cnt (bt un) n)) → wp_X12_told (nI n) hu (nI c) (nI q) (nI k) mt mhe a (fun r2 => r = r2) := by
    rintro j r hj rfl rfl
    unfold wp_X12_told
    refine s_X12_in (fun z => absurd z (hno j hj)) (fun _ => ⟨fun _ => ?_, fun e => absurd rfl e⟩)
    have ne : ∀ i, i < 100 → nI j = nI i → j = i := fun i hi e => (nI_eq (by omega) (by omega)).mp e
    refine ⟨fun e => ?_, fun e0 => ⟨fun e => ?_, fun e1 => ⟨fun e => ?_, fun e2 => ⟨fun e => ?_, fun e3 => ⟨fun e => ?_, fun e4 => ⟨fun e => ?_, fun e => s_X12_opens hn (fun d hdn => (hd d hdn).2.2.2.2.1) ?_⟩⟩⟩⟩⟩⟩
    · rw [ne 0 (by omega) e]; rfl
    · rw [ne 1 (by omega) e]; rfl
    · rw [ne 2 (by omega) e]; rfl
    · rw [ne 3 (by omega) e]; rfl
    · rw [ne 4 (by omega) e]; rfl
    · exfalso
      have h5 : j ≠ 5 := fun z => e (by rw [z]; rfl)
      have h4 : j ≠ 4 := fun z => e4 (by rw [z]; rfl)
      have h3 : j ≠ 3 := fun z => e3 (by rw [z]; rfl)
      have h2 : j ≠ 2 := fun z => e2 (by rw [z]; rfl)
      have h1 : j ≠ 1 := fun z => e1 (by rw [z]; rfl)
      have h0 : j ≠ 0 := fun z => e0 (by rw [z]; rfl)
      omega
    · rw [ne 5 (by omega) e]; rfl
  unfold wp_X11_told
  refine ⟨fun e => hsm 0 _ (by omega) e rfl, fun e0 => ⟨fun e => hsm 1 _ (by omega) e rfl, fun e1 => ⟨fun e => hsm 2 _ (by omega) e rfl, fun e2 => ⟨fun e => hsm 3 _ (by omega) e rfl, fun e3 => ⟨fun e => hsm 4 _ (by omega) e rfl, fun e4 => ⟨fun e => s_bitCount (fun i h1 h2 => hu9 i (by omega) h2) (hsm 5 _ (by omega) e ?_), fun e5 => s_X9_has (by omega) (fun z => ⟨fun g => absurd g (by decide), fun _ => ?_⟩) (fun z => ⟨fun _ => ?_, fun g => absurd rfl g⟩)⟩⟩⟩⟩⟩⟩
  · have e9 := cnt_hi (p := bt un) (n := n) (7 - n) (fun i h1 h2 => hu9 i h1 (by omega))
    rw [show n + (7 - n) = 7 by omega] at e9
    rw [e9]; rfl
  · obtain ⟨j, hj, ej⟩ := z
    have ea : a = nI (j + 10) := by
      rw [← nI_add, ← ej]
      show a = a - 10 + 10
      grind
    rw [ej, c_nI (by omega)]
    refine ⟨v_in (by omega) (by omega), s_X11_heirTold ?_⟩
    unfold wp_X12_told
    refine s_X12_in (fun _ => ⟨fun g => absurd g (by decide), fun _ => ?_⟩) (fun z => absurd ⟨?_, ?_⟩ z)
    · rw [ej, c_nI (by omega)]
      refine s_X12_isDog (by omega) (fun _ => ⟨fun g => absurd g (by decide), fun _ => ⟨v_in (by omega) (by omega), ?_⟩⟩) (fun z => absurd ⟨j, hj, rfl⟩ z)
      obtain ⟨-, -, -, -, -, -, e7⟩ := hd j hj
      rcases e7 with ⟨g1, g2⟩ | ⟨i, hi, g1, g2⟩
      · rw [if_pos g1, g2]
      · rw [if_neg (by rw [g1]; intro g; exact absurd (i_eq.mp g) (by rw [nI_toInt (by omega), t_m1]; omega)), g1, g2]
    · rw [ea]; exact nI_le (a := 10) (by omega) (by omega)
    · rw [ea]; exact nI_le (b := 16) (by omega) (by omega)
  · unfold wp_X12_told
    refine s_X12_in (fun _ => ⟨fun g => absurd g (by decide), fun _ => s_X12_isDog (by omega) (fun z2 => absurd z2 z) (fun _ => ⟨fun _ => rfl, fun g => absurd rfl g⟩)⟩) (fun _ => ⟨fun _ => ?_, fun g => absurd rfl g⟩)
    exact ⟨fun e => absurd e e0, fun _ => ⟨fun e => absurd e e1, fun _ => ⟨fun e => absurd e e2, fun _ => ⟨fun e => absurd e e3, fun _ => ⟨fun e => absurd e e4, fun _ => ⟨fun _ => rfl, fun e => absurd e e5⟩⟩⟩⟩⟩⟩
