theorem ex_dec {m : Nat} (hm : m ≤ 5) {c j : Nat} (hj : j ≤ fN m) (he : exF m c = if j < fN m then some (sq m j) else none) : (pmB m c = false → exF m (c + 1) = if j < fN m then some (sq m j) else none) ∧ (c < m ^ m → pmB m c = true → j < fN m ∧ dgF m c m = sq m j ∧ exF m (c + 1) = if j + 1 < fN m then some (sq m (j + 1)) else none) := by
  have hm7 : m ≤ 7 := by omega
  refine ⟨fun q => by rw [exF, q]; exact he, fun hc q => ?_⟩
  have h1 := ex_p hm hc q
  have hjl : j < fN m := by
    rcases Nat.lt_or_ge j (fN m) with z | z
    · exact z
    · rw [he, if_neg (by omega)] at h1; simp at h1
  rw [if_pos hjl] at he
  refine ⟨hjl, ?_, ?_⟩
  · exact Option.some.inj (h1.symm.trans he)
  · rw [exF, q, he]
    show nxF m (sq m j) = _
    by_cases z : j + 1 < fN m
    · rw [if_pos z, sq_s hm7 z]
    · rw [if_neg z]
      have := sq_e hm7
      rw [show fN m - 1 = j by omega] at this
      exact this
theorem t_best {n m : Nat} {dogs un mdogs hu mhu qs mqs : Int32} {h lk fr he mh mlk mt mfr mhe ql qr qn mq : Nat → Int32} (H : RR n dogs un h lk fr he mdogs mh mlk mt mfr mhe) (HH : RH hu mhu) (HQ : RC 5 99 m qs ql qr qn mqs mq) {ek em efu eos x1 x2 x3 x4 y1 y2 i : Int32} {eo eoo eme y3 y4 y5 y6 : Nat → Int32} (HE : ¬ ek = 0 → BestSpec n m h lk fr hu ql qr qn em eo) :
    wp_X11_best hu dogs h lk fr qs ql qr qn ek em efu eo eos eoo x1 x2 x3 x4 eme i (fun r ek2 em2 _ eo2 _ _ _ _ _ _ _ => wp_X12_best mdogs mhu mqs y1 y2 mh mlk mfr mq y3 y4 y5 y6 i (fun r2 _ _ _ _ _ _ => r = r2 ∧ (¬ ek2 = 0 → BestSpec n m h lk fr hu ql qr qn em2 eo2))) := by
  have H0 := H
  have hhu := RH_pos HH
  obtain ⟨hn, rfl, rfl, hd, -⟩ := H
  obtain ⟨rfl, hk, hk1, hk9, rfl⟩ := HH
  obtain ⟨hm, rfl, rfl, hq⟩ := HQ
  have hm7 : m ≤ 7 := by omega
  have hN := (fN_fac m (by omega)).2
  have hhm := RR_mh H0
  have hmm := mm_all m (by omega)
  unfold wp_X11_best
  refine s_X3_find hn hm hk1 hk9 (fun j hj => (hq j hj).2.2.2) HE (fun k2 m2 z0 o2 z1 z2 z3 z4 z5 z6 z7 hB => ?_)
  have hBm := BestSpec_congr (qL2 := fun j => mq (3 * j)) (qR2 := fun j => mq (3 * j + 1)) (qN2 := fun j => mq (3 * j + 2)) hm7 (fun d hdn => ⟨(hd d hdn).1, (hd d hdn).2.1, (hd d hdn).2.2.1⟩) (fun j hj => ⟨(hq j hj).1, (hq j hj).2.1, (hq j hj).2.2.1⟩) hB
  have hqn : ∀ j, j < m → 0 ≤ mq (3 * j + 2) ∧ mq (3 * j + 2) ≤ 99 := fun j hj => by rw [← (hq j hj).2.2.1]; exact (hq j hj).2.2.2
  have hmod : ∀ r : Int32, r = (if i = -1 then m2 else if isD' m i then o2 i.toNatClampNeg else -6) → wp_X12_best (nI n) (nI hk) (nI m) y1 y2 mh mlk mfr mq y3 y4 y5 y6 i (fun r2 _ _ _ _ _ _ => r = r2 ∧ (¬ k2 = 0 → BestSpec n m h lk fr (nI hk) ql qr qn m2 o2)) := by
    intro r hr
    unfold wp_X12_best
    refine jn_in ?_
    refine lofE2_1 m (by omega) rfl (fun k s => s = nI (m ^ k)) ?_ ?_ _ (by rw [Nat.pow_zero]; rfl)
    · rintro s rfl
      refine s_X12_byLetters (fun od hod => jn_in ?_)
      obtain ⟨v, hv⟩ : ∃ v : Nat → Int32, v = vB n m mh mlk mfr (nI hk) (fun j => mq (3 * j)) (fun j => mq (3 * j + 1)) (fun j => mq (3 * j + 2)) := ⟨_, rfl⟩
      have hrng : ∀ k, k < fN m → 0 ≤ v k := fun k hk2 => by
        obtain ⟨s, hs, e⟩ := evS_sum (n := n) (h := mh) (lk := mlk) (fr := mfr) (qL := fun j => mq (3 * j)) (qR := fun j => mq (3 * j + 1)) (qN := fun j => mq (3 * j + 2)) (hu := nI hk) hqn m (by omega) (fun i hi => (PM_sq hm7 k hk2).2.1 i hi)
        rw [hv]; unfold vB; rw [e]; exact nI_pos' (by omega)
      unfold BestSpec at hBm
      rw [← hv] at hBm
      refine lofE8_2 (m ^ m) (by omega) rfl (fun c mo fo _ _ _ _ _ => ∃ j, j ≤ fN m ∧ (exF m c = if j < fN m then some (sq m j) else none) ∧ ((j = 0 ∧ mo = -6) ∨ (0 < j ∧ mo = v (bi v (j - 1)) ∧ ∃ fc, fc < m ^ m ∧ fo = nI fc ∧ pmB m fc = true ∧ dgF m fc m = sq m (bi v (j - 1))))) ?_ ?_ _ _ _ _ _ _ _ ⟨0, by omega, by rw [if_pos (by omega)]; rfl, Or.inl ⟨rfl, rfl⟩⟩
      · rintro mo fo c1 c2 c3 c4 c5 ⟨j, hj, he, hst⟩
        have hjN : j = fN m := by
          rcases Nat.lt_or_ge j (fN m) with z | z
          · rw [ex_e hm, if_pos z] at he; simp at he
          · omega
        rcases hst with ⟨e, -⟩ | ⟨-, e1, fc, f1, rfl, f3, f4⟩
        · omega
        · rw [hjN] at e1 f4
          refine s_X12_layEvening hm (by omega) (fun z => by rw [f3] at z; simp at z) (fun _ ev2 hev => ?_)
          have em2 : mo = m2 := by rw [e1, hBm.1]
          refine ⟨fun y => ⟨fun z => absurd z (by decide), fun _ => s_X12_in (fun y2 => ⟨fun z => absurd z (by decide), fun _ => ?_⟩) (fun y2 => ⟨fun _ => ⟨?_, fun _ => hB⟩, fun z => absurd rfl z⟩)⟩, fun y => ⟨?_, fun _ => hB⟩⟩
          · have hD : isD m i := by
              rw [isD_iff (by omega)]
              refine ⟨y2.1, ?_⟩
              have h2 := i_le.mp y2.2
              have h3 : (nI m - 1).toInt = (m : Int) - 1 := pk_sub_toInt (a := m) (b := 1) (by omega) (by omega)
              rw [h3] at h2
              rw [i_lt, nI_toInt (by omega)]; omega
            obtain ⟨p, hp, rfl⟩ := hD
            rw [c_nI (by omega)]
            refine ⟨v_in (by omega) (by omega), ?_, fun _ => hB⟩
            rw [hr, if_neg y, if_pos ((isD'_iff (by omega)).mpr ⟨p, hp, rfl⟩), c_nI (by omega), hBm.2 p hp, hev p hp, f4]
          · rw [hr, if_neg y, if_neg]
            intro g
            have hD := (isD'_iff (by omega)).mp g
            rw [isD_iff (by omega)] at hD
            refine y2 ⟨hD.1, ?_⟩
            have h3 : (nI m - 1).toInt = (m : Int) - 1 := pk_sub_toInt (a := m) (b := 1) (by omega) (by omega)
            have h2 := i_lt.mp hD.2
            rw [nI_toInt (by omega)] at h2
            rw [i_le, h3]; omega
          · rw [hr, if_pos y, em2]
      · rintro c mo fo c1 c2 c3 c4 c5 again hc ⟨j, hj, he, hst⟩ hag
        obtain ⟨hno, hyes⟩ := ex_dec hm hj he
        refine s_X12_layEvening hm (by omega) (fun z ev2 => ⟨fun _ => hag _ _ _ _ _ _ _ ⟨j, hj, hno z, hst⟩, fun y => absurd rfl y⟩) (fun z ev2 hev => ⟨fun y => absurd y (by decide), fun _ => s_X12_nobodyFull (fun f2 hf => jn_in ?_)⟩)
        obtain ⟨hjl, hdg, hnx⟩ := hyes hc z
        have hPj := PM_sq hm7 j hjl
        rw [hdg] at hev
        obtain ⟨S, hS⟩ : ∃ S : Nat → Int32 × (Nat → Int32), S = evS n mh mlk mfr (nI hk) (fun j => mq (3 * j)) (fun j => mq (3 * j + 1)) (fun j => mq (3 * j + 2)) (lg (sq m j)) := ⟨_, rfl⟩
        have hSv : (S m).1 = v j := by rw [hS, hv]; rfl
        refine lofE6_1 m (by omega) rfl (fun k s _ _ _ f => s = (S k).1 ∧ ∀ d, d < n → f d = (S k).2 d) ?_ ?_ _ _ _ _ _ ⟨by rw [hS]; rfl, fun d hdn => by rw [hf d (by omega), hS]; rfl⟩
        · rintro s c6 c7 c8 c9 ⟨rfl, -⟩
          rw [hSv]
          refine ⟨fun y => hag _ _ _ _ _ _ _ ⟨j + 1, by omega, hnx, Or.inr ⟨by omega, ?_⟩⟩, fun y => hag _ _ _ _ _ _ _ ⟨j + 1, by omega, hnx, Or.inr ⟨by omega, ?_⟩⟩⟩
          · rw [show j + 1 - 1 = j by omega]
            rcases hst with ⟨e, em⟩ | ⟨e0, e1, e2⟩
            · have := hrng j hjl
              rw [em, i_le, t_m6] at y
              rw [i_le, t_0] at this
              omega
            · obtain ⟨j, rfl⟩ : ∃ j2, j = j2 + 1 := ⟨j - 1, by omega⟩
              rw [show j + 1 - 1 = j by omega] at e1 e2
              rw [bi, if_neg (by rw [← e1]; exact n_lt.mpr y)]
              exact ⟨e1, e2⟩
          · rw [show j + 1 - 1 = j by omega]
            rcases hst with ⟨e, em⟩ | ⟨e0, e1, e2⟩
            · subst e; exact ⟨rfl, c, hc, rfl, z, hdg⟩
            · obtain ⟨j, rfl⟩ : ∃ j2, j = j2 + 1 := ⟨j - 1, by omega⟩
              rw [show j + 1 - 1 = j by omega] at e1 e2
              rw [bi, if_pos (by rw [← e1]; exact n_le.mp y)]
              exact ⟨rfl, c, hc, rfl, z, hdg⟩
        · rintro k s c6 c7 c8 f again2 hkm ⟨rfl, hfd⟩ hag2
          have hq5 := hPj.2.1 k hkm
          rw [c_nI (show k < 64 by omega), hev k hkm, show (3 : Int32) * nI (lg (sq m j) k) = nI (3 * lg (sq m j) k) from pk_mul 3 _, show nI (3 * lg (sq m j) k) + (1 : Int32) = nI (3 * lg (sq m j) k + 1) from nI_add _ 1, show nI (3 * lg (sq m j) k) + (2 : Int32) = nI (3 * lg (sq m j) k + 2) from nI_add _ 2, nI_clamp (show 3 * lg (sq m j) k < 2 ^ 31 by omega), nI_clamp (show 3 * lg (sq m j) k + 1 < 2 ^ 31 by omega), nI_clamp (show 3 * lg (sq m j) k + 2 < 2 ^ 31 by omega)]
          refine ⟨v_in (by omega) (by omega), v_in (by omega) (by omega), v_in (by omega) (by omega), ?_⟩
          have eV : vfold n mh mlk mfr (fun d => if f d < nI hk then mq (3 * lg (sq m j) k) - mq (3 * lg (sq m j) k + 1) else 0) id (fun x => decide (nI (id x) = -6)) n = evV n mh mlk mfr (nI hk) (S k).2 (mq (3 * lg (sq m j) k)) (mq (3 * lg (sq m j) k + 1)) := by
            refine vfold_congr n (fun x hx => ⟨rfl, decide_eq_false (nI_ne6 (by show x < 1000; omega)), fun _ => ⟨rfl, rfl, rfl, ?_⟩⟩)
            show (if f x < nI hk then mq (3 * lg (sq m j) k) - mq (3 * lg (sq m j) k + 1) else 0) = (if (S k).2 x < nI hk then mq (3 * lg (sq m j) k) - mq (3 * lg (sq m j) k + 1) else 0)
            rw [hfd x hx]
          refine s_X12_letGo (o := id) hn (fun x hx => ⟨hx, hod x (by omega)⟩) hhm (fun w2 f3 hw2 hf3 _ => s_X12_winner (jn_in ?_))
          rw [eV] at hw2 ⊢
          have hSk : S (k + 1) = ((S k).1 + (if win (evV n mh mlk mfr (nI hk) (S k).2 (mq (3 * lg (sq m j) k)) (mq (3 * lg (sq m j) k + 1))).1 (evV n mh mlk mfr (nI hk) (S k).2 (mq (3 * lg (sq m j) k)) (mq (3 * lg (sq m j) k + 1))).2.1 = 0 then mq (3 * lg (sq m j) k + 2) else 0), fun d => nxtFill (S k).2 (evV n mh mlk mfr (nI hk) (S k).2 (mq (3 * lg (sq m j) k)) (mq (3 * lg (sq m j) k + 1))).2.2 (mq (3 * lg (sq m j) k)) (mq (3 * lg (sq m j) k + 1)) d) := by
            rw [hS]; rfl
          have hfill : ∀ d, d < n → f3 d = (S (k + 1)).2 d := by
            intro d hdn
            rw [hf3 d hdn, hSk]
            unfold nxtFill
            dsimp only
            rw [hfd d hdn, hw2 d (by omega)]
          refine ⟨fun y => hag2 _ _ _ _ _ ⟨?_, hfill⟩, fun y => ⟨v_in (by omega) (by omega), hag2 _ _ _ _ _ ⟨?_, hfill⟩⟩⟩
          · rw [hSk, if_neg y]
          · rw [hSk, if_pos y]
    · rintro k s again hkm rfl hag
      refine hag _ ?_
      rw [pk_mul, Nat.pow_succ]
  refine ⟨fun y => ⟨fun y2 => hmod _ ?_, fun y2 => ⟨fun y3 => hmod _ ?_, fun y3 => ?_⟩⟩, fun y => hmod _ (by rw [if_pos y])⟩
  · rw [if_neg y, if_neg]
    intro g
    obtain ⟨j, hj, rfl⟩ := (isD'_iff (by omega)).mp g
    exact nI_pos (by omega) y2
  · rw [if_neg y, if_neg]
    intro g
    obtain ⟨j, hj, rfl⟩ := (isD'_iff (by omega)).mp g
    have := (nI_leI (by omega) (by omega)).mp y3
    omega
  · have hD : isD m i := (isD_iff (by omega)).mpr ⟨n_lt.mp y2, n_le.mp y3⟩
    refine ⟨?_, hmod _ (by rw [if_neg y, if_pos ((isD'_iff (by omega)).mpr hD)])⟩
    obtain ⟨j, hj, rfl⟩ := hD
    exact v_in (by omega) (by omega)
