theorem lor8 {A0 A1 A2 A3 A4 A5 A6 A7 : Type} {bot : A0 → A1 → A2 → A3 → A4 → A5 → A6 → A7 → Prop} {F : (A0 → A1 → A2 → A3 → A4 → A5 → A6 → A7 → Prop) → A0 → A1 → A2 → A3 → A4 → A5 → A6 → A7 → Prop} (I : Nat → A0 → A1 → A2 → A3 → A4 → A5 → A6 → A7 → Prop) (hs : ∀ (m : Nat) (a0 : A0) (a1 : A1) (a2 : A2) (a3 : A3) (a4 : A4) (a5 : A5) (a6 : A6) (a7 : A7) (again : A0 → A1 → A2 → A3 → A4 → A5 → A6 → A7 → Prop), I m a0 a1 a2 a3 a4 a5 a6 a7 → (∀ (m2 : Nat) (b0 : A0) (b1 : A1) (b2 : A2) (b3 : A3) (b4 : A4) (b5 : A5) (b6 : A6) (b7 : A7), m2 < m → I m2 b0 b1 b2 b3 b4 b5 b6 b7 → again b0 b1 b2 b3 b4 b5 b6 b7) → F again a0 a1 a2 a3 a4 a5 a6 a7) (m : Nat) (a0 : A0) (a1 : A1) (a2 : A2) (a3 : A3) (a4 : A4) (a5 : A5) (a6 : A6) (a7 : A7) (h : I m a0 a1 a2 a3 a4 a5 a6 a7) : lo bot F (fun r => r a0 a1 a2 a3 a4 a5 a6 a7) := by
  have key : ∀ (f m : Nat) (a0 : A0) (a1 : A1) (a2 : A2) (a3 : A3) (a4 : A4) (a5 : A5) (a6 : A6) (a7 : A7), m < f → I m a0 a1 a2 a3 a4 a5 a6 a7 → wl bot F f a0 a1 a2 a3 a4 a5 a6 a7 := by
    intro f
    induction f with
    | zero => intro m a0 a1 a2 a3 a4 a5 a6 a7 h; exact absurd h (Nat.not_lt_zero _)
    | succ f ih => intro m a0 a1 a2 a3 a4 a5 a6 a7 h hI; exact hs m a0 a1 a2 a3 a4 a5 a6 a7 _ hI (fun m2 b0 b1 b2 b3 b4 b5 b6 b7 h2 hb => ih m2 b0 b1 b2 b3 b4 b5 b6 b7 (Nat.lt_of_lt_of_le h2 (Nat.le_of_lt_succ h)) hb)
  exact ⟨_, key (m + 1) m a0 a1 a2 a3 a4 a5 a6 a7 (Nat.lt_succ_self _) h⟩

def vo (n : Nat) (h lk fr : Nat → Int32) (lead : Int32) (l : List Nat) : VS := vfold n h lk fr (fun _ => lead) (lg l) (fun _ => false) n
def vL (n : Nat) (h lk fr : Nat → Int32) (lead : Int32) (k : Nat) : Int32 := (vo n h lk fr lead (sq n k)).1
def bi (v : Nat → Int32) : Nat → Nat
  | 0 => 0
  | k + 1 => if v (bi v k) < v (k + 1) then k + 1 else bi v k
theorem bi_le (v : Nat → Int32) : ∀ k, bi v k ≤ k
  | 0 => Nat.le_refl _
  | k + 1 => by
    have := bi_le v k
    rw [bi]
    by_cases q : v (bi v k) < v (k + 1)
    · rw [if_pos q]; exact Nat.le_refl _
    · rw [if_neg q]; omega
theorem bi_stop {v : Nat → Int32} {A : Int32} {N k : Nat} (h1 : ∀ j, j < N → v j ≤ A) (h2 : A ≤ v (bi v k)) : ∀ d, k + d < N → bi v (k + d) = bi v k
  | 0, _ => rfl
  | d + 1, h => by
    have ih := bi_stop h1 h2 d (by omega)
    rw [show k + (d + 1) = (k + d) + 1 by omega, bi, ih, if_neg]
    have h3 := h1 (k + d + 1) (by omega)
    exact n_lt.mpr (i_le.mpr (by rw [i_le] at h2 h3; omega))
theorem bi_congr {v v2 : Nat → Int32} {N : Nat} (h : ∀ j, j < N → v j = v2 j) : ∀ k, k < N → bi v k = bi v2 k
  | 0, _ => rfl
  | k + 1, hk => by
    have ih := bi_congr h k (by omega)
    have := bi_le v2 k
    rw [bi, bi, ih, h _ (by omega), h (k + 1) hk]
def LetSpec (n : Nat) (h lk fr : Nat → Int32) (lead most : Int32) (order : Nat → Int32) : Prop := most = vL n h lk fr lead (bi (vL n h lk fr lead) (fN n - 1)) ∧ ∀ i, i < n → order i = nI (lg (sq n (bi (vL n h lk fr lead) (fN n - 1))) i)
theorem vL_congr {n : Nat} (hn : n ≤ 7) {h lk fr h2 lk2 fr2 : Nat → Int32} {lead : Int32} (e : ∀ d, d < n → h d = h2 d ∧ lk d = lk2 d ∧ fr d = fr2 d) {k : Nat} (hk : k < fN n) : vL n h lk fr lead k = vL n h2 lk2 fr2 lead k := by
  unfold vL vo
  rw [vfold_congr n (fun i hi => ⟨rfl, rfl, fun _ => ?_⟩)]
  have hd := (PM_sq hn k hk).2.1 i hi
  obtain ⟨e1, e2, e3⟩ := e _ hd
  exact ⟨e1, e2, e3, rfl⟩
theorem LetSpec_congr {n : Nat} (hn : n ≤ 7) {h lk fr h2 lk2 fr2 : Nat → Int32} {lead most : Int32} {order : Nat → Int32} (e : ∀ d, d < n → h d = h2 d ∧ lk d = lk2 d ∧ fr d = fr2 d) (H : LetSpec n h lk fr lead most order) : LetSpec n h2 lk2 fr2 lead most order := by
  have hN := (fN_fac n (by omega)).2.1
  have eb := bi_congr (v := vL n h lk fr lead) (v2 := vL n h2 lk2 fr2 lead) (N := fN n) (fun j hj => vL_congr (lead := lead) hn e hj) (fN n - 1) (by omega)
  have hb := bi_le (vL n h2 lk2 fr2 lead) (fN n - 1)
  unfold LetSpec at H ⊢
  rw [eb, vL_congr hn e (by omega)] at H
  exact H
/-! HALVES that are LEFT are no more than all -/
def sS (hn : Nat → Nat) (w : Nat → Int32) : Nat → Nat
  | 0 => 0
  | k + 1 => sS hn w k + (if w k = 0 then hn k else 0)
def sT (hn : Nat → Nat) : Nat → Nat
  | 0 => 0
  | k + 1 => sT hn k + hn k
theorem sS_le (hn : Nat → Nat) (w : Nat → Int32) : ∀ k, sS hn w k ≤ sT hn k
  | 0 => Nat.le_refl _
  | k + 1 => by
    have := sS_le hn w k
    rw [sS, sT]
    by_cases q : w k = 0
    · rw [if_pos q]; omega
    · rw [if_neg q]; omega
theorem sS_out {hn : Nat → Nat} {w : Nat → Int32} {d : Nat} {b : Int32} : ∀ k, k ≤ d → sS hn (upd w d b) k = sS hn w k
  | 0, _ => rfl
  | k + 1, h => by rw [sS, sS, sS_out k (by omega), u_n (by omega)]
theorem sS_upd {hn : Nat → Nat} {w : Nat → Int32} {d : Nat} {b : Int32} (hw : w d = 2) : ∀ k, d < k → sS hn (upd w d b) k = sS hn w k + (if b = 0 then hn d else 0)
  | 0, h => absurd h (Nat.not_lt_zero _)
  | k + 1, h => by
    rw [sS, sS]
    by_cases e : d = k
    · subst e
      rw [sS_out d (Nat.le_refl _), u_s, hw]
      rw [if_neg (show ¬ (2 : Int32) = 0 by decide)]
      omega
    · rw [sS_upd hw k (by omega), u_n (by omega)]; omega
theorem vf_sum {n : Nat} (hn7 : n ≤ 7) {h lk fr ld : Nat → Int32} {hn : Nat → Nat} (hh : ∀ d, d < n → h d = nI (hn d)) {l : List Nat} (hP : PM n l) : ∀ k, k ≤ n → (vfold n h lk fr ld (lg l) (fun _ => false) k).1 = nI (sS hn (vfold n h lk fr ld (lg l) (fun _ => false) k).2.2 n)
  | 0, _ => by
    have : ∀ k, sS hn (fun _ => 2) k = 0 := by
      intro k
      induction k with
      | zero => rfl
      | succ k ih => rw [sS, ih, if_neg (show ¬ (2 : Int32) = 0 by decide)]
    show (0 : Int32) = nI (sS hn (fun _ => 2) n)
    rw [this]; rfl
  | k + 1, hk => by
    have ih := vf_sum hn7 hh hP (lk := lk) (fr := fr) (ld := ld) k (by omega)
    have hw : (vfold n h lk fr ld (lg l) (fun _ => false) k).2.2 (lg l k) = 2 := vfold_home k _ (fun i hi e => by
      have := hP.2.2 i k (by omega) (by omega) e; omega)
    have hd := hP.2.1 k (by omega)
    rw [vfold, if_neg (by simp)]
    generalize vfold n h lk fr ld (lg l) (fun _ => false) k = s at ih hw
    rw [vstep]
    by_cases q : h (lg l k) = 0
    · rw [if_pos q]; exact ih
    · rw [if_neg q]
      dsimp only
      rw [sS_upd hw n hd, ← nI_add, ← ih]
      by_cases z : vbw n lk fr ld s (lg l k) = 0
      · rw [if_pos z, if_pos z, hh _ hd]
      · rw [if_neg z, if_neg z]; rfl
theorem al_sum {n : Nat} {h : Nat → Int32} {hn : Nat → Nat} (hh : ∀ d, d < n → h d = nI (hn d)) : ∀ k, k ≤ n → al h k = nI (sT hn k)
  | 0, _ => rfl
  | k + 1, hk => by rw [al, sT, al_sum hh k (by omega), hh k (by omega), nI_add]
theorem sT_le {hn : Nat → Nat} : ∀ k, (∀ d, d < k → hn d ≤ 9) → sT hn k ≤ 9 * k
  | 0, _ => Nat.le_refl _
  | k + 1, h => by
    have := sT_le k (fun d hd => h d (by omega))
    have := h k (by omega)
    rw [sT]; omega
/-- any order: LEFT has from 0 to all -/
theorem vo_rng {n : Nat} (hn7 : n ≤ 7) {h lk fr : Nat → Int32} {lead : Int32} (hh : ∀ d, d < n → ∃ a : Nat, a ≤ 9 ∧ h d = nI a) {l : List Nat} (hP : PM n l) : 0 ≤ (vo n h lk fr lead l).1 ∧ (vo n h lk fr lead l).1 ≤ al h n ∧ 0 ≤ al h n := by
  obtain ⟨hn, hhn⟩ : ∃ hn : Nat → Nat, ∀ d, hn d = (h d).toNatClampNeg := ⟨_, fun _ => rfl⟩
  have e : ∀ d, d < n → h d = nI (hn d) ∧ hn d ≤ 9 := by
    intro d hd
    obtain ⟨a, ha, e⟩ := hh d hd
    rw [hhn, e, c_nI (by omega)]; exact ⟨rfl, ha⟩
  unfold vo
  rw [vf_sum hn7 (fun d hd => (e d hd).1) hP n (Nat.le_refl _), al_sum (fun d hd => (e d hd).1) n (Nat.le_refl _)]
  have h1 := sS_le hn (vfold n h lk fr (fun _ => lead) (lg l) (fun _ => false) n).2.2 n
  have h2 := sT_le n (fun d hd => (e d hd).2)
  exact ⟨nI_pos' (by omega), nI_le h1 (by omega), nI_pos' (by omega)⟩
theorem s_X4_keepIfMore {n : Nat} (hn : n ≤ 7) {most x1 x2 x3 x4 lead : Int32} {order oo h lk fr : Nat → Int32} {l : List Nat} (hP : PM n l) (hA : AR n oo l) {post : Int32 → (Nat → Int32) → Int32 → Int32 → Int32 → Int32 → Prop}
    (h0 : (vo n h lk fr lead l).1 ≤ most → ∀ z1 z2 z3 z4, post most order z1 z2 z3 z4) (h1 : ¬ (vo n h lk fr lead l).1 ≤ most → ∀ o2 z1 z2 z3 z4, (∀ i, i < n → o2 i = nI (lg l i)) → post (vo n h lk fr lead l).1 o2 z1 z2 z3 z4) :
    wp_X4_keepIfMore most order (nI n) oo x1 x2 x3 x4 (nI n) h lk fr lead post := by
  unfold wp_X4_keepIfMore wp_X0_open
  refine jn_in (lofE5_0 n (by omega) rfl (fun k a b lm rm => a = (vfold n h lk fr (fun _ => lead) (lg l) (fun _ => false) k).1 ∧ b = (vfold n h lk fr (fun _ => lead) (lg l) (fun _ => false) k).2.1 ∧ MR n (vfold n h lk fr (fun _ => lead) (lg l) (fun _ => false) k).2.2 lm rm) ?_ ?_ _ _ _ _ ⟨rfl, rfl, MR_0⟩)
  · rintro a b lm rm ⟨rfl, rfl, hM⟩
    exact ⟨fun q => h0 q _ _ _ _, fun q => h1 q _ _ _ _ _ (fun i hi => by rw [cpy7 _ _ (by omega)]; exact hA i hi)⟩
  · rintro k a b lm rm again hk ⟨rfl, rfl, hM⟩ hag
    rw [c_nI (by omega), hA k hk]
    refine ⟨v_in (by omega) (by omega), s_X0_send (ld := fun _ => lead) hn (hP.2.1 k hk) hM (vfold_home k _ (fun i hi e => by
      have := hP.2.2 i k (by omega) hk e; omega)) rfl (fun lm2 rm2 hM2 => hag _ _ _ _ ?_)⟩
    rw [vfold, if_neg (by simp)]
    exact ⟨rfl, rfl, hM2⟩
theorem s_X4_find {n : Nat} (hn : n ≤ 7) {known kl most osz x1 x2 x3 x4 lead : Int32} {order oo h lk fr : Nat → Int32} (hh : ∀ d, d < n → ∃ a : Nat, a ≤ 9 ∧ h d = nI a) (hG : ¬ known = 0 → LetSpec n h lk fr kl most order) {post : Int32 → Int32 → Int32 → (Nat → Int32) → Int32 → (Nat → Int32) → Int32 → Int32 → Int32 → Int32 → Prop}
    (hp : ∀ k2 m2 o2 z1 z2 z3 z4 z5 z6, LetSpec n h lk fr lead m2 o2 → post k2 lead m2 o2 z1 z2 z3 z4 z5 z6) : wp_X4_find known kl most order osz oo x1 x2 x3 x4 (nI n) h lk fr lead post := by
  have hN := (fN_fac n (by omega)).2
  unfold wp_X4_find
  refine jn_in ?_
  have hrun : wp_X9_living (nI n) h (fun (r_1 : Int32) => wp_X9_halvesOf (nI n) h r_1 (fun (r_2 : Int32) => wp_X6_begin osz oo (nI n) (fun (r_3 : Int32) (zorders_size_4 : Int32) (zorders_order_5 : Nat → Int32) => jn (fun (zmost_6 : Int32) (zorder_7 : Nat → Int32) (zorders_order_8 : Nat → Int32) (zballot_left_9 : Int32) (zballot_right_10 : Int32) (zballot_leftDogs_11 : Int32) (zballot_rightDogs_12 : Int32) => post (1 : Int32) lead zmost_6 zorder_7 zorders_size_4 zorders_order_8 zballot_left_9 zballot_right_10 zballot_leftDogs_11 zballot_rightDogs_12) (fun (J80 : Int32 → (Nat → Int32) → (Nat → Int32) → Int32 → Int32 → Int32 → Int32 → Prop) => lo (fun _ _ _ _ _ _ _ _ => False) (fun (G46 : Int32 → Int32 → (Nat → Int32) → (Nat → Int32) → Int32 → Int32 → Int32 → Int32 → Prop) (x5_13 : Int32) (zmost_14 : Int32) (zorder_15 : Nat → Int32) (zorders_order_16 : Nat → Int32) (zballot_left_17 : Int32) (zballot_right_18 : Int32) (zballot_leftDogs_19 : Int32) (zballot_rightDogs_20 : Int32) => ((r_3 ≤ x5_13 → J80 zmost_14 zorder_15 zorders_order_16 zballot_left_17 zballot_right_18 zballot_leftDogs_19 zballot_rightDogs_20) ∧ (¬ r_3 ≤ x5_13 → ((r_2 ≤ zmost_14 → J80 zmost_14 zorder_15 zorders_order_16 zballot_left_17 zballot_right_18 zballot_leftDogs_19 zballot_rightDogs_20) ∧ (¬ r_2 ≤ zmost_14 → wp_X4_keepIfMore zmost_14 zorder_15 zorders_size_4 zorders_order_16 zballot_left_17 zballot_right_18 zballot_leftDogs_19 zballot_rightDogs_20 (nI n) h lk fr lead (fun (zmost_22 : Int32) (zorder_23 : Nat → Int32) (zballot_left_24 : Int32) (zballot_right_25 : Int32) (zballot_leftDogs_26 : Int32) (zballot_rightDogs_27 : Int32) => wp_X6_advance zorders_size_4 zorders_order_16 (fun (zorders_order_29 : Nat → Int32) => G46 (x5_13 + (1 : Int32)) zmost_22 zorder_23 zorders_order_29 zballot_left_24 zballot_right_25 zballot_leftDogs_26 zballot_rightDogs_27))))))) (fun G46 => G46 (0 : Int32) (-1 : Int32) order zorders_order_5 x1 x2 x3 x4))))) := by
    refine s_X9_living hn (fun lv hl => s_X9_halvesOf hn (s_X6_begin hn (fun od2 hod => jn_in ?_)))
    rw [sm_al hn hl n (Nat.le_refl _)]
    obtain ⟨v, hv⟩ : ∃ v : Nat → Int32, v = vL n h lk fr lead := ⟨_, rfl⟩
    have hrng : ∀ k, k < fN n → 0 ≤ v k ∧ v k ≤ al h n ∧ 0 ≤ al h n := fun k hk => by rw [hv]; exact vo_rng hn hh (PM_sq hn k hk)
    refine lofE8_0 (fN n) (by omega) rfl (fun k m o oo2 _ _ _ _ => ((k = 0 ∧ m = -1) ∨ (0 < k ∧ m = v (bi v (k - 1)) ∧ ∀ i, i < n → o i = nI (lg (sq n (bi v (k - 1))) i))) ∧ AR n oo2 (sq n (if k < fN n then k else fN n - 1))) ?_ ?_ _ _ _ _ _ _ _ ⟨Or.inl ⟨rfl, rfl⟩, by rw [if_pos (by omega), sq_0]; exact hod⟩
    · rintro m o oo2 z1 z2 z3 z4 ⟨hm, -⟩
      rcases hm with ⟨e, -⟩ | ⟨-, e1, e2⟩
      · omega
      · exact hp _ _ _ _ _ _ _ _ _ ⟨by rw [e1, hv], by rw [← hv]; exact e2⟩
    · rintro k m o oo2 z1 z2 z3 z4 again hk ⟨hm, hA⟩ hag
      rw [if_pos hk] at hA
      have hPk := PM_sq hn k hk
      refine ⟨fun q => ?_, fun q => ?_⟩
      · rcases hm with ⟨e, em⟩ | ⟨e0, e1, e2⟩
        · have := (hrng 0 (by omega)).2.2
          rw [em, i_le, t_m1] at q
          rw [i_le, t_0] at this
          omega
        · rw [e1] at q
          have hb := bi_stop (N := fN n) (k := k - 1) (fun j hj => (hrng j hj).2.1) q (fN n - 1 - (k - 1)) (by omega)
          rw [show k - 1 + (fN n - 1 - (k - 1)) = fN n - 1 by omega] at hb
          refine hp _ _ _ _ _ _ _ _ _ ⟨?_, ?_⟩
          · rw [e1, ← hv, hb]
          · rw [← hv, hb]; exact e2
      · have hadv : ∀ m2 (o2 : Nat → Int32), (m2 = v (bi v k) ∧ ∀ i, i < n → o2 i = nI (lg (sq n (bi v k)) i)) → ∀ z1 z2 z3 z4, wp_X6_advance (nI n) oo2 (fun (zorders_order_29 : Nat → Int32) => again (nI k + (1 : Int32)) m2 o2 zorders_order_29 z1 z2 z3 z4) := by
          intro m2 o2 hmo z1 z2 z3 z4
          refine s_X6_advance hn hPk hA (fun e => hag _ _ _ _ _ _ _ ⟨Or.inr ⟨by omega, hmo⟩, ?_⟩) (fun l2 od3 e h3 => hag _ _ _ _ _ _ _ ⟨Or.inr ⟨by omega, hmo⟩, ?_⟩)
          · have hl : ¬ k + 1 < fN n := fun z => by rw [sq_s hn z] at e; simp at e
            rw [if_neg hl, show fN n - 1 = k by omega]; exact hA
          · have hl : k + 1 < fN n := by
              rcases Nat.lt_or_ge (k + 1) (fN n) with z | z
              · exact z
              · have := sq_e hn
                rw [show fN n - 1 = k by omega, e] at this
                simp at this
            rw [sq_s hn hl] at e
            cases e
            rw [if_pos hl]; exact h3
        have evk : (vo n h lk fr lead (sq n k)).1 = v k := by rw [hv]; rfl
        refine s_X4_keepIfMore hn hPk hA (fun z y1 y2 y3 y4 => hadv _ _ ?_ _ _ _ _) (fun z o2 y1 y2 y3 y4 ho => hadv _ _ ?_ _ _ _ _)
        · rw [evk] at z
          rcases hm with ⟨e, em⟩ | ⟨e0, e1, e2⟩
          · have := (hrng k hk).1
            rw [em, i_le, t_m1] at z
            rw [i_le, t_0] at this
            omega
          · obtain ⟨k, rfl⟩ : ∃ k2, k = k2 + 1 := ⟨k - 1, by omega⟩
            rw [show k + 1 - 1 = k by omega] at e1 e2
            rw [bi, if_neg (by rw [← e1]; exact n_lt.mpr z)]
            exact ⟨e1, e2⟩
        · rw [evk] at z ⊢
          rcases hm with ⟨e, em⟩ | ⟨e0, e1, e2⟩
          · subst e; exact ⟨rfl, ho⟩
          · obtain ⟨k, rfl⟩ : ∃ k2, k = k2 + 1 := ⟨k - 1, by omega⟩
            rw [show k + 1 - 1 = k by omega] at e1 e2
            rw [bi, if_pos (by rw [← e1]; exact n_le.mp z)]
            exact ⟨rfl, ho⟩
  refine ⟨fun _ => hrun, fun q => ⟨fun _ => hrun, fun z => ?_⟩⟩
  have := hG q
  rw [z] at this ⊢
  exact hp _ _ _ _ _ _ _ _ _ this
def isD' (n : Nat) (d : Int32) : Bool := decide (0 ≤ d) && decide (d < nI n)
theorem isD'_iff {n : Nat} {d : Int32} (hn : n < 1000) : isD' n d = true ↔ isD n d := by
  unfold isD'
  rw [isD_iff hn, Bool.and_eq_true, decide_eq_true_eq, decide_eq_true_eq]
theorem s_X12_keepOrder {od bs : Nat → Int32} {post : (Nat → Int32) → Prop} (h : ∀ b2 : Nat → Int32, (∀ i, i < 7 → b2 i = od i) → post b2) : wp_X12_keepOrder od bs post := by
  unfold wp_X12_keepOrder
  refine lofE2_0 7 (by omega) rfl (fun k o2 => ∀ i, i < k → o2 i = od i) (fun o2 ho => h o2 ho) ?_ _ (fun i hi => absurd hi (Nat.not_lt_zero _))
  intro k o2 again hk ho hag
  rw [c_nI (by omega)]
  refine ⟨v_in hk (by omega), v_in hk (by omega), hag _ (fun i hi => ?_)⟩
  by_cases e : i = k
  · subst e; rw [u_s]
  · rw [u_n e]; exact ho i (by omega)
theorem t_letOut {n : Nat} {dogs un mdogs hu mhu : Int32} {h lk fr he mh mlk mt mfr mhe : Nat → Int32} (H : RR n dogs un h lk fr he mdogs mh mlk mt mfr mhe) (HH : RH hu mhu) {gk kl gm gos x1 x2 x3 x4 y1 y2 a b i : Int32} {go goo y3 y4 y5 y6 : Nat → Int32} (HG : ¬ gk = 0 → LetSpec n h lk fr kl gm go) :
    wp_X11_letOut dogs h lk fr gk kl gm go gos goo x1 x2 x3 x4 a b i (fun r gk2 kl2 gm2 go2 _ _ _ _ _ _ => wp_X12_letOut mdogs mhu y1 y2 mh mlk mfr y3 y4 y5 y6 a b i (fun r2 _ _ _ _ _ _ => r = r2 ∧ (¬ gk2 = 0 → LetSpec n h lk fr kl2 gm2 go2))) := by
  have H0 := H
  obtain ⟨hn, rfl, rfl, hd, -⟩ := H
  have hN := (fN_fac n (by omega)).2
  have hhc : ∀ d, d < n → ∃ a : Nat, a ≤ 9 ∧ h d = nI a := fun d hdn => (hd d hdn).2.2.2.1
  have hhm := RR_mh H0
  unfold wp_X11_letOut
  refine s_X11_areLivers (fun q => ⟨fun _ => s_X4_find hn hhc HG (fun k2 m2 o2 z1 z2 z3 z4 z5 z6 hL => ?_), fun e => absurd e (by decide)⟩) (fun q => ⟨fun e => absurd rfl e, fun _ => ?_⟩)
  · have hLm := LetSpec_congr hn (fun d hdn => ⟨(hd d hdn).1, (hd d hdn).2.1, (hd d hdn).2.2.1⟩) hL
    have hm : ∀ r : Int32, r = (if i = -1 then m2 else if isD' n i then o2 i.toNatClampNeg else -6) → wp_X12_letOut (nI n) mhu y1 y2 mh mlk mfr y3 y4 y5 y6 a b i (fun r2 _ _ _ _ _ _ => r = r2 ∧ (¬ k2 = 0 → LetSpec n h lk fr (a - b) m2 o2)) := by
      rintro r hr
      unfold wp_X12_letOut
      refine s_X12_areLivers (fun _ => ⟨fun _ => s_X12_byLetters (fun od hod => jn_in ?_), fun e => absurd e (by decide)⟩) (fun z => absurd q z)
      obtain ⟨v, hv⟩ : ∃ v : Nat → Int32, v = vL n mh mlk mfr (a - b) := ⟨_, rfl⟩
      have hrng : ∀ k, k < fN n → 0 ≤ v k ∧ v k ≤ al mh n ∧ 0 ≤ al mh n := fun k hk => by rw [hv]; exact vo_rng hn hhm (PM_sq hn k hk)
      refine lor8 (I := fun m x4 x5 _ _ od2 _ _ bs => (x5 = 1 ∧ ∃ k, k < fN n ∧ m = fN n - k ∧ AR n od2 (sq n k) ∧ ((k = 0 ∧ x4 = -6) ∨ (0 < k ∧ x4 = v (bi v (k - 1)) ∧ ∀ i, i < n → bs i = nI (lg (sq n (bi v (k - 1))) i)))) ∨ (m = 0 ∧ x5 = 0 ∧ x4 = v (bi v (fN n - 1)) ∧ ∀ i, i < n → bs i = nI (lg (sq n (bi v (fN n - 1))) i))) ?_ (fN n - 0) _ _ _ _ _ _ _ _ (Or.inl ⟨rfl, 0, by omega, rfl, by rw [sq_0]; intro i hi; rw [lg_range hi]; exact hod i (by omega), Or.inl ⟨rfl, rfl⟩⟩)
      rintro m c4 c5 c1 c2 od2 c6 c7 bs again hI hag
      refine ⟨fun z => ?_, fun z => ?_⟩
      · rcases hI with ⟨e, -⟩ | ⟨-, -, e1, e2⟩
        · rw [e] at z; exact absurd z (by decide)
        · have em : c4 = m2 := by rw [e1, hLm.1, hv]
          refine ⟨fun y => s_X12_isDog (by omega) (fun y2 => ⟨fun e => absurd e (by decide), fun _ => ?_⟩) (fun y2 => ⟨fun _ => ⟨?_, fun _ => hL⟩, fun e => absurd rfl e⟩), fun y => ⟨?_, fun _ => hL⟩⟩
          · obtain ⟨j, hj, rfl⟩ := y2
            rw [c_nI (by omega)]
            refine ⟨v_in (by omega) (by omega), ?_, fun _ => hL⟩
            rw [hr, if_neg y, if_pos ((isD'_iff (by omega)).mpr ⟨j, hj, rfl⟩), c_nI (by omega), hLm.2 j hj, e2 j hj, hv]
          · rw [hr, if_neg y, if_neg (fun g => y2 ((isD'_iff (by omega)).mp g))]
          · rw [hr, if_pos y, em]
      · rcases hI with ⟨-, k, hk, em, hA, hst⟩ | ⟨-, e, -⟩
        · have hPk := PM_sq hn k hk
          refine s_X12_nobodyFull (fun f2 hf => ?_)
          have ev : vfold n mh mlk mfr (fun d => if f2 d < mhu then a - b else 0) (lg (sq n k)) (fun j => decide (nI (lg (sq n k) j) = -6)) n = vo n mh mlk mfr (a - b) (sq n k) := by
            refine vfold_congr n (fun j hj => ⟨rfl, ?_, fun _ => ⟨rfl, rfl, rfl, ?_⟩⟩)
            · exact decide_eq_false (nI_ne6 (by have := hPk.2.1 j hj; omega))
            · have := hPk.2.1 j hj
              show (if f2 (lg (sq n k) j) < mhu then a - b else 0) = a - b
              rw [hf _ (by omega), if_pos (RH_pos HH)]
          refine s_X12_letGo (o := lg (sq n k)) hn (fun j hj => ⟨hPk.2.1 j hj, hA j hj⟩) hhm (fun w2 f3 _ _ _ => jn_in ?_)
          rw [ev]
          have evk : (vo n mh mlk mfr (a - b) (sq n k)).1 = v k := by rw [hv]; rfl
          rw [evk]
          have hadv : ∀ m3 (b3 : Nat → Int32), (m3 = v (bi v k) ∧ ∀ i, i < n → b3 i = nI (lg (sq n (bi v k)) i)) → wp_X12_nextOrder od2 (nI n) (fun (r_29 : Int32) (zorder_30 : Nat → Int32) => again m3 r_29 (v k) (vo n mh mlk mfr (a - b) (sq n k)).2.1 zorder_30 w2 f3 b3) := by
            intro m3 b3 hmb
            refine s_X12_nextOrder hn hPk hA (fun e => hag 0 _ _ _ _ _ _ _ _ (by omega) (Or.inr ⟨rfl, rfl, ?_⟩)) (fun l2 od3 e h3 => hag (fN n - (k + 1)) _ _ _ _ _ _ _ _ (by omega) (Or.inl ⟨rfl, k + 1, ?_, rfl, ?_, Or.inr ⟨by omega, hmb⟩⟩))
            · have hl : ¬ k + 1 < fN n := fun z => by rw [sq_s hn z] at e; simp at e
              rw [show fN n - 1 = k by omega]; exact hmb
            · rcases Nat.lt_or_ge (k + 1) (fN n) with z | z
              · exact z
              · have := sq_e hn
                rw [show fN n - 1 = k by omega, e] at this
                simp at this
            · have hl : k + 1 < fN n := by
                rcases Nat.lt_or_ge (k + 1) (fN n) with z | z
                · exact z
                · have := sq_e hn
                  rw [show fN n - 1 = k by omega, e] at this
                  simp at this
              rw [sq_s hn hl] at e
              cases e
              exact h3
          refine ⟨fun y => hadv _ _ ?_, fun y => s_X12_keepOrder (fun b2 hb2 => hadv _ _ ?_)⟩
          · rcases hst with ⟨e, e4⟩ | ⟨e0, e1, e2⟩
            · have := (hrng k hk).1
              rw [e4, i_le, t_m6] at y
              rw [i_le, t_0] at this
              omega
            · obtain ⟨k, rfl⟩ : ∃ k2, k = k2 + 1 := ⟨k - 1, by omega⟩
              rw [show k + 1 - 1 = k by omega] at e1 e2
              rw [bi, if_neg (by rw [← e1]; exact n_lt.mpr y)]
              exact ⟨e1, e2⟩
          · have hb3 : ∀ i, i < n → b2 i = nI (lg (sq n k) i) := fun i hi => by rw [hb2 i (by omega)]; exact hA i hi
            rcases hst with ⟨e, e4⟩ | ⟨e0, e1, e2⟩
            · subst e; exact ⟨rfl, hb3⟩
            · obtain ⟨k, rfl⟩ : ∃ k2, k = k2 + 1 := ⟨k - 1, by omega⟩
              rw [show k + 1 - 1 = k by omega] at e1 e2
              rw [bi, if_pos (by rw [← e1]; exact n_le.mp y)]
              exact ⟨rfl, hb3⟩
        · exact absurd e z
    refine ⟨fun y => ⟨fun y2 => hm _ ?_, fun y2 => ⟨fun y3 => hm _ ?_, fun y3 => ?_⟩⟩, fun y => hm _ (by rw [if_pos y])⟩
    · rw [if_neg y, if_neg]
      intro g
      obtain ⟨j, hj, rfl⟩ := (isD'_iff (by omega)).mp g
      exact nI_pos (by omega) y2
    · rw [if_neg y, if_neg]
      intro g
      obtain ⟨j, hj, rfl⟩ := (isD'_iff (by omega)).mp g
      have := (nI_leI (by omega) (by omega)).mp y3
      omega
    · have hD : isD n i := (isD_iff (by omega)).mpr ⟨n_lt.mp y2, n_le.mp y3⟩
      refine ⟨?_, hm _ (by rw [if_neg y, if_pos ((isD'_iff (by omega)).mpr hD)])⟩
      obtain ⟨j, hj, rfl⟩ := hD
      exact v_in (by omega) (by omega)
  · unfold wp_X12_letOut
    exact s_X12_areLivers (fun z => absurd z q) (fun _ => ⟨fun e => absurd rfl e, fun _ => ⟨rfl, HG⟩⟩)
