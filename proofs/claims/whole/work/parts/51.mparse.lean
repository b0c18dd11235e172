theorem lofE5_4 {A0 A1 A2 A3 : Type} {M : Int32} {bot : A0 → A1 → A2 → A3 → Int32 → Prop} {E : A0 → A1 → A2 → A3 → Int32 → Prop} {B : (A0 → A1 → A2 → A3 → Int32 → Prop) → A0 → A1 → A2 → A3 → Int32 → Prop} (N : Nat) (hN : N < 2000000000) (hM : M = nI N) (P : Nat → A0 → A1 → A2 → A3 → Prop) (he : ∀ (a0 : A0) (a1 : A1) (a2 : A2) (a3 : A3), P N a0 a1 a2 a3 → E a0 a1 a2 a3 (nI N)) (hb : ∀ (i : Nat) (a0 : A0) (a1 : A1) (a2 : A2) (a3 : A3) (again : A0 → A1 → A2 → A3 → Int32 → Prop), i < N → P i a0 a1 a2 a3 → (∀ (b0 : A0) (b1 : A1) (b2 : A2) (b3 : A3), P (i + 1) b0 b1 b2 b3 → again b0 b1 b2 b3 (nI i + 1)) → B again a0 a1 a2 a3 (nI i)) (a0 : A0) (a1 : A1) (a2 : A2) (a3 : A3) (h0 : P 0 a0 a1 a2 a3) :
    lo bot (fun (again : A0 → A1 → A2 → A3 → Int32 → Prop) (a0 : A0) (a1 : A1) (a2 : A2) (a3 : A3) (a4 : Int32) => (M ≤ a4 → E a0 a1 a2 a3 a4) ∧ (¬ M ≤ a4 → B again a0 a1 a2 a3 a4)) (fun r => r a0 a1 a2 a3 0) := by
  subst hM
  refine lop5 (I := fun a0 a1 a2 a3 a4 => ∃ i : Nat, i ≤ N ∧ a4 = nI i ∧ P i a0 a1 a2 a3) (fun a0 a1 a2 a3 a4 => N - (a4).toNatClampNeg) ?_ a0 a1 a2 a3 0 ⟨0, Nat.zero_le _, nI_0.symm, h0⟩
  rintro a0 a1 a2 a3 a4 again ⟨i, hi, rfl, hp⟩ hag
  refine ⟨fun hc => ?_, fun hc => ?_⟩
  · have e : i = N := by
      rcases Nat.lt_or_ge i N with q | q
      · exact absurd hc (nI_ge q (by omega))
      · omega
    subst e
    exact he a0 a1 a2 a3 hp
  · have hlt : i < N := by
      rcases Nat.lt_or_ge i N with q | q
      · exact q
      · exact absurd (nI_le q (by omega)) hc
    refine hb i a0 a1 a2 a3 again hlt hp (fun b0 b1 b2 b3 hp2 => hag b0 b1 b2 b3 _ ⟨i + 1, hlt, nI_1 i, hp2⟩ ?_)
    show N - (nI i + 1).toNatClampNeg < N - (nI i).toNatClampNeg
    rw [nI_1, nI_clamp (by omega), nI_clamp (by omega)]
    omega
/-! the law's own reading of a roll's text -/
theorem sub97 {a : Int32} (h1 : 33 ≤ a) (h2 : a ≤ 126) : (a - 97).toInt = a.toInt - 97 := by
  have h1 := i_le.mp h1
  have h2 := i_le.mp h2
  rw [t_33] at h1
  rw [t_126] at h2
  rw [Int32.toInt_sub a 97, t_97, Int.bmod_eq_of_le (by omega) (by omega)]
theorem eq97 {a x : Int32} : a - 97 = x ↔ a = 97 + x := by
  constructor
  · intro h; rw [← h]; grind
  · intro h; rw [h]; grind
theorem fO4 {s : PS} {a : Int32} (h1 : 33 ≤ a) (h2 : a ≤ 126) (hl : s.last = -1) : fOk s a ↔ (97 ≤ a ∧ a ≤ 103) ∧ ¬ a = 97 + nI s.n := by
  unfold fOk
  rw [hl, eq97, i_lt, i_lt, i_le, i_le, sub97 h1 h2, t_m1, t_7, t_97, t_103]
  constructor
  · rintro ⟨q1, q2, q3⟩; exact ⟨by omega, q3⟩
  · rintro ⟨q1, q3⟩; exact ⟨by omega, by omega, q3⟩
theorem fO5 {s : PS} {a x : Int32} (h1 : 33 ≤ a) (h2 : a ≤ 126) (hl : 0 ≤ s.last ∧ s.last < 7) (hx : x = s.last + 97) : fOk s a ↔ (97 ≤ a ∧ a ≤ 103) ∧ ¬ a ≤ x ∧ ¬ a = 97 + nI s.n := by
  unfold fOk
  obtain ⟨q1, q2⟩ := hl
  rw [i_le, t_0] at q1
  rw [i_lt, t_7] at q2
  have hxt : x.toInt = s.last.toInt + 97 := by
    rw [hx, Int32.toInt_add, t_97, Int.bmod_eq_of_le (by omega) (by omega)]
  rw [eq97, i_lt, i_lt, i_le, i_le, i_le, sub97 h1 h2, t_7, t_97, t_103, hxt]
  constructor
  · rintro ⟨q1, q2, q3⟩; exact ⟨by omega, by omega, q3⟩
  · rintro ⟨q1, q2, q3⟩; exact ⟨by omega, by omega, q3⟩
theorem cnt_set {un : Int32} {n : Nat} (hn : n < 7) (hb : bt un n = false) : cnt (bt (un ||| ((1 : Int32) <<< (nI n &&& 31)))) 7 = cnt (bt un) 7 + 1 := by
  rw [← cnt_eqj n hn]
  refine (cnt_pt 7 (fun i hi => ?_)).symm
  rw [b_set (by omega) (by omega)]
  by_cases e : i = n
  · subst e; rw [hb]; simp [b2n]
  · rw [decide_eq_false e, Bool.or_false]; simp [b2n]
theorem s_KK {x1 x2 x3 x4 a t18 : Int32} {J322 : Int32 → Int32 → Int32 → Int32 → Int32 → Prop} (h1 : a = 59 → J322 (x1 + 1) x2 0 x4 1) (h2 : ¬ a = 59 → a = 33 → x3 = 3 → J322 x1 x2 4 x4 1) (h3 : ¬ a = 59 → ¬ a = 33 → ¬ t18 = 0 → J322 x1 x2 6 x4 1) (h4 : ¬ a = 59 → ¬ (a = 33 ∧ x3 = 3) → t18 = 0 → ∀ y, J322 x1 x2 y x4 0) (h5 : ¬ t18 = 0 → ¬ a = 33) :
    jn (fun (t_26 : Int32) => jn (fun (t_27 : Int32) => jn (fun (t_28 : Int32) => J322 (x1 + t_27) x2 t_28 x4 t_26) (fun (J321 : Int32 → Prop) => ((¬ a = (59 : Int32) → ((¬ a = (33 : Int32) → J321 (6 : Int32)) ∧ (a = (33 : Int32) → J321 (4 : Int32)))) ∧ (a = (59 : Int32) → J321 (0 : Int32))))) (fun (J295 : Int32 → Prop) => ((¬ a = (59 : Int32) → J295 (0 : Int32)) ∧ (a = (59 : Int32) → J295 (1 : Int32))))) (fun (J280 : Int32 → Prop) => jn ( J280 (1 : Int32)) (fun (J275 : Prop) => ((a = (59 : Int32) → J275) ∧ (¬ a = (59 : Int32) → jn ( ((t18 = 0 → J280 (0 : Int32)) ∧ (¬ t18 = 0 → J275))) (fun (J270 : Prop) => ((¬ a = (33 : Int32) → J270) ∧ (a = (33 : Int32) → ((x3 = (3 : Int32) → J275) ∧ (¬ x3 = (3 : Int32) → J270)))))))))  := by
  have e0 : x1 + 0 = x1 := by grind
  have hK : ∀ t26 : Int32, (a = 59 → J322 (x1 + 1) x2 0 x4 t26) → (¬ a = 59 → a = 33 → J322 x1 x2 4 x4 t26) → (¬ a = 59 → ¬ a = 33 → J322 x1 x2 6 x4 t26) → jn (fun (t_27 : Int32) => jn (fun (t_28 : Int32) => J322 (x1 + t_27) x2 t_28 x4 t26) (fun (J321 : Int32 → Prop) => ((¬ a = (59 : Int32) → ((¬ a = (33 : Int32) → J321 (6 : Int32)) ∧ (a = (33 : Int32) → J321 (4 : Int32)))) ∧ (a = (59 : Int32) → J321 (0 : Int32))))) (fun (J295 : Int32 → Prop) => ((¬ a = (59 : Int32) → J295 (0 : Int32)) ∧ (a = (59 : Int32) → J295 (1 : Int32)))) := by
    intro t26 g1 g2 g3
    refine jn_in ⟨fun y => jn_in ?_, fun y => jn_in ?_⟩
    · dsimp only
      rw [e0]
      exact ⟨fun _ => ⟨fun z => g3 y z, fun z => g2 y z⟩, fun z => absurd z y⟩
    · exact ⟨fun z => absurd y z, fun _ => g1 y⟩
  refine jn_in (jn_in ?_)
  refine ⟨fun y => hK 1 h1 (fun z => absurd y z) (fun z => absurd y z), fun y => jn_in ?_⟩
  by_cases g : t18 = 0
  · have h0 : ¬ (a = 33 ∧ x3 = 3) → (t18 = 0 → jn (fun (t_27 : Int32) => jn (fun (t_28 : Int32) => J322 (x1 + t_27) x2 t_28 x4 0) (fun (J321 : Int32 → Prop) => ((¬ a = (59 : Int32) → ((¬ a = (33 : Int32) → J321 (6 : Int32)) ∧ (a = (33 : Int32) → J321 (4 : Int32)))) ∧ (a = (59 : Int32) → J321 (0 : Int32))))) (fun (J295 : Int32 → Prop) => ((¬ a = (59 : Int32) → J295 (0 : Int32)) ∧ (a = (59 : Int32) → J295 (1 : Int32))))) := fun w _ => hK 0 (fun z => absurd z y) (fun _ _ => h4 y w g _) (fun _ _ => h4 y w g _)
    exact ⟨fun z => ⟨h0 (fun w => z w.1), fun w => absurd g w⟩, fun z => ⟨fun z3 => hK 1 h1 (fun _ _ => h2 y z z3) (fun _ w => absurd z w), fun z3 => ⟨h0 (fun w => z3 w.2), fun w => absurd g w⟩⟩⟩
  · have z := h5 g
    exact ⟨fun _ => ⟨fun w => absurd w g, fun _ => hK 1 h1 (fun _ w => absurd w z) (fun _ _ => h3 y z g)⟩, fun w => absurd w z⟩
theorem s_X12_faultOf {k : Nat} (hk : k ≤ 60) {s0 : PS} {sg mp : Nat → Int32} (z1 : s0.e = 0) (z2 : s0.n = 0) (z3 : s0.un = 0) (hP0 : PI s0) (hsg : ∀ j, j < k → sg j = mp j ∧ 33 ≤ sg j ∧ sg j ≤ 126) {post : Int32 → Prop} (hp : ∀ r, FA s0 sg k r → post r) : wp_X12_faultOf (nI k) mp post := by
  unfold wp_X12_faultOf
  refine jn_in ?_
  refine lofE5_4 k (by omega) rfl (fun j x1 x2 x3 x4 => ∃ s, rn s0 sg j = some s ∧ x1 = nI s.n ∧ x2 = nI (cnt (bt s.un) 7) ∧ x3 = nI s.e ∧ (s.e = 5 → x4 = s.last + 97)) ?_ ?_ _ _ _ _ ⟨s0, rfl, by rw [z2]; rfl, by rw [z3]; decide +kernel, by rw [z1]; rfl, fun y => by omega⟩
  · rintro x1 x2 x3 x4 ⟨s, hs, rfl, rfl, rfl, -⟩
    have hPs := rn_PI hP0 hs
    have hle := hPs.1
    refine ⟨fun y => hp _ (Or.inr ⟨s, hs, ?_⟩), fun y => hp _ (Or.inr ⟨s, hs, ?_⟩)⟩
    · rw [if_neg]
      exact fun z => y (by rw [z]; rfl)
    · have y : nI s.e = nI 0 := y
      rw [if_pos ((nI_eq (by omega) (by omega)).mp y)]
  · rintro j x1 x2 x3 x4 again hj ⟨s, hs, rfl, rfl, rfl, h5⟩ hag
    have hPs := rn_PI hP0 hs
    obtain ⟨p1, p2, p3, p4, p5, p6, p7, p8, p9⟩ := rn_PI hP0 hs
    obtain ⟨ea, a1, a2⟩ := hsg j hj
    rw [c_nI (by omega), ← ea]
    obtain ⟨a, hae⟩ : ∃ a, a = sg j := ⟨_, rfl⟩
    rw [← hae] at a1 a2 ⊢
    have hne : ∀ k, k < 7 → ¬ s.e = k → ¬ nI s.e = nI k := fun k hk g y => g ((nI_eq (by omega) (by omega)).mp y)
    have hyes : ∀ s2, stp s a = some s2 → ∀ x4, (s2.e = 5 → x4 = s2.last + 97) → again (nI s2.n) (nI (cnt (bt s2.un) 7)) (nI s2.e) x4 (nI j + 1) := fun s2 h2 x4 h => hag _ _ _ _ ⟨s2, by rw [rn, hs, ← hae]; exact h2, rfl, rfl, rfl, h⟩
    have hno : stp s a = none → post (nI j) := fun h2 => hp _ (Or.inl ⟨j, s, hj, hs, by rw [← hae]; exact h2, rfl⟩)
    have hY : ∀ s2, stp s a = some s2 → ∀ x4, (s2.e = 5 → x4 = s2.last + 97) → ∀ x7 : Int32, ¬ x7 = 0 → (¬ x7 = 0 → again (nI s2.n) (nI (cnt (bt s2.un) 7)) (nI s2.e) x4 (nI j + 1)) ∧ (x7 = 0 → post (nI j)) := fun s2 h2 x4 h x7 g => ⟨fun _ => hyes s2 h2 x4 h, fun y => absurd y g⟩
    have hN : stp s a = none → ∀ x1 x2 x3 x4 : Int32, ∀ x7 : Int32, x7 = 0 → (¬ x7 = 0 → again x1 x2 x3 x4 (nI j + 1)) ∧ (x7 = 0 → post (nI j)) := fun h2 x1 x2 x3 x4 x7 g => ⟨fun y => absurd g y, fun _ => hno h2⟩
    refine ⟨v_in (by omega) (by omega), jn_in ?_⟩
    unfold stp at hY hN
    by_cases e0 : s.e = 0
    · rw [if_pos e0] at hY hN
      unfold st0 at hY hN
      refine ⟨fun _ => ?_, fun y => absurd (by rw [e0]; rfl) y⟩
      by_cases g : s.n < 7 ∧ 49 ≤ a ∧ a ≤ 57
      · rw [if_pos g] at hY
        refine s_X12_in (fun y => jn_in (jn_in ⟨fun z => absurd z (by decide), fun _ => ⟨fun z => ?_, fun _ => ?_⟩⟩)) (fun y => absurd g.2 y)
        · have : nI 7 ≤ nI s.n := z
          have := (nI_leI (by omega) (by omega)).mp this
          omega
        · exact hY _ rfl _ (fun y => absurd y (by show ¬ (1 = 5); omega)) 1 (by decide)
      · rw [if_neg g] at hN
        refine s_X12_in (fun y => jn_in (jn_in ⟨fun z => absurd z (by decide), fun _ => ⟨fun z => hN rfl _ _ _ _ 0 rfl, fun z => ?_⟩⟩)) (fun y => jn_in (jn_in ⟨fun _ => hN rfl _ _ _ _ 0 rfl, fun z => absurd rfl z⟩))
        refine absurd ⟨?_, y⟩ g
        rcases Nat.lt_or_ge s.n 7 with q | q
        · exact q
        · exact absurd (show nI 7 ≤ nI s.n from (nI_leI (by omega) (by omega)).mpr q) z
    rw [if_neg e0] at hY hN
    refine ⟨fun y => absurd y (hne 0 (by omega) e0), fun _ => ?_⟩
    have hn7 := p3 e0
    by_cases e1 : s.e = 1
    · rw [if_pos e1] at hY hN
      unfold st1 at hY hN
      refine ⟨fun _ => ?_, fun y => absurd (by rw [e1]; rfl) y⟩
      have hc := cnt_le (bt s.un) 7
      have hadd0 : nI (cnt (bt s.un) 7) + 0 = nI (cnt (bt s.un) 7) := by grind
      refine jn_in ⟨fun y => ?_, fun y => ?_⟩
      · have g : ¬ (a = 63 ∧ cnt (bt s.un) 7 < 3) := fun w => y w.1
        dsimp only
        rw [if_neg g] at hY hN
        rw [hadd0]
        by_cases g2 : a = 43 ∨ a = 45
        · rw [if_pos g2] at hY
          have hh : ∀ x7 : Int32, ¬ x7 = 0 → _ := hY _ rfl x4 (fun y => absurd y (by show ¬ (2 = 5); omega))
          refine jn_in (jn_in ⟨fun _ => jn_in ⟨fun _ => hh 1 (by decide), fun w => absurd w y⟩, fun w => ⟨fun _ => jn_in ⟨fun _ => hh 1 (by decide), fun w => absurd w y⟩, fun w2 => absurd g2 (fun q => q.elim w w2)⟩⟩)
        · rw [if_neg g2] at hN
          refine jn_in (jn_in ⟨fun w => absurd (Or.inl w) g2, fun _ => ⟨fun w => absurd (Or.inr w) g2, fun _ => jn_in ⟨fun _ => jn_in ⟨fun _ => hN rfl _ _ _ _ 0 rfl, fun w => absurd w y⟩, fun w => absurd w y⟩⟩⟩)
      · dsimp only
        have n43 : ¬ a = 43 := by rw [y]; decide
        have n45 : ¬ a = 45 := by rw [y]; decide
        rw [nI_1]
        refine jn_in (jn_in ⟨fun w => absurd w n43, fun _ => ⟨fun w => absurd w n45, fun _ => jn_in ⟨fun w => absurd y w, fun _ => ⟨fun w => ?_, fun w => ?_⟩⟩⟩⟩)
        · have g : ¬ (a = 63 ∧ cnt (bt s.un) 7 < 3) := fun q => by
            have : nI 4 ≤ nI (cnt (bt s.un) 7 + 1) := w
            have := (nI_leI (by omega) (by omega)).mp this
            omega
          rw [if_neg g, if_neg (fun q => q.elim n43 n45)] at hN
          exact jn_in ⟨fun q => absurd y q, fun _ => hN rfl _ _ _ _ 0 rfl⟩
        · have g : cnt (bt s.un) 7 < 3 := by
            rcases Nat.lt_or_ge (cnt (bt s.un) 7) 3 with q | q
            · exact q
            · exact absurd (show nI 4 ≤ nI (cnt (bt s.un) 7 + 1) from (nI_leI (by omega) (by omega)).mpr (by omega)) w
          rw [if_pos ⟨y, g⟩] at hY
          refine jn_in ⟨fun q => absurd y q, fun _ => ?_⟩
          have hb : bt s.un s.n = false := by
            cases q : bt s.un s.n
            · rfl
            · rcases p4 s.n (by omega) q with w | w <;> omega
          rw [← cnt_set hn7 hb]
          exact hY _ rfl x4 (fun y => absurd y (by show ¬ (3 = 5); omega)) 1 (by decide)
    rw [if_neg e1] at hY hN
    refine ⟨fun y => absurd y (hne 1 (by omega) e1), fun _ => ?_⟩
    by_cases e2 : s.e = 2
    · rw [if_pos e2] at hY hN
      unfold st2 at hY hN
      refine ⟨fun _ => s_X12_in (fun y => ?_) (fun y => ?_), fun y => absurd (by rw [e2]; rfl) y⟩
      · rw [if_pos y] at hY
        exact hY _ rfl x4 (fun y => absurd y (by show ¬ (3 = 5); omega)) 1 (by decide)
      · rw [if_neg y] at hN
        exact hN rfl _ _ _ _ 0 rfl
    rw [if_neg e2] at hY hN
    refine ⟨fun y => absurd y (hne 2 (by omega) e2), fun _ => ?_⟩
    have hSE : ∀ (t18 : Int32), stp s a = some (sEnd s) → ∀ x4, (¬ (1 : Int32) = 0 → again (nI s.n + 1) (nI (cnt (bt s.un) 7)) 0 x4 (nI j + 1)) ∧ ((1 : Int32) = 0 → post (nI j)) := by
      intro _ h2 x4
      rw [nI_1]
      exact ⟨fun _ => hyes _ h2 x4 (fun y => absurd y (by show ¬ (0 = 5); omega)), fun y => absurd y (by decide)⟩
    unfold stp at hSE
    rw [if_neg e0, if_neg e1, if_neg e2] at hSE
    by_cases e3 : s.e = 3
    · rw [if_pos e3] at hY hN hSE
      unfold st3 at hY hN hSE
      refine ⟨fun _ => jn_in (jn_in ⟨fun _ => ?_, fun y => absurd y (hne 5 (by omega) (by omega))⟩), fun y => absurd (by rw [e3]; rfl) y⟩
      refine s_KK (x1 := nI s.n) (x2 := nI (cnt (bt s.un) 7)) (x3 := nI s.e) (x4 := x4) (a := a) (t18 := 0) (J322 := fun y1 y2 y3 y4 y5 => ((¬ y5 = 0 → again y1 y2 y3 y4 (nI j + 1)) ∧ (y5 = 0 → post (nI j)))) (fun y => ?_) (fun y1 y2 y3 => ?_) (fun _ _ y => absurd rfl y) (fun y1 y2 _ y => ?_) (fun y => absurd rfl y)
      · have n33 : ¬ a = 33 := by rw [y]; decide
        rw [if_neg n33, if_pos y] at hSE
        exact hSE 0 rfl x4
      · rw [if_pos y2] at hY
        exact hY _ rfl x4 (fun y => absurd y (by show ¬ (4 = 5); omega)) 1 (by decide)
      · have n33 : ¬ a = 33 := fun w => y2 ⟨w, by rw [e3]; rfl⟩
        rw [if_neg n33, if_neg y1] at hN
        exact hN rfl _ _ _ _ 0 rfl
    rw [if_neg e3] at hY hN hSE
    refine ⟨fun y => absurd y (hne 3 (by omega) e3), fun _ => ?_⟩
    have n3 : ¬ nI s.e = 3 := hne 3 (by omega) e3
    by_cases e4 : s.e = 4
    · rw [if_pos e4] at hY hN
      unfold st4 at hY hN
      have hf := fO4 a1 a2 (p8 e4)
      refine ⟨fun _ => ?_, fun y => absurd (by rw [e4]; rfl) y⟩
      by_cases g : fOk s a
      · rw [if_pos g] at hY
        have hh : ∀ x7 : Int32, ¬ x7 = 0 → _ := hY _ rfl a (fun _ => by show a = a - 97 + 97; grind)
        have g2 := hf.mp g
        exact s_X12_in (fun y => jn_in (jn_in ⟨fun z => absurd z (by decide), fun _ => ⟨fun z => absurd z g2.2, fun _ => hh 1 (by decide)⟩⟩)) (fun y => absurd g2.1 y)
      · rw [if_neg g] at hN
        exact s_X12_in (fun y => jn_in (jn_in ⟨fun z => absurd z (by decide), fun _ => ⟨fun z => hN rfl _ _ _ _ 0 rfl, fun z => absurd (hf.mpr ⟨y, z⟩) g⟩⟩)) (fun y => jn_in (jn_in ⟨fun _ => hN rfl _ _ _ _ 0 rfl, fun z => absurd rfl z⟩))
    rw [if_neg e4] at hY hN hSE
    refine ⟨fun y => absurd y (hne 4 (by omega) e4), fun _ => jn_in (jn_in ?_)⟩
    by_cases e5 : s.e = 5
    · rw [if_pos e5] at hY hN hSE
      unfold st5 at hY hN hSE
      have hf := fO5 a1 a2 (p9 e5) (h5 e5)
      refine ⟨fun y => absurd (by rw [e5]; rfl) y, fun _ => ?_⟩
      by_cases g : fOk s a
      · rw [if_pos g] at hY
        have g2 := hf.mp g
        have n59 : ¬ a = 59 := fun w => absurd g2.1.1 (by rw [w]; decide)
        have n33 : ¬ a = 33 := fun w => absurd g2.1.1 (by rw [w]; decide)
        have hh : ∀ x7 : Int32, ¬ x7 = 0 → _ := hY _ rfl x4 (fun y => absurd y (by show ¬ (6 = 5); omega))
        refine s_X12_in (fun y => ⟨fun z => absurd z (by decide), fun _ => ⟨fun z => absurd z g2.2.1, fun _ => ⟨fun z => absurd z g2.2.2, fun _ => ?_⟩⟩⟩) (fun y => absurd g2.1 y)
        exact s_KK (x1 := nI s.n) (x2 := nI (cnt (bt s.un) 7)) (x3 := nI s.e) (x4 := x4) (a := a) (t18 := 1) (J322 := fun y1 y2 y3 y4 y5 => ((¬ y5 = 0 → again y1 y2 y3 y4 (nI j + 1)) ∧ (y5 = 0 → post (nI j)))) (fun y => absurd y n59) (fun _ y => absurd y n33) (fun _ _ _ => hh 1 (by decide)) (fun _ _ y => absurd y (by decide)) (fun _ => n33)
      · have hkk : jn (fun (t_26 : Int32) => jn (fun (t_27 : Int32) => jn (fun (t_28 : Int32) => ((¬ t_26 = 0 → again (nI s.n + t_27) (nI (cnt (bt s.un) 7)) t_28 x4 (nI j + 1)) ∧ (t_26 = 0 → post (nI j)))) (fun (J321 : Int32 → Prop) => ((¬ a = (59 : Int32) → ((¬ a = (33 : Int32) → J321 (6 : Int32)) ∧ (a = (33 : Int32) → J321 (4 : Int32)))) ∧ (a = (59 : Int32) → J321 (0 : Int32))))) (fun (J295 : Int32 → Prop) => ((¬ a = (59 : Int32) → J295 (0 : Int32)) ∧ (a = (59 : Int32) → J295 (1 : Int32))))) (fun (J280 : Int32 → Prop) => jn ( J280 (1 : Int32)) (fun (J275 : Prop) => ((a = (59 : Int32) → J275) ∧ (¬ a = (59 : Int32) → jn ((((0 : Int32) = 0 → J280 (0 : Int32)) ∧ (¬ (0 : Int32) = 0 → J275))) (fun (J270 : Prop) => ((¬ a = (33 : Int32) → J270) ∧ (a = (33 : Int32) → ((nI s.e = (3 : Int32) → J275) ∧ (¬ nI s.e = (3 : Int32) → J270))))))))) := by
          refine s_KK (J322 := fun y1 y2 y3 y4 y5 => ((¬ y5 = 0 → again y1 y2 y3 y4 (nI j + 1)) ∧ (y5 = 0 → post (nI j)))) (fun y => ?_) (fun y1 y2 y3 => absurd y3 n3) (fun _ _ y => absurd rfl y) (fun y1 y2 _ y => ?_) (fun y => absurd rfl y)
          · rw [if_neg g, if_pos y] at hSE
            exact hSE 0 rfl x4
          · rw [if_neg g, if_neg y1] at hN
            exact hN rfl _ _ _ _ 0 rfl
        exact s_X12_in (fun y => ⟨fun z => absurd z (by decide), fun _ => ⟨fun z => hkk, fun z => ⟨fun z2 => hkk, fun z2 => absurd (hf.mpr ⟨y, z, z2⟩) g⟩⟩⟩) (fun y => ⟨fun _ => hkk, fun z => absurd rfl z⟩)
    rw [if_neg e5] at hY hN hSE
    unfold st6 at hY hN hSE
    refine ⟨fun _ => ?_, fun y => absurd y (hne 5 (by omega) e5)⟩
    refine s_KK (x1 := nI s.n) (x2 := nI (cnt (bt s.un) 7)) (x3 := nI s.e) (x4 := x4) (a := a) (t18 := 0) (J322 := fun y1 y2 y3 y4 y5 => ((¬ y5 = 0 → again y1 y2 y3 y4 (nI j + 1)) ∧ (y5 = 0 → post (nI j)))) (fun y => ?_) (fun y1 y2 y3 => absurd y3 n3) (fun _ _ y => absurd rfl y) (fun y1 y2 _ y => ?_) (fun y => absurd rfl y)
    · rw [if_pos y] at hSE
      exact hSE 0 rfl x4
    · rw [if_neg y1] at hN
      exact hN rfl _ _ _ _ 0 rfl
theorem t_fault {k : Nat} {sz msz : Int32} {sg mp : Nat → Int32} (h : RP k sz sg msz mp) {x1 x2 x3 x4 x5 : Int32} {x6 x7 x8 x9 : Nat → Int32} : wp_X11_fault sz x1 x2 x3 sg x4 x5 x6 x7 x8 x9 (fun r _ _ _ _ _ _ _ _ _ => wp_X12_fault msz mp (fun r2 => r = r2)) := by
  obtain ⟨hk, rfl, rfl, hj⟩ := h
  unfold wp_X11_fault wp_X12_fault
  exact s_X7_firstFault hk (fun s0 he z1 z2 z3 hP _ _ r hF _ _ _ _ _ _ _ _ _ => s_X12_faultOf hk z1 z2 z3 hP hj (fun r2 hF2 => FA_fun hF hF2))
