/-! the text of a roll, sign by sign -/
abbrev PS : Type := Nat × Nat × Int32 × Int32 × Int32 × (Nat → Int32) × (Nat → Int32) × (Nat → Int32)
abbrev PS.e (s : PS) : Nat := s.1
abbrev PS.n (s : PS) : Nat := s.2.1
abbrev PS.un (s : PS) : Int32 := s.2.2.1
abbrev PS.less (s : PS) : Int32 := s.2.2.2.1
abbrev PS.last (s : PS) : Int32 := s.2.2.2.2.1
abbrev PS.h (s : PS) : Nat → Int32 := s.2.2.2.2.2.1
abbrev PS.lk (s : PS) : Nat → Int32 := s.2.2.2.2.2.2.1
abbrev PS.fr (s : PS) : Nat → Int32 := s.2.2.2.2.2.2.2
abbrev fOk (s : PS) (a : Int32) : Prop := s.last < a - 97 ∧ a - 97 < 7 ∧ ¬ a - 97 = nI s.n
def sFe (s : PS) (a : Int32) (e : Nat) : PS := (e, s.n, s.un, s.less, a - 97, s.h, s.lk, upd s.fr s.n (s.fr s.n ||| ((1 : Int32) <<< ((a - 97) &&& 31))))
def sEnd (s : PS) : PS := (0, s.n + 1, s.un, s.less, s.last, s.h, s.lk, s.fr)
def st0 (s : PS) (a : Int32) : Option PS := if s.n < 7 ∧ 49 ≤ a ∧ a ≤ 57 then some (1, s.n, s.un, s.less, s.last, upd s.h s.n (a - 48), s.lk, s.fr) else none
def st1 (s : PS) (a : Int32) : Option PS := if a = 63 ∧ cnt (bt s.un) 7 < 3 then some (3, s.n, s.un ||| ((1 : Int32) <<< (nI s.n &&& 31)), s.less, s.last, s.h, s.lk, s.fr) else if a = 43 ∨ a = 45 then some (2, s.n, s.un, (if a = 45 then 1 else 0), s.last, s.h, s.lk, s.fr) else none
def st2 (s : PS) (a : Int32) : Option PS := if 48 ≤ a ∧ a ≤ 57 then some (3, s.n, s.un, s.less, s.last, s.h, upd s.lk s.n (if s.less = 0 then a - 48 else 48 - a), s.fr) else none
def st3 (s : PS) (a : Int32) : Option PS := if a = 33 then some (4, s.n, s.un, s.less, -1, s.h, s.lk, s.fr) else if a = 59 then some (sEnd s) else none
def st4 (s : PS) (a : Int32) : Option PS := if fOk s a then some (sFe s a 5) else none
def st5 (s : PS) (a : Int32) : Option PS := if fOk s a then some (sFe s a 6) else if a = 59 then some (sEnd s) else none
def st6 (s : PS) (a : Int32) : Option PS := if a = 59 then some (sEnd s) else none
def stp (s : PS) (a : Int32) : Option PS :=
  if s.e = 0 then st0 s a else if s.e = 1 then st1 s a else if s.e = 2 then st2 s a else if s.e = 3 then st3 s a else if s.e = 4 then st4 s a else if s.e = 5 then st5 s a else st6 s a
/-- what holds of a draft on its way -/
def PI (s : PS) : Prop := s.e ≤ 6 ∧ s.n ≤ 7 ∧ (s.e ≠ 0 → s.n < 7) ∧ (∀ i, i < 32 → bt s.un i = true → i < s.n ∨ (i = s.n ∧ 3 ≤ s.e)) ∧ (∀ d, d < s.n ∨ (d = s.n ∧ 1 ≤ s.e) → ∃ a : Nat, a ≤ 9 ∧ s.h d = nI a) ∧ (∀ d, d < 7 → bt s.un d = true → s.lk d = 0) ∧ (∀ d, d < 7 → s.n < d ∨ (d = s.n ∧ s.e < 3) → s.lk d = 0) ∧ (s.e = 4 → s.last = -1) ∧ (s.e = 5 → 0 ≤ s.last ∧ s.last < 7)
theorem PI_stp {s s2 : PS} {a : Int32} (hP : PI s) (hs : stp s a = some s2) : PI s2 := by
  obtain ⟨h1, h2, h3, h4, h5, h6, h7, h8, h9⟩ := hP
  have hend : s.e ≠ 0 → 3 ≤ s.e → PI (sEnd s) := by
    intro g g3
    have := h3 g
    refine ⟨by show 0 ≤ 6; omega, by show s.n + 1 ≤ 7; omega, fun y => absurd rfl y, fun i hi hb => Or.inl ?_, fun d hd => ?_, h6, fun d hd7 hd => ?_, fun y => absurd y (by show ¬ (0 = 4); omega), fun y => absurd y (by show ¬ (0 = 5); omega)⟩
    · show i < s.n + 1
      rcases h4 i hi hb with y | y <;> omega
    · refine h5 d ?_
      rcases hd with y | ⟨-, y⟩
      · have y : d < s.n + 1 := y
        omega
      · exact absurd y (by show ¬ (1 ≤ 0); omega)
    · refine h7 d hd7 (Or.inl ?_)
      rcases hd with y | ⟨y, -⟩
      · have y : s.n + 1 < d := y
        omega
      · have y : d = s.n + 1 := y
        omega
  have hfe : ∀ e, (e = 5 ∨ e = 6) → 4 ≤ s.e → fOk s a → (e = 5 → s.e = 4) → PI (sFe s a e) := by
    intro e he g4 hf he5
    have hn7 := h3 (by omega)
    refine ⟨by show e ≤ 6; omega, h2, fun _ => hn7, fun i hi hb => ?_, fun d hd => h5 d ?_, h6, fun d hd7 hd => h7 d hd7 ?_, fun y => ?_, fun y => ?_⟩
    · show i < s.n ∨ (i = s.n ∧ 3 ≤ e)
      rcases h4 i hi hb with y | y <;> omega
    · rcases hd with y | ⟨y, -⟩
      · exact Or.inl y
      · exact Or.inr ⟨y, by omega⟩
    · rcases hd with y | ⟨y, y2⟩
      · exact Or.inl y
      · have y2 : e < 3 := y2
        omega
    · have y : e = 4 := y
      omega
    · have y : e = 5 := y
      have hl := h8 (he5 y)
      show 0 ≤ a - 97 ∧ a - 97 < 7
      refine ⟨?_, hf.2.1⟩
      have := hf.1
      rw [hl, i_lt, t_m1] at this
      rw [i_le, t_0]; omega
  unfold stp at hs
  by_cases e0 : s.e = 0
  · rw [if_pos e0] at hs
    unfold st0 at hs
    by_cases g : s.n < 7 ∧ 49 ≤ a ∧ a ≤ 57
    · rw [if_pos g] at hs
      obtain rfl := Option.some.inj hs
      refine ⟨by show 1 ≤ 6; omega, h2, fun _ => g.1, fun i hi hb => Or.inl ?_, fun d hd => ?_, h6, fun d hd7 hd => h7 d hd7 ?_, fun y => absurd y (by show ¬ (1 = 4); omega), fun y => absurd y (by show ¬ (1 = 5); omega)⟩
      · rcases h4 i hi hb with y | y
        · exact y
        · omega
      · by_cases q : d = s.n
        · refine ⟨(a - 48).toInt.toNat, ?_, ?_⟩ <;> subst q
          · have h11 : (49 : Int32).toInt ≤ a.toInt := i_le.mp g.2.1
            have h12 : a.toInt ≤ (57 : Int32).toInt := i_le.mp g.2.2
            rw [t_49] at h11
            rw [t_57] at h12
            have : (a - 48).toInt = a.toInt - 48 := by
              have := Int32.toInt_sub a 48
              rw [this, t_48]
              rw [Int.bmod_eq_of_le (by omega) (by omega)]
            omega
          · show upd s.h s.n (a - 48) s.n = _
            rw [u_s]
            have h11 : (49 : Int32).toInt ≤ a.toInt := i_le.mp g.2.1
            have h12 : a.toInt ≤ (57 : Int32).toInt := i_le.mp g.2.2
            rw [t_49] at h11
            rw [t_57] at h12
            have h13 : (a - 48).toInt = a.toInt - 48 := by
              have := Int32.toInt_sub a 48
              rw [this, t_48]
              rw [Int.bmod_eq_of_le (by omega) (by omega)]
            rw [i_eq, nI_toInt (by omega)]; omega
        · show ∃ a2 : Nat, a2 ≤ 9 ∧ upd s.h s.n (a - 48) d = nI a2
          rw [u_n q]
          refine h5 d (Or.inl ?_)
          rcases hd with y | ⟨y, -⟩
          · exact y
          · exact absurd y q
      · rcases hd with y | ⟨y, -⟩
        · exact Or.inl y
        · exact Or.inr ⟨y, by omega⟩
    · rw [if_neg g] at hs; simp at hs
  rw [if_neg e0] at hs
  have hn7 := h3 e0
  by_cases e1 : s.e = 1
  · rw [if_pos e1] at hs
    unfold st1 at hs
    by_cases g : a = 63 ∧ cnt (bt s.un) 7 < 3
    · rw [if_pos g] at hs
      obtain rfl := Option.some.inj hs
      refine ⟨by show 3 ≤ 6; omega, h2, fun _ => hn7, fun i hi hb => ?_, fun d hd => h5 d ?_, fun d hd7 hb => ?_, fun d hd7 hd => h7 d hd7 ?_, fun y => absurd y (by show ¬ (3 = 4); omega), fun y => absurd y (by show ¬ (3 = 5); omega)⟩
      · have hb : bt (s.un ||| ((1 : Int32) <<< (nI s.n &&& 31))) i = true := hb
        rw [b_set (by omega) hi, Bool.or_eq_true, decide_eq_true_eq] at hb
        rcases hb with y | y
        · rcases h4 i hi y with z | z
          · exact Or.inl z
          · omega
        · exact Or.inr ⟨y, Nat.le_refl _⟩
      · rcases hd with y | ⟨y, -⟩
        · exact Or.inl y
        · exact Or.inr ⟨y, by omega⟩
      · have hb : bt (s.un ||| ((1 : Int32) <<< (nI s.n &&& 31))) d = true := hb
        rw [b_set (by omega) (by omega), Bool.or_eq_true, decide_eq_true_eq] at hb
        rcases hb with y | y
        · exact h6 d hd7 y
        · exact h7 d hd7 (Or.inr ⟨y, by omega⟩)
      · rcases hd with y | ⟨y, y2⟩
        · exact Or.inl y
        · exact Or.inr ⟨y, by omega⟩
    · rw [if_neg g] at hs
      by_cases g2 : a = 43 ∨ a = 45
      · rw [if_pos g2] at hs
        obtain rfl := Option.some.inj hs
        refine ⟨by show 2 ≤ 6; omega, h2, fun _ => hn7, fun i hi hb => Or.inl ?_, fun d hd => h5 d ?_, h6, fun d hd7 hd => h7 d hd7 ?_, fun y => absurd y (by show ¬ (2 = 4); omega), fun y => absurd y (by show ¬ (2 = 5); omega)⟩
        · rcases h4 i hi hb with z | z
          · exact z
          · omega
        · rcases hd with y | ⟨y, -⟩
          · exact Or.inl y
          · exact Or.inr ⟨y, by omega⟩
        · rcases hd with y | ⟨y, y2⟩
          · exact Or.inl y
          · exact Or.inr ⟨y, by omega⟩
      · rw [if_neg g2] at hs; simp at hs
  rw [if_neg e1] at hs
  by_cases e2 : s.e = 2
  · rw [if_pos e2] at hs
    unfold st2 at hs
    by_cases g : 48 ≤ a ∧ a ≤ 57
    · rw [if_pos g] at hs
      obtain rfl := Option.some.inj hs
      refine ⟨by show 3 ≤ 6; omega, h2, fun _ => hn7, fun i hi hb => Or.inl ?_, fun d hd => h5 d ?_, fun d hd7 hb => ?_, fun d hd7 hd => ?_, fun y => absurd y (by show ¬ (3 = 4); omega), fun y => absurd y (by show ¬ (3 = 5); omega)⟩
      · rcases h4 i hi hb with z | z
        · exact z
        · omega
      · rcases hd with y | ⟨y, -⟩
        · exact Or.inl y
        · exact Or.inr ⟨y, by omega⟩
      · have q : d ≠ s.n := fun y => by
          rcases h4 d (by omega) hb with z | z <;> omega
        show upd s.lk s.n _ d = 0
        rw [u_n q]; exact h6 d hd7 hb
      · have hd : s.n < d ∨ (d = s.n ∧ 3 < 3) := hd
        show upd s.lk s.n _ d = 0
        rw [u_n (by omega)]; exact h7 d hd7 (Or.inl (by omega))
    · rw [if_neg g] at hs; simp at hs
  rw [if_neg e2] at hs
  by_cases e3 : s.e = 3
  · rw [if_pos e3] at hs
    unfold st3 at hs
    by_cases g : a = 33
    · rw [if_pos g] at hs
      obtain rfl := Option.some.inj hs
      refine ⟨by show 4 ≤ 6; omega, h2, fun _ => hn7, fun i hi hb => ?_, fun d hd => h5 d ?_, h6, fun d hd7 hd => h7 d hd7 ?_, fun y => rfl, fun y => absurd y (by show ¬ (4 = 5); omega)⟩
      · show i < s.n ∨ (i = s.n ∧ 3 ≤ 4)
        rcases h4 i hi hb with z | z <;> omega
      · rcases hd with y | ⟨y, -⟩
        · exact Or.inl y
        · exact Or.inr ⟨y, by omega⟩
      · rcases hd with y | ⟨y, y2⟩
        · exact Or.inl y
        · have y2 : 4 < 3 := y2
          omega
    · rw [if_neg g] at hs
      by_cases g2 : a = 59
      · rw [if_pos g2] at hs
        obtain rfl := Option.some.inj hs
        exact hend e0 (by omega)
      · rw [if_neg g2] at hs; simp at hs
  rw [if_neg e3] at hs
  by_cases e4 : s.e = 4
  · rw [if_pos e4] at hs
    unfold st4 at hs
    by_cases g : fOk s a
    · rw [if_pos g] at hs
      obtain rfl := Option.some.inj hs
      exact hfe 5 (Or.inl rfl) (by omega) g (fun _ => e4)
    · rw [if_neg g] at hs; simp at hs
  rw [if_neg e4] at hs
  by_cases e5 : s.e = 5
  · rw [if_pos e5] at hs
    unfold st5 at hs
    by_cases g : fOk s a
    · rw [if_pos g] at hs
      obtain rfl := Option.some.inj hs
      exact hfe 6 (Or.inr rfl) (by omega) g (fun y => absurd y (by omega))
    · rw [if_neg g] at hs
      by_cases g2 : a = 59
      · rw [if_pos g2] at hs
        obtain rfl := Option.some.inj hs
        exact hend e0 (by omega)
      · rw [if_neg g2] at hs; simp at hs
  rw [if_neg e5] at hs
  unfold st6 at hs
  by_cases g2 : a = 59
  · rw [if_pos g2] at hs
    obtain rfl := Option.some.inj hs
    exact hend e0 (by omega)
  · rw [if_neg g2] at hs; simp at hs
