theorem lofE1_0 {M : Int32} {bot : Int32 → Prop} {E : Int32 → Prop} {B : (Int32 → Prop) → Int32 → Prop} (N : Nat) (hN : N < 2000000000) (hM : M = nI N) (P : Nat → Prop) (he : P N  → E (nI N)) (hb : ∀ (i : Nat)  (again : Int32 → Prop), i < N → P i  → (P (i + 1)  → again (nI i + 1)) → B again (nI i))  (h0 : P 0 ) :
    lo bot (fun (again : Int32 → Prop) (a0 : Int32) => (M ≤ a0 → E a0) ∧ (¬ M ≤ a0 → B again a0)) (fun r => r 0) := by
  subst hM
  refine lop1 (I := fun a0 => ∃ i : Nat, i ≤ N ∧ a0 = nI i ∧ P i ) (fun a0 => N - (a0).toNatClampNeg) ?_ 0 ⟨0, Nat.zero_le _, nI_0.symm, h0⟩
  rintro a0 again ⟨i, hi, rfl, hp⟩ hag
  refine ⟨fun hc => ?_, fun hc => ?_⟩
  · have e : i = N := by
      rcases Nat.lt_or_ge i N with q | q
      · exact absurd hc (nI_ge q (by omega))
      · omega
    subst e
    exact he  hp
  · have hlt : i < N := by
      rcases Nat.lt_or_ge i N with q | q
      · exact q
      · exact absurd (nI_le q (by omega)) hc
    refine hb i  again hlt hp (fun  hp2 => hag _ ⟨i + 1, hlt, nI_1 i, hp2⟩ ?_)
    show N - (nI i + 1).toNatClampNeg < N - (nI i).toNatClampNeg
    rw [nI_1, nI_clamp (by omega), nI_clamp (by omega)]
    omega
theorem lofE2_0 {A1 : Type} {M : Int32} {bot : Int32 → A1 → Prop} {E : Int32 → A1 → Prop} {B : (Int32 → A1 → Prop) → Int32 → A1 → Prop} (N : Nat) (hN : N < 2000000000) (hM : M = nI N) (P : Nat → A1 → Prop) (he : ∀ (a1 : A1), P N a1 → E (nI N) a1) (hb : ∀ (i : Nat) (a1 : A1) (again : Int32 → A1 → Prop), i < N → P i a1 → (∀ (b1 : A1), P (i + 1) b1 → again (nI i + 1) b1) → B again (nI i) a1) (a1 : A1) (h0 : P 0 a1) :
    lo bot (fun (again : Int32 → A1 → Prop) (a0 : Int32) (a1 : A1) => (M ≤ a0 → E a0 a1) ∧ (¬ M ≤ a0 → B again a0 a1)) (fun r => r 0 a1) := by
  subst hM
  refine lop2 (I := fun a0 a1 => ∃ i : Nat, i ≤ N ∧ a0 = nI i ∧ P i a1) (fun a0 a1 => N - (a0).toNatClampNeg) ?_ 0 a1 ⟨0, Nat.zero_le _, nI_0.symm, h0⟩
  rintro a0 a1 again ⟨i, hi, rfl, hp⟩ hag
  refine ⟨fun hc => ?_, fun hc => ?_⟩
  · have e : i = N := by
      rcases Nat.lt_or_ge i N with q | q
      · exact absurd hc (nI_ge q (by omega))
      · omega
    subst e
    exact he a1 hp
  · have hlt : i < N := by
      rcases Nat.lt_or_ge i N with q | q
      · exact q
      · exact absurd (nI_le q (by omega)) hc
    refine hb i a1 again hlt hp (fun b1 hp2 => hag _ b1 ⟨i + 1, hlt, nI_1 i, hp2⟩ ?_)
    show N - (nI i + 1).toNatClampNeg < N - (nI i).toNatClampNeg
    rw [nI_1, nI_clamp (by omega), nI_clamp (by omega)]
    omega
theorem lofE2_1 {A0 : Type} {M : Int32} {bot : A0 → Int32 → Prop} {E : A0 → Int32 → Prop} {B : (A0 → Int32 → Prop) → A0 → Int32 → Prop} (N : Nat) (hN : N < 2000000000) (hM : M = nI N) (P : Nat → A0 → Prop) (he : ∀ (a0 : A0), P N a0 → E a0 (nI N)) (hb : ∀ (i : Nat) (a0 : A0) (again : A0 → Int32 → Prop), i < N → P i a0 → (∀ (b0 : A0), P (i + 1) b0 → again b0 (nI i + 1)) → B again a0 (nI i)) (a0 : A0) (h0 : P 0 a0) :
    lo bot (fun (again : A0 → Int32 → Prop) (a0 : A0) (a1 : Int32) => (M ≤ a1 → E a0 a1) ∧ (¬ M ≤ a1 → B again a0 a1)) (fun r => r a0 0) := by
  subst hM
  refine lop2 (I := fun a0 a1 => ∃ i : Nat, i ≤ N ∧ a1 = nI i ∧ P i a0) (fun a0 a1 => N - (a1).toNatClampNeg) ?_ a0 0 ⟨0, Nat.zero_le _, nI_0.symm, h0⟩
  rintro a0 a1 again ⟨i, hi, rfl, hp⟩ hag
  refine ⟨fun hc => ?_, fun hc => ?_⟩
  · have e : i = N := by
      rcases Nat.lt_or_ge i N with q | q
      · exact absurd hc (nI_ge q (by omega))
      · omega
    subst e
    exact he a0 hp
  · have hlt : i < N := by
      rcases Nat.lt_or_ge i N with q | q
      · exact q
      · exact absurd (nI_le q (by omega)) hc
    refine hb i a0 again hlt hp (fun b0 hp2 => hag b0 _ ⟨i + 1, hlt, nI_1 i, hp2⟩ ?_)
    show N - (nI i + 1).toNatClampNeg < N - (nI i).toNatClampNeg
    rw [nI_1, nI_clamp (by omega), nI_clamp (by omega)]
    omega
theorem lofE3_0 {A1 A2 : Type} {M : Int32} {bot : Int32 → A1 → A2 → Prop} {E : Int32 → A1 → A2 → Prop} {B : (Int32 → A1 → A2 → Prop) → Int32 → A1 → A2 → Prop} (N : Nat) (hN : N < 2000000000) (hM : M = nI N) (P : Nat → A1 → A2 → Prop) (he : ∀ (a1 : A1) (a2 : A2), P N a1 a2 → E (nI N) a1 a2) (hb : ∀ (i : Nat) (a1 : A1) (a2 : A2) (again : Int32 → A1 → A2 → Prop), i < N → P i a1 a2 → (∀ (b1 : A1) (b2 : A2), P (i + 1) b1 b2 → again (nI i + 1) b1 b2) → B again (nI i) a1 a2) (a1 : A1) (a2 : A2) (h0 : P 0 a1 a2) :
    lo bot (fun (again : Int32 → A1 → A2 → Prop) (a0 : Int32) (a1 : A1) (a2 : A2) => (M ≤ a0 → E a0 a1 a2) ∧ (¬ M ≤ a0 → B again a0 a1 a2)) (fun r => r 0 a1 a2) := by
  subst hM
  refine lop3 (I := fun a0 a1 a2 => ∃ i : Nat, i ≤ N ∧ a0 = nI i ∧ P i a1 a2) (fun a0 a1 a2 => N - (a0).toNatClampNeg) ?_ 0 a1 a2 ⟨0, Nat.zero_le _, nI_0.symm, h0⟩
  rintro a0 a1 a2 again ⟨i, hi, rfl, hp⟩ hag
  refine ⟨fun hc => ?_, fun hc => ?_⟩
  · have e : i = N := by
      rcases Nat.lt_or_ge i N with q | q
      · exact absurd hc (nI_ge q (by omega))
      · omega
    subst e
    exact he a1 a2 hp
  · have hlt : i < N := by
      rcases Nat.lt_or_ge i N with q | q
      · exact q
      · exact absurd (nI_le q (by omega)) hc
    refine hb i a1 a2 again hlt hp (fun b1 b2 hp2 => hag _ b1 b2 ⟨i + 1, hlt, nI_1 i, hp2⟩ ?_)
    show N - (nI i + 1).toNatClampNeg < N - (nI i).toNatClampNeg
    rw [nI_1, nI_clamp (by omega), nI_clamp (by omega)]
    omega
theorem lofE3_1 {A0 A2 : Type} {M : Int32} {bot : A0 → Int32 → A2 → Prop} {E : A0 → Int32 → A2 → Prop} {B : (A0 → Int32 → A2 → Prop) → A0 → Int32 → A2 → Prop} (N : Nat) (hN : N < 2000000000) (hM : M = nI N) (P : Nat → A0 → A2 → Prop) (he : ∀ (a0 : A0) (a2 : A2), P N a0 a2 → E a0 (nI N) a2) (hb : ∀ (i : Nat) (a0 : A0) (a2 : A2) (again : A0 → Int32 → A2 → Prop), i < N → P i a0 a2 → (∀ (b0 : A0) (b2 : A2), P (i + 1) b0 b2 → again b0 (nI i + 1) b2) → B again a0 (nI i) a2) (a0 : A0) (a2 : A2) (h0 : P 0 a0 a2) :
    lo bot (fun (again : A0 → Int32 → A2 → Prop) (a0 : A0) (a1 : Int32) (a2 : A2) => (M ≤ a1 → E a0 a1 a2) ∧ (¬ M ≤ a1 → B again a0 a1 a2)) (fun r => r a0 0 a2) := by
  subst hM
  refine lop3 (I := fun a0 a1 a2 => ∃ i : Nat, i ≤ N ∧ a1 = nI i ∧ P i a0 a2) (fun a0 a1 a2 => N - (a1).toNatClampNeg) ?_ a0 0 a2 ⟨0, Nat.zero_le _, nI_0.symm, h0⟩
  rintro a0 a1 a2 again ⟨i, hi, rfl, hp⟩ hag
  refine ⟨fun hc => ?_, fun hc => ?_⟩
  · have e : i = N := by
      rcases Nat.lt_or_ge i N with q | q
      · exact absurd hc (nI_ge q (by omega))
      · omega
    subst e
    exact he a0 a2 hp
  · have hlt : i < N := by
      rcases Nat.lt_or_ge i N with q | q
      · exact q
      · exact absurd (nI_le q (by omega)) hc
    refine hb i a0 a2 again hlt hp (fun b0 b2 hp2 => hag b0 _ b2 ⟨i + 1, hlt, nI_1 i, hp2⟩ ?_)
    show N - (nI i + 1).toNatClampNeg < N - (nI i).toNatClampNeg
    rw [nI_1, nI_clamp (by omega), nI_clamp (by omega)]
    omega
theorem lofE3_2 {A0 A1 : Type} {M : Int32} {bot : A0 → A1 → Int32 → Prop} {E : A0 → A1 → Int32 → Prop} {B : (A0 → A1 → Int32 → Prop) → A0 → A1 → Int32 → Prop} (N : Nat) (hN : N < 2000000000) (hM : M = nI N) (P : Nat → A0 → A1 → Prop) (he : ∀ (a0 : A0) (a1 : A1), P N a0 a1 → E a0 a1 (nI N)) (hb : ∀ (i : Nat) (a0 : A0) (a1 : A1) (again : A0 → A1 → Int32 → Prop), i < N → P i a0 a1 → (∀ (b0 : A0) (b1 : A1), P (i + 1) b0 b1 → again b0 b1 (nI i + 1)) → B again a0 a1 (nI i)) (a0 : A0) (a1 : A1) (h0 : P 0 a0 a1) :
    lo bot (fun (again : A0 → A1 → Int32 → Prop) (a0 : A0) (a1 : A1) (a2 : Int32) => (M ≤ a2 → E a0 a1 a2) ∧ (¬ M ≤ a2 → B again a0 a1 a2)) (fun r => r a0 a1 0) := by
  subst hM
  refine lop3 (I := fun a0 a1 a2 => ∃ i : Nat, i ≤ N ∧ a2 = nI i ∧ P i a0 a1) (fun a0 a1 a2 => N - (a2).toNatClampNeg) ?_ a0 a1 0 ⟨0, Nat.zero_le _, nI_0.symm, h0⟩
  rintro a0 a1 a2 again ⟨i, hi, rfl, hp⟩ hag
  refine ⟨fun hc => ?_, fun hc => ?_⟩
  · have e : i = N := by
      rcases Nat.lt_or_ge i N with q | q
      · exact absurd hc (nI_ge q (by omega))
      · omega
    subst e
    exact he a0 a1 hp
  · have hlt : i < N := by
      rcases Nat.lt_or_ge i N with q | q
      · exact q
      · exact absurd (nI_le q (by omega)) hc
    refine hb i a0 a1 again hlt hp (fun b0 b1 hp2 => hag b0 b1 _ ⟨i + 1, hlt, nI_1 i, hp2⟩ ?_)
    show N - (nI i + 1).toNatClampNeg < N - (nI i).toNatClampNeg
    rw [nI_1, nI_clamp (by omega), nI_clamp (by omega)]
    omega
theorem lofE4_0 {A1 A2 A3 : Type} {M : Int32} {bot : Int32 → A1 → A2 → A3 → Prop} {E : Int32 → A1 → A2 → A3 → Prop} {B : (Int32 → A1 → A2 → A3 → Prop) → Int32 → A1 → A2 → A3 → Prop} (N : Nat) (hN : N < 2000000000) (hM : M = nI N) (P : Nat → A1 → A2 → A3 → Prop) (he : ∀ (a1 : A1) (a2 : A2) (a3 : A3), P N a1 a2 a3 → E (nI N) a1 a2 a3) (hb : ∀ (i : Nat) (a1 : A1) (a2 : A2) (a3 : A3) (again : Int32 → A1 → A2 → A3 → Prop), i < N → P i a1 a2 a3 → (∀ (b1 : A1) (b2 : A2) (b3 : A3), P (i + 1) b1 b2 b3 → again (nI i + 1) b1 b2 b3) → B again (nI i) a1 a2 a3) (a1 : A1) (a2 : A2) (a3 : A3) (h0 : P 0 a1 a2 a3) :
    lo bot (fun (again : Int32 → A1 → A2 → A3 → Prop) (a0 : Int32) (a1 : A1) (a2 : A2) (a3 : A3) => (M ≤ a0 → E a0 a1 a2 a3) ∧ (¬ M ≤ a0 → B again a0 a1 a2 a3)) (fun r => r 0 a1 a2 a3) := by
  subst hM
  refine lop4 (I := fun a0 a1 a2 a3 => ∃ i : Nat, i ≤ N ∧ a0 = nI i ∧ P i a1 a2 a3) (fun a0 a1 a2 a3 => N - (a0).toNatClampNeg) ?_ 0 a1 a2 a3 ⟨0, Nat.zero_le _, nI_0.symm, h0⟩
  rintro a0 a1 a2 a3 again ⟨i, hi, rfl, hp⟩ hag
  refine ⟨fun hc => ?_, fun hc => ?_⟩
  · have e : i = N := by
      rcases Nat.lt_or_ge i N with q | q
      · exact absurd hc (nI_ge q (by omega))
      · omega
    subst e
    exact he a1 a2 a3 hp
  · have hlt : i < N := by
      rcases Nat.lt_or_ge i N with q | q
      · exact q
      · exact absurd (nI_le q (by omega)) hc
    refine hb i a1 a2 a3 again hlt hp (fun b1 b2 b3 hp2 => hag _ b1 b2 b3 ⟨i + 1, hlt, nI_1 i, hp2⟩ ?_)
    show N - (nI i + 1).toNatClampNeg < N - (nI i).toNatClampNeg
    rw [nI_1, nI_clamp (by omega), nI_clamp (by omega)]
    omega
theorem lofE4_1 {A0 A2 A3 : Type} {M : Int32} {bot : A0 → Int32 → A2 → A3 → Prop} {E : A0 → Int32 → A2 → A3 → Prop} {B : (A0 → Int32 → A2 → A3 → Prop) → A0 → Int32 → A2 → A3 → Prop} (N : Nat) (hN : N < 2000000000) (hM : M = nI N) (P : Nat → A0 → A2 → A3 → Prop) (he : ∀ (a0 : A0) (a2 : A2) (a3 : A3), P N a0 a2 a3 → E a0 (nI N) a2 a3) (hb : ∀ (i : Nat) (a0 : A0) (a2 : A2) (a3 : A3) (again : A0 → Int32 → A2 → A3 → Prop), i < N → P i a0 a2 a3 → (∀ (b0 : A0) (b2 : A2) (b3 : A3), P (i + 1) b0 b2 b3 → again b0 (nI i + 1) b2 b3) → B again a0 (nI i) a2 a3) (a0 : A0) (a2 : A2) (a3 : A3) (h0 : P 0 a0 a2 a3) :
    lo bot (fun (again : A0 → Int32 → A2 → A3 → Prop) (a0 : A0) (a1 : Int32) (a2 : A2) (a3 : A3) => (M ≤ a1 → E a0 a1 a2 a3) ∧ (¬ M ≤ a1 → B again a0 a1 a2 a3)) (fun r => r a0 0 a2 a3) := by
  subst hM
  refine lop4 (I := fun a0 a1 a2 a3 => ∃ i : Nat, i ≤ N ∧ a1 = nI i ∧ P i a0 a2 a3) (fun a0 a1 a2 a3 => N - (a1).toNatClampNeg) ?_ a0 0 a2 a3 ⟨0, Nat.zero_le _, nI_0.symm, h0⟩
  rintro a0 a1 a2 a3 again ⟨i, hi, rfl, hp⟩ hag
  refine ⟨fun hc => ?_, fun hc => ?_⟩
  · have e : i = N := by
      rcases Nat.lt_or_ge i N with q | q
      · exact absurd hc (nI_ge q (by omega))
      · omega
    subst e
    exact he a0 a2 a3 hp
  · have hlt : i < N := by
      rcases Nat.lt_or_ge i N with q | q
      · exact q
      · exact absurd (nI_le q (by omega)) hc
    refine hb i a0 a2 a3 again hlt hp (fun b0 b2 b3 hp2 => hag b0 _ b2 b3 ⟨i + 1, hlt, nI_1 i, hp2⟩ ?_)
    show N - (nI i + 1).toNatClampNeg < N - (nI i).toNatClampNeg
    rw [nI_1, nI_clamp (by omega), nI_clamp (by omega)]
    omega
theorem lofE4_2 {A0 A1 A3 : Type} {M : Int32} {bot : A0 → A1 → Int32 → A3 → Prop} {E : A0 → A1 → Int32 → A3 → Prop} {B : (A0 → A1 → Int32 → A3 → Prop) → A0 → A1 → Int32 → A3 → Prop} (N : Nat) (hN : N < 2000000000) (hM : M = nI N) (P : Nat → A0 → A1 → A3 → Prop) (he : ∀ (a0 : A0) (a1 : A1) (a3 : A3), P N a0 a1 a3 → E a0 a1 (nI N) a3) (hb : ∀ (i : Nat) (a0 : A0) (a1 : A1) (a3 : A3) (again : A0 → A1 → Int32 → A3 → Prop), i < N → P i a0 a1 a3 → (∀ (b0 : A0) (b1 : A1) (b3 : A3), P (i + 1) b0 b1 b3 → again b0 b1 (nI i + 1) b3) → B again a0 a1 (nI i) a3) (a0 : A0) (a1 : A1) (a3 : A3) (h0 : P 0 a0 a1 a3) :
    lo bot (fun (again : A0 → A1 → Int32 → A3 → Prop) (a0 : A0) (a1 : A1) (a2 : Int32) (a3 : A3) => (M ≤ a2 → E a0 a1 a2 a3) ∧ (¬ M ≤ a2 → B again a0 a1 a2 a3)) (fun r => r a0 a1 0 a3) := by
  subst hM
  refine lop4 (I := fun a0 a1 a2 a3 => ∃ i : Nat, i ≤ N ∧ a2 = nI i ∧ P i a0 a1 a3) (fun a0 a1 a2 a3 => N - (a2).toNatClampNeg) ?_ a0 a1 0 a3 ⟨0, Nat.zero_le _, nI_0.symm, h0⟩
  rintro a0 a1 a2 a3 again ⟨i, hi, rfl, hp⟩ hag
  refine ⟨fun hc => ?_, fun hc => ?_⟩
  · have e : i = N := by
      rcases Nat.lt_or_ge i N with q | q
      · exact absurd hc (nI_ge q (by omega))
      · omega
    subst e
    exact he a0 a1 a3 hp
  · have hlt : i < N := by
      rcases Nat.lt_or_ge i N with q | q
      · exact q
      · exact absurd (nI_le q (by omega)) hc
    refine hb i a0 a1 a3 again hlt hp (fun b0 b1 b3 hp2 => hag b0 b1 _ b3 ⟨i + 1, hlt, nI_1 i, hp2⟩ ?_)
    show N - (nI i + 1).toNatClampNeg < N - (nI i).toNatClampNeg
    rw [nI_1, nI_clamp (by omega), nI_clamp (by omega)]
    omega
theorem lofE4_3 {A0 A1 A2 : Type} {M : Int32} {bot : A0 → A1 → A2 → Int32 → Prop} {E : A0 → A1 → A2 → Int32 → Prop} {B : (A0 → A1 → A2 → Int32 → Prop) → A0 → A1 → A2 → Int32 → Prop} (N : Nat) (hN : N < 2000000000) (hM : M = nI N) (P : Nat → A0 → A1 → A2 → Prop) (he : ∀ (a0 : A0) (a1 : A1) (a2 : A2), P N a0 a1 a2 → E a0 a1 a2 (nI N)) (hb : ∀ (i : Nat) (a0 : A0) (a1 : A1) (a2 : A2) (again : A0 → A1 → A2 → Int32 → Prop), i < N → P i a0 a1 a2 → (∀ (b0 : A0) (b1 : A1) (b2 : A2), P (i + 1) b0 b1 b2 → again b0 b1 b2 (nI i + 1)) → B again a0 a1 a2 (nI i)) (a0 : A0) (a1 : A1) (a2 : A2) (h0 : P 0 a0 a1 a2) :
    lo bot (fun (again : A0 → A1 → A2 → Int32 → Prop) (a0 : A0) (a1 : A1) (a2 : A2) (a3 : Int32) => (M ≤ a3 → E a0 a1 a2 a3) ∧ (¬ M ≤ a3 → B again a0 a1 a2 a3)) (fun r => r a0 a1 a2 0) := by
  subst hM
  refine lop4 (I := fun a0 a1 a2 a3 => ∃ i : Nat, i ≤ N ∧ a3 = nI i ∧ P i a0 a1 a2) (fun a0 a1 a2 a3 => N - (a3).toNatClampNeg) ?_ a0 a1 a2 0 ⟨0, Nat.zero_le _, nI_0.symm, h0⟩
  rintro a0 a1 a2 a3 again ⟨i, hi, rfl, hp⟩ hag
  refine ⟨fun hc => ?_, fun hc => ?_⟩
  · have e : i = N := by
      rcases Nat.lt_or_ge i N with q | q
      · exact absurd hc (nI_ge q (by omega))
      · omega
    subst e
    exact he a0 a1 a2 hp
  · have hlt : i < N := by
      rcases Nat.lt_or_ge i N with q | q
      · exact q
      · exact absurd (nI_le q (by omega)) hc
    refine hb i a0 a1 a2 again hlt hp (fun b0 b1 b2 hp2 => hag b0 b1 b2 _ ⟨i + 1, hlt, nI_1 i, hp2⟩ ?_)
    show N - (nI i + 1).toNatClampNeg < N - (nI i).toNatClampNeg
    rw [nI_1, nI_clamp (by omega), nI_clamp (by omega)]
    omega
theorem lofE5_0 {A1 A2 A3 A4 : Type} {M : Int32} {bot : Int32 → A1 → A2 → A3 → A4 → Prop} {E : Int32 → A1 → A2 → A3 → A4 → Prop} {B : (Int32 → A1 → A2 → A3 → A4 → Prop) → Int32 → A1 → A2 → A3 → A4 → Prop} (N : Nat) (hN : N < 2000000000) (hM : M = nI N) (P : Nat → A1 → A2 → A3 → A4 → Prop) (he : ∀ (a1 : A1) (a2 : A2) (a3 : A3) (a4 : A4), P N a1 a2 a3 a4 → E (nI N) a1 a2 a3 a4) (hb : ∀ (i : Nat) (a1 : A1) (a2 : A2) (a3 : A3) (a4 : A4) (again : Int32 → A1 → A2 → A3 → A4 → Prop), i < N → P i a1 a2 a3 a4 → (∀ (b1 : A1) (b2 : A2) (b3 : A3) (b4 : A4), P (i + 1) b1 b2 b3 b4 → again (nI i + 1) b1 b2 b3 b4) → B again (nI i) a1 a2 a3 a4) (a1 : A1) (a2 : A2) (a3 : A3) (a4 : A4) (h0 : P 0 a1 a2 a3 a4) :
    lo bot (fun (again : Int32 → A1 → A2 → A3 → A4 → Prop) (a0 : Int32) (a1 : A1) (a2 : A2) (a3 : A3) (a4 : A4) => (M ≤ a0 → E a0 a1 a2 a3 a4) ∧ (¬ M ≤ a0 → B again a0 a1 a2 a3 a4)) (fun r => r 0 a1 a2 a3 a4) := by
  subst hM
  refine lop5 (I := fun a0 a1 a2 a3 a4 => ∃ i : Nat, i ≤ N ∧ a0 = nI i ∧ P i a1 a2 a3 a4) (fun a0 a1 a2 a3 a4 => N - (a0).toNatClampNeg) ?_ 0 a1 a2 a3 a4 ⟨0, Nat.zero_le _, nI_0.symm, h0⟩
  rintro a0 a1 a2 a3 a4 again ⟨i, hi, rfl, hp⟩ hag
  refine ⟨fun hc => ?_, fun hc => ?_⟩
  · have e : i = N := by
      rcases Nat.lt_or_ge i N with q | q
      · exact absurd hc (nI_ge q (by omega))
      · omega
    subst e
    exact he a1 a2 a3 a4 hp
  · have hlt : i < N := by
      rcases Nat.lt_or_ge i N with q | q
      · exact q
      · exact absurd (nI_le q (by omega)) hc
    refine hb i a1 a2 a3 a4 again hlt hp (fun b1 b2 b3 b4 hp2 => hag _ b1 b2 b3 b4 ⟨i + 1, hlt, nI_1 i, hp2⟩ ?_)
    show N - (nI i + 1).toNatClampNeg < N - (nI i).toNatClampNeg
    rw [nI_1, nI_clamp (by omega), nI_clamp (by omega)]
    omega
theorem lofE5_1 {A0 A2 A3 A4 : Type} {M : Int32} {bot : A0 → Int32 → A2 → A3 → A4 → Prop} {E : A0 → Int32 → A2 → A3 → A4 → Prop} {B : (A0 → Int32 → A2 → A3 → A4 → Prop) → A0 → Int32 → A2 → A3 → A4 → Prop} (N : Nat) (hN : N < 2000000000) (hM : M = nI N) (P : Nat → A0 → A2 → A3 → A4 → Prop) (he : ∀ (a0 : A0) (a2 : A2) (a3 : A3) (a4 : A4), P N a0 a2 a3 a4 → E a0 (nI N) a2 a3 a4) (hb : ∀ (i : Nat) (a0 : A0) (a2 : A2) (a3 : A3) (a4 : A4) (again : A0 → Int32 → A2 → A3 → A4 → Prop), i < N → P i a0 a2 a3 a4 → (∀ (b0 : A0) (b2 : A2) (b3 : A3) (b4 : A4), P (i + 1) b0 b2 b3 b4 → again b0 (nI i + 1) b2 b3 b4) → B again a0 (nI i) a2 a3 a4) (a0 : A0) (a2 : A2) (a3 : A3) (a4 : A4) (h0 : P 0 a0 a2 a3 a4) :
    lo bot (fun (again : A0 → Int32 → A2 → A3 → A4 → Prop) (a0 : A0) (a1 : Int32) (a2 : A2) (a3 : A3) (a4 : A4) => (M ≤ a1 → E a0 a1 a2 a3 a4) ∧ (¬ M ≤ a1 → B again a0 a1 a2 a3 a4)) (fun r => r a0 0 a2 a3 a4) := by
  subst hM
  refine lop5 (I := fun a0 a1 a2 a3 a4 => ∃ i : Nat, i ≤ N ∧ a1 = nI i ∧ P i a0 a2 a3 a4) (fun a0 a1 a2 a3 a4 => N - (a1).toNatClampNeg) ?_ a0 0 a2 a3 a4 ⟨0, Nat.zero_le _, nI_0.symm, h0⟩
  rintro a0 a1 a2 a3 a4 again ⟨i, hi, rfl, hp⟩ hag
  refine ⟨fun hc => ?_, fun hc => ?_⟩
  · have e : i = N := by
      rcases Nat.lt_or_ge i N with q | q
      · exact absurd hc (nI_ge q (by omega))
      · omega
    subst e
    exact he a0 a2 a3 a4 hp
  · have hlt : i < N := by
      rcases Nat.lt_or_ge i N with q | q
      · exact q
      · exact absurd (nI_le q (by omega)) hc
    refine hb i a0 a2 a3 a4 again hlt hp (fun b0 b2 b3 b4 hp2 => hag b0 _ b2 b3 b4 ⟨i + 1, hlt, nI_1 i, hp2⟩ ?_)
    show N - (nI i + 1).toNatClampNeg < N - (nI i).toNatClampNeg
    rw [nI_1, nI_clamp (by omega), nI_clamp (by omega)]
    omega
theorem lofE5_2 {A0 A1 A3 A4 : Type} {M : Int32} {bot : A0 → A1 → Int32 → A3 → A4 → Prop} {E : A0 → A1 → Int32 → A3 → A4 → Prop} {B : (A0 → A1 → Int32 → A3 → A4 → Prop) → A0 → A1 → Int32 → A3 → A4 → Prop} (N : Nat) (hN : N < 2000000000) (hM : M = nI N) (P : Nat → A0 → A1 → A3 → A4 → Prop) (he : ∀ (a0 : A0) (a1 : A1) (a3 : A3) (a4 : A4), P N a0 a1 a3 a4 → E a0 a1 (nI N) a3 a4) (hb : ∀ (i : Nat) (a0 : A0) (a1 : A1) (a3 : A3) (a4 : A4) (again : A0 → A1 → Int32 → A3 → A4 → Prop), i < N → P i a0 a1 a3 a4 → (∀ (b0 : A0) (b1 : A1) (b3 : A3) (b4 : A4), P (i + 1) b0 b1 b3 b4 → again b0 b1 (nI i + 1) b3 b4) → B again a0 a1 (nI i) a3 a4) (a0 : A0) (a1 : A1) (a3 : A3) (a4 : A4) (h0 : P 0 a0 a1 a3 a4) :
    lo bot (fun (again : A0 → A1 → Int32 → A3 → A4 → Prop) (a0 : A0) (a1 : A1) (a2 : Int32) (a3 : A3) (a4 : A4) => (M ≤ a2 → E a0 a1 a2 a3 a4) ∧ (¬ M ≤ a2 → B again a0 a1 a2 a3 a4)) (fun r => r a0 a1 0 a3 a4) := by
  subst hM
  refine lop5 (I := fun a0 a1 a2 a3 a4 => ∃ i : Nat, i ≤ N ∧ a2 = nI i ∧ P i a0 a1 a3 a4) (fun a0 a1 a2 a3 a4 => N - (a2).toNatClampNeg) ?_ a0 a1 0 a3 a4 ⟨0, Nat.zero_le _, nI_0.symm, h0⟩
  rintro a0 a1 a2 a3 a4 again ⟨i, hi, rfl, hp⟩ hag
  refine ⟨fun hc => ?_, fun hc => ?_⟩
  · have e : i = N := by
      rcases Nat.lt_or_ge i N with q | q
      · exact absurd hc (nI_ge q (by omega))
      · omega
    subst e
    exact he a0 a1 a3 a4 hp
  · have hlt : i < N := by
      rcases Nat.lt_or_ge i N with q | q
      · exact q
      · exact absurd (nI_le q (by omega)) hc
    refine hb i a0 a1 a3 a4 again hlt hp (fun b0 b1 b3 b4 hp2 => hag b0 b1 _ b3 b4 ⟨i + 1, hlt, nI_1 i, hp2⟩ ?_)
    show N - (nI i + 1).toNatClampNeg < N - (nI i).toNatClampNeg
    rw [nI_1, nI_clamp (by omega), nI_clamp (by omega)]
    omega
theorem lofE5_3 {A0 A1 A2 A4 : Type} {M : Int32} {bot : A0 → A1 → A2 → Int32 → A4 → Prop} {E : A0 → A1 → A2 → Int32 → A4 → Prop} {B : (A0 → A1 → A2 → Int32 → A4 → Prop) → A0 → A1 → A2 → Int32 → A4 → Prop} (N : Nat) (hN : N < 2000000000) (hM : M = nI N) (P : Nat → A0 → A1 → A2 → A4 → Prop) (he : ∀ (a0 : A0) (a1 : A1) (a2 : A2) (a4 : A4), P N a0 a1 a2 a4 → E a0 a1 a2 (nI N) a4) (hb : ∀ (i : Nat) (a0 : A0) (a1 : A1) (a2 : A2) (a4 : A4) (again : A0 → A1 → A2 → Int32 → A4 → Prop), i < N → P i a0 a1 a2 a4 → (∀ (b0 : A0) (b1 : A1) (b2 : A2) (b4 : A4), P (i + 1) b0 b1 b2 b4 → again b0 b1 b2 (nI i + 1) b4) → B again a0 a1 a2 (nI i) a4) (a0 : A0) (a1 : A1) (a2 : A2) (a4 : A4) (h0 : P 0 a0 a1 a2 a4) :
    lo bot (fun (again : A0 → A1 → A2 → Int32 → A4 → Prop) (a0 : A0) (a1 : A1) (a2 : A2) (a3 : Int32) (a4 : A4) => (M ≤ a3 → E a0 a1 a2 a3 a4) ∧ (¬ M ≤ a3 → B again a0 a1 a2 a3 a4)) (fun r => r a0 a1 a2 0 a4) := by
  subst hM
  refine lop5 (I := fun a0 a1 a2 a3 a4 => ∃ i : Nat, i ≤ N ∧ a3 = nI i ∧ P i a0 a1 a2 a4) (fun a0 a1 a2 a3 a4 => N - (a3).toNatClampNeg) ?_ a0 a1 a2 0 a4 ⟨0, Nat.zero_le _, nI_0.symm, h0⟩
  rintro a0 a1 a2 a3 a4 again ⟨i, hi, rfl, hp⟩ hag
  refine ⟨fun hc => ?_, fun hc => ?_⟩
  · have e : i = N := by
      rcases Nat.lt_or_ge i N with q | q
      · exact absurd hc (nI_ge q (by omega))
      · omega
    subst e
    exact he a0 a1 a2 a4 hp
  · have hlt : i < N := by
      rcases Nat.lt_or_ge i N with q | q
      · exact q
      · exact absurd (nI_le q (by omega)) hc
    refine hb i a0 a1 a2 a4 again hlt hp (fun b0 b1 b2 b4 hp2 => hag b0 b1 b2 _ b4 ⟨i + 1, hlt, nI_1 i, hp2⟩ ?_)
    show N - (nI i + 1).toNatClampNeg < N - (nI i).toNatClampNeg
    rw [nI_1, nI_clamp (by omega), nI_clamp (by omega)]
    omega
theorem lofE6_0 {A1 A2 A3 A4 A5 : Type} {M : Int32} {bot : Int32 → A1 → A2 → A3 → A4 → A5 → Prop} {E : Int32 → A1 → A2 → A3 → A4 → A5 → Prop} {B : (Int32 → A1 → A2 → A3 → A4 → A5 → Prop) → Int32 → A1 → A2 → A3 → A4 → A5 → Prop} (N : Nat) (hN : N < 2000000000) (hM : M = nI N) (P : Nat → A1 → A2 → A3 → A4 → A5 → Prop) (he : ∀ (a1 : A1) (a2 : A2) (a3 : A3) (a4 : A4) (a5 : A5), P N a1 a2 a3 a4 a5 → E (nI N) a1 a2 a3 a4 a5) (hb : ∀ (i : Nat) (a1 : A1) (a2 : A2) (a3 : A3) (a4 : A4) (a5 : A5) (again : Int32 → A1 → A2 → A3 → A4 → A5 → Prop), i < N → P i a1 a2 a3 a4 a5 → (∀ (b1 : A1) (b2 : A2) (b3 : A3) (b4 : A4) (b5 : A5), P (i + 1) b1 b2 b3 b4 b5 → again (nI i + 1) b1 b2 b3 b4 b5) → B again (nI i) a1 a2 a3 a4 a5) (a1 : A1) (a2 : A2) (a3 : A3) (a4 : A4) (a5 : A5) (h0 : P 0 a1 a2 a3 a4 a5) :
    lo bot (fun (again : Int32 → A1 → A2 → A3 → A4 → A5 → Prop) (a0 : Int32) (a1 : A1) (a2 : A2) (a3 : A3) (a4 : A4) (a5 : A5) => (M ≤ a0 → E a0 a1 a2 a3 a4 a5) ∧ (¬ M ≤ a0 → B again a0 a1 a2 a3 a4 a5)) (fun r => r 0 a1 a2 a3 a4 a5) := by
  subst hM
  refine lop6 (I := fun a0 a1 a2 a3 a4 a5 => ∃ i : Nat, i ≤ N ∧ a0 = nI i ∧ P i a1 a2 a3 a4 a5) (fun a0 a1 a2 a3 a4 a5 => N - (a0).toNatClampNeg) ?_ 0 a1 a2 a3 a4 a5 ⟨0, Nat.zero_le _, nI_0.symm, h0⟩
  rintro a0 a1 a2 a3 a4 a5 again ⟨i, hi, rfl, hp⟩ hag
  refine ⟨fun hc => ?_, fun hc => ?_⟩
  · have e : i = N := by
      rcases Nat.lt_or_ge i N with q | q
      · exact absurd hc (nI_ge q (by omega))
      · omega
    subst e
    exact he a1 a2 a3 a4 a5 hp
  · have hlt : i < N := by
      rcases Nat.lt_or_ge i N with q | q
      · exact q
      · exact absurd (nI_le q (by omega)) hc
    refine hb i a1 a2 a3 a4 a5 again hlt hp (fun b1 b2 b3 b4 b5 hp2 => hag _ b1 b2 b3 b4 b5 ⟨i + 1, hlt, nI_1 i, hp2⟩ ?_)
    show N - (nI i + 1).toNatClampNeg < N - (nI i).toNatClampNeg
    rw [nI_1, nI_clamp (by omega), nI_clamp (by omega)]
    omega
theorem lofE6_1 {A0 A2 A3 A4 A5 : Type} {M : Int32} {bot : A0 → Int32 → A2 → A3 → A4 → A5 → Prop} {E : A0 → Int32 → A2 → A3 → A4 → A5 → Prop} {B : (A0 → Int32 → A2 → A3 → A4 → A5 → Prop) → A0 → Int32 → A2 → A3 → A4 → A5 → Prop} (N : Nat) (hN : N < 2000000000) (hM : M = nI N) (P : Nat → A0 → A2 → A3 → A4 → A5 → Prop) (he : ∀ (a0 : A0) (a2 : A2) (a3 : A3) (a4 : A4) (a5 : A5), P N a0 a2 a3 a4 a5 → E a0 (nI N) a2 a3 a4 a5) (hb : ∀ (i : Nat) (a0 : A0) (a2 : A2) (a3 : A3) (a4 : A4) (a5 : A5) (again : A0 → Int32 → A2 → A3 → A4 → A5 → Prop), i < N → P i a0 a2 a3 a4 a5 → (∀ (b0 : A0) (b2 : A2) (b3 : A3) (b4 : A4) (b5 : A5), P (i + 1) b0 b2 b3 b4 b5 → again b0 (nI i + 1) b2 b3 b4 b5) → B again a0 (nI i) a2 a3 a4 a5) (a0 : A0) (a2 : A2) (a3 : A3) (a4 : A4) (a5 : A5) (h0 : P 0 a0 a2 a3 a4 a5) :
    lo bot (fun (again : A0 → Int32 → A2 → A3 → A4 → A5 → Prop) (a0 : A0) (a1 : Int32) (a2 : A2) (a3 : A3) (a4 : A4) (a5 : A5) => (M ≤ a1 → E a0 a1 a2 a3 a4 a5) ∧ (¬ M ≤ a1 → B again a0 a1 a2 a3 a4 a5)) (fun r => r a0 0 a2 a3 a4 a5) := by
  subst hM
  refine lop6 (I := fun a0 a1 a2 a3 a4 a5 => ∃ i : Nat, i ≤ N ∧ a1 = nI i ∧ P i a0 a2 a3 a4 a5) (fun a0 a1 a2 a3 a4 a5 => N - (a1).toNatClampNeg) ?_ a0 0 a2 a3 a4 a5 ⟨0, Nat.zero_le _, nI_0.symm, h0⟩
  rintro a0 a1 a2 a3 a4 a5 again ⟨i, hi, rfl, hp⟩ hag
  refine ⟨fun hc => ?_, fun hc => ?_⟩
  · have e : i = N := by
      rcases Nat.lt_or_ge i N with q | q
      · exact absurd hc (nI_ge q (by omega))
      · omega
    subst e
    exact he a0 a2 a3 a4 a5 hp
  · have hlt : i < N := by
      rcases Nat.lt_or_ge i N with q | q
      · exact q
      · exact absurd (nI_le q (by omega)) hc
    refine hb i a0 a2 a3 a4 a5 again hlt hp (fun b0 b2 b3 b4 b5 hp2 => hag b0 _ b2 b3 b4 b5 ⟨i + 1, hlt, nI_1 i, hp2⟩ ?_)
    show N - (nI i + 1).toNatClampNeg < N - (nI i).toNatClampNeg
    rw [nI_1, nI_clamp (by omega), nI_clamp (by omega)]
    omega
theorem lofE6_2 {A0 A1 A3 A4 A5 : Type} {M : Int32} {bot : A0 → A1 → Int32 → A3 → A4 → A5 → Prop} {E : A0 → A1 → Int32 → A3 → A4 → A5 → Prop} {B : (A0 → A1 → Int32 → A3 → A4 → A5 → Prop) → A0 → A1 → Int32 → A3 → A4 → A5 → Prop} (N : Nat) (hN : N < 2000000000) (hM : M = nI N) (P : Nat → A0 → A1 → A3 → A4 → A5 → Prop) (he : ∀ (a0 : A0) (a1 : A1) (a3 : A3) (a4 : A4) (a5 : A5), P N a0 a1 a3 a4 a5 → E a0 a1 (nI N) a3 a4 a5) (hb : ∀ (i : Nat) (a0 : A0) (a1 : A1) (a3 : A3) (a4 : A4) (a5 : A5) (again : A0 → A1 → Int32 → A3 → A4 → A5 → Prop), i < N → P i a0 a1 a3 a4 a5 → (∀ (b0 : A0) (b1 : A1) (b3 : A3) (b4 : A4) (b5 : A5), P (i + 1) b0 b1 b3 b4 b5 → again b0 b1 (nI i + 1) b3 b4 b5) → B again a0 a1 (nI i) a3 a4 a5) (a0 : A0) (a1 : A1) (a3 : A3) (a4 : A4) (a5 : A5) (h0 : P 0 a0 a1 a3 a4 a5) :
    lo bot (fun (again : A0 → A1 → Int32 → A3 → A4 → A5 → Prop) (a0 : A0) (a1 : A1) (a2 : Int32) (a3 : A3) (a4 : A4) (a5 : A5) => (M ≤ a2 → E a0 a1 a2 a3 a4 a5) ∧ (¬ M ≤ a2 → B again a0 a1 a2 a3 a4 a5)) (fun r => r a0 a1 0 a3 a4 a5) := by
  subst hM
  refine lop6 (I := fun a0 a1 a2 a3 a4 a5 => ∃ i : Nat, i ≤ N ∧ a2 = nI i ∧ P i a0 a1 a3 a4 a5) (fun a0 a1 a2 a3 a4 a5 => N - (a2).toNatClampNeg) ?_ a0 a1 0 a3 a4 a5 ⟨0, Nat.zero_le _, nI_0.symm, h0⟩
  rintro a0 a1 a2 a3 a4 a5 again ⟨i, hi, rfl, hp⟩ hag
  refine ⟨fun hc => ?_, fun hc => ?_⟩
  · have e : i = N := by
      rcases Nat.lt_or_ge i N with q | q
      · exact absurd hc (nI_ge q (by omega))
      · omega
    subst e
    exact he a0 a1 a3 a4 a5 hp
  · have hlt : i < N := by
      rcases Nat.lt_or_ge i N with q | q
      · exact q
      · exact absurd (nI_le q (by omega)) hc
    refine hb i a0 a1 a3 a4 a5 again hlt hp (fun b0 b1 b3 b4 b5 hp2 => hag b0 b1 _ b3 b4 b5 ⟨i + 1, hlt, nI_1 i, hp2⟩ ?_)
    show N - (nI i + 1).toNatClampNeg < N - (nI i).toNatClampNeg
    rw [nI_1, nI_clamp (by omega), nI_clamp (by omega)]
    omega
theorem lofE6_3 {A0 A1 A2 A4 A5 : Type} {M : Int32} {bot : A0 → A1 → A2 → Int32 → A4 → A5 → Prop} {E : A0 → A1 → A2 → Int32 → A4 → A5 → Prop} {B : (A0 → A1 → A2 → Int32 → A4 → A5 → Prop) → A0 → A1 → A2 → Int32 → A4 → A5 → Prop} (N : Nat) (hN : N < 2000000000) (hM : M = nI N) (P : Nat → A0 → A1 → A2 → A4 → A5 → Prop) (he : ∀ (a0 : A0) (a1 : A1) (a2 : A2) (a4 : A4) (a5 : A5), P N a0 a1 a2 a4 a5 → E a0 a1 a2 (nI N) a4 a5) (hb : ∀ (i : Nat) (a0 : A0) (a1 : A1) (a2 : A2) (a4 : A4) (a5 : A5) (again : A0 → A1 → A2 → Int32 → A4 → A5 → Prop), i < N → P i a0 a1 a2 a4 a5 → (∀ (b0 : A0) (b1 : A1) (b2 : A2) (b4 : A4) (b5 : A5), P (i + 1) b0 b1 b2 b4 b5 → again b0 b1 b2 (nI i + 1) b4 b5) → B again a0 a1 a2 (nI i) a4 a5) (a0 : A0) (a1 : A1) (a2 : A2) (a4 : A4) (a5 : A5) (h0 : P 0 a0 a1 a2 a4 a5) :
    lo bot (fun (again : A0 → A1 → A2 → Int32 → A4 → A5 → Prop) (a0 : A0) (a1 : A1) (a2 : A2) (a3 : Int32) (a4 : A4) (a5 : A5) => (M ≤ a3 → E a0 a1 a2 a3 a4 a5) ∧ (¬ M ≤ a3 → B again a0 a1 a2 a3 a4 a5)) (fun r => r a0 a1 a2 0 a4 a5) := by
  subst hM
  refine lop6 (I := fun a0 a1 a2 a3 a4 a5 => ∃ i : Nat, i ≤ N ∧ a3 = nI i ∧ P i a0 a1 a2 a4 a5) (fun a0 a1 a2 a3 a4 a5 => N - (a3).toNatClampNeg) ?_ a0 a1 a2 0 a4 a5 ⟨0, Nat.zero_le _, nI_0.symm, h0⟩
  rintro a0 a1 a2 a3 a4 a5 again ⟨i, hi, rfl, hp⟩ hag
  refine ⟨fun hc => ?_, fun hc => ?_⟩
  · have e : i = N := by
      rcases Nat.lt_or_ge i N with q | q
      · exact absurd hc (nI_ge q (by omega))
      · omega
    subst e
    exact he a0 a1 a2 a4 a5 hp
  · have hlt : i < N := by
      rcases Nat.lt_or_ge i N with q | q
      · exact q
      · exact absurd (nI_le q (by omega)) hc
    refine hb i a0 a1 a2 a4 a5 again hlt hp (fun b0 b1 b2 b4 b5 hp2 => hag b0 b1 b2 _ b4 b5 ⟨i + 1, hlt, nI_1 i, hp2⟩ ?_)
    show N - (nI i + 1).toNatClampNeg < N - (nI i).toNatClampNeg
    rw [nI_1, nI_clamp (by omega), nI_clamp (by omega)]
    omega
theorem lofE7_0 {A1 A2 A3 A4 A5 A6 : Type} {M : Int32} {bot : Int32 → A1 → A2 → A3 → A4 → A5 → A6 → Prop} {E : Int32 → A1 → A2 → A3 → A4 → A5 → A6 → Prop} {B : (Int32 → A1 → A2 → A3 → A4 → A5 → A6 → Prop) → Int32 → A1 → A2 → A3 → A4 → A5 → A6 → Prop} (N : Nat) (hN : N < 2000000000) (hM : M = nI N) (P : Nat → A1 → A2 → A3 → A4 → A5 → A6 → Prop) (he : ∀ (a1 : A1) (a2 : A2) (a3 : A3) (a4 : A4) (a5 : A5) (a6 : A6), P N a1 a2 a3 a4 a5 a6 → E (nI N) a1 a2 a3 a4 a5 a6) (hb : ∀ (i : Nat) (a1 : A1) (a2 : A2) (a3 : A3) (a4 : A4) (a5 : A5) (a6 : A6) (again : Int32 → A1 → A2 → A3 → A4 → A5 → A6 → Prop), i < N → P i a1 a2 a3 a4 a5 a6 → (∀ (b1 : A1) (b2 : A2) (b3 : A3) (b4 : A4) (b5 : A5) (b6 : A6), P (i + 1) b1 b2 b3 b4 b5 b6 → again (nI i + 1) b1 b2 b3 b4 b5 b6) → B again (nI i) a1 a2 a3 a4 a5 a6) (a1 : A1) (a2 : A2) (a3 : A3) (a4 : A4) (a5 : A5) (a6 : A6) (h0 : P 0 a1 a2 a3 a4 a5 a6) :
    lo bot (fun (again : Int32 → A1 → A2 → A3 → A4 → A5 → A6 → Prop) (a0 : Int32) (a1 : A1) (a2 : A2) (a3 : A3) (a4 : A4) (a5 : A5) (a6 : A6) => (M ≤ a0 → E a0 a1 a2 a3 a4 a5 a6) ∧ (¬ M ≤ a0 → B again a0 a1 a2 a3 a4 a5 a6)) (fun r => r 0 a1 a2 a3 a4 a5 a6) := by
  subst hM
  refine lop7 (I := fun a0 a1 a2 a3 a4 a5 a6 => ∃ i : Nat, i ≤ N ∧ a0 = nI i ∧ P i a1 a2 a3 a4 a5 a6) (fun a0 a1 a2 a3 a4 a5 a6 => N - (a0).toNatClampNeg) ?_ 0 a1 a2 a3 a4 a5 a6 ⟨0, Nat.zero_le _, nI_0.symm, h0⟩
  rintro a0 a1 a2 a3 a4 a5 a6 again ⟨i, hi, rfl, hp⟩ hag
  refine ⟨fun hc => ?_, fun hc => ?_⟩
  · have e : i = N := by
      rcases Nat.lt_or_ge i N with q | q
      · exact absurd hc (nI_ge q (by omega))
      · omega
    subst e
    exact he a1 a2 a3 a4 a5 a6 hp
  · have hlt : i < N := by
      rcases Nat.lt_or_ge i N with q | q
      · exact q
      · exact absurd (nI_le q (by omega)) hc
    refine hb i a1 a2 a3 a4 a5 a6 again hlt hp (fun b1 b2 b3 b4 b5 b6 hp2 => hag _ b1 b2 b3 b4 b5 b6 ⟨i + 1, hlt, nI_1 i, hp2⟩ ?_)
    show N - (nI i + 1).toNatClampNeg < N - (nI i).toNatClampNeg
    rw [nI_1, nI_clamp (by omega), nI_clamp (by omega)]
    omega
theorem lofE7_1 {A0 A2 A3 A4 A5 A6 : Type} {M : Int32} {bot : A0 → Int32 → A2 → A3 → A4 → A5 → A6 → Prop} {E : A0 → Int32 → A2 → A3 → A4 → A5 → A6 → Prop} {B : (A0 → Int32 → A2 → A3 → A4 → A5 → A6 → Prop) → A0 → Int32 → A2 → A3 → A4 → A5 → A6 → Prop} (N : Nat) (hN : N < 2000000000) (hM : M = nI N) (P : Nat → A0 → A2 → A3 → A4 → A5 → A6 → Prop) (he : ∀ (a0 : A0) (a2 : A2) (a3 : A3) (a4 : A4) (a5 : A5) (a6 : A6), P N a0 a2 a3 a4 a5 a6 → E a0 (nI N) a2 a3 a4 a5 a6) (hb : ∀ (i : Nat) (a0 : A0) (a2 : A2) (a3 : A3) (a4 : A4) (a5 : A5) (a6 : A6) (again : A0 → Int32 → A2 → A3 → A4 → A5 → A6 → Prop), i < N → P i a0 a2 a3 a4 a5 a6 → (∀ (b0 : A0) (b2 : A2) (b3 : A3) (b4 : A4) (b5 : A5) (b6 : A6), P (i + 1) b0 b2 b3 b4 b5 b6 → again b0 (nI i + 1) b2 b3 b4 b5 b6) → B again a0 (nI i) a2 a3 a4 a5 a6) (a0 : A0) (a2 : A2) (a3 : A3) (a4 : A4) (a5 : A5) (a6 : A6) (h0 : P 0 a0 a2 a3 a4 a5 a6) :
    lo bot (fun (again : A0 → Int32 → A2 → A3 → A4 → A5 → A6 → Prop) (a0 : A0) (a1 : Int32) (a2 : A2) (a3 : A3) (a4 : A4) (a5 : A5) (a6 : A6) => (M ≤ a1 → E a0 a1 a2 a3 a4 a5 a6) ∧ (¬ M ≤ a1 → B again a0 a1 a2 a3 a4 a5 a6)) (fun r => r a0 0 a2 a3 a4 a5 a6) := by
  subst hM
  refine lop7 (I := fun a0 a1 a2 a3 a4 a5 a6 => ∃ i : Nat, i ≤ N ∧ a1 = nI i ∧ P i a0 a2 a3 a4 a5 a6) (fun a0 a1 a2 a3 a4 a5 a6 => N - (a1).toNatClampNeg) ?_ a0 0 a2 a3 a4 a5 a6 ⟨0, Nat.zero_le _, nI_0.symm, h0⟩
  rintro a0 a1 a2 a3 a4 a5 a6 again ⟨i, hi, rfl, hp⟩ hag
  refine ⟨fun hc => ?_, fun hc => ?_⟩
  · have e : i = N := by
      rcases Nat.lt_or_ge i N with q | q
      · exact absurd hc (nI_ge q (by omega))
      · omega
    subst e
    exact he a0 a2 a3 a4 a5 a6 hp
  · have hlt : i < N := by
      rcases Nat.lt_or_ge i N with q | q
      · exact q
      · exact absurd (nI_le q (by omega)) hc
    refine hb i a0 a2 a3 a4 a5 a6 again hlt hp (fun b0 b2 b3 b4 b5 b6 hp2 => hag b0 _ b2 b3 b4 b5 b6 ⟨i + 1, hlt, nI_1 i, hp2⟩ ?_)
    show N - (nI i + 1).toNatClampNeg < N - (nI i).toNatClampNeg
    rw [nI_1, nI_clamp (by omega), nI_clamp (by omega)]
    omega
theorem lofE7_2 {A0 A1 A3 A4 A5 A6 : Type} {M : Int32} {bot : A0 → A1 → Int32 → A3 → A4 → A5 → A6 → Prop} {E : A0 → A1 → Int32 → A3 → A4 → A5 → A6 → Prop} {B : (A0 → A1 → Int32 → A3 → A4 → A5 → A6 → Prop) → A0 → A1 → Int32 → A3 → A4 → A5 → A6 → Prop} (N : Nat) (hN : N < 2000000000) (hM : M = nI N) (P : Nat → A0 → A1 → A3 → A4 → A5 → A6 → Prop) (he : ∀ (a0 : A0) (a1 : A1) (a3 : A3) (a4 : A4) (a5 : A5) (a6 : A6), P N a0 a1 a3 a4 a5 a6 → E a0 a1 (nI N) a3 a4 a5 a6) (hb : ∀ (i : Nat) (a0 : A0) (a1 : A1) (a3 : A3) (a4 : A4) (a5 : A5) (a6 : A6) (again : A0 → A1 → Int32 → A3 → A4 → A5 → A6 → Prop), i < N → P i a0 a1 a3 a4 a5 a6 → (∀ (b0 : A0) (b1 : A1) (b3 : A3) (b4 : A4) (b5 : A5) (b6 : A6), P (i + 1) b0 b1 b3 b4 b5 b6 → again b0 b1 (nI i + 1) b3 b4 b5 b6) → B again a0 a1 (nI i) a3 a4 a5 a6) (a0 : A0) (a1 : A1) (a3 : A3) (a4 : A4) (a5 : A5) (a6 : A6) (h0 : P 0 a0 a1 a3 a4 a5 a6) :
    lo bot (fun (again : A0 → A1 → Int32 → A3 → A4 → A5 → A6 → Prop) (a0 : A0) (a1 : A1) (a2 : Int32) (a3 : A3) (a4 : A4) (a5 : A5) (a6 : A6) => (M ≤ a2 → E a0 a1 a2 a3 a4 a5 a6) ∧ (¬ M ≤ a2 → B again a0 a1 a2 a3 a4 a5 a6)) (fun r => r a0 a1 0 a3 a4 a5 a6) := by
  subst hM
  refine lop7 (I := fun a0 a1 a2 a3 a4 a5 a6 => ∃ i : Nat, i ≤ N ∧ a2 = nI i ∧ P i a0 a1 a3 a4 a5 a6) (fun a0 a1 a2 a3 a4 a5 a6 => N - (a2).toNatClampNeg) ?_ a0 a1 0 a3 a4 a5 a6 ⟨0, Nat.zero_le _, nI_0.symm, h0⟩
  rintro a0 a1 a2 a3 a4 a5 a6 again ⟨i, hi, rfl, hp⟩ hag
  refine ⟨fun hc => ?_, fun hc => ?_⟩
  · have e : i = N := by
      rcases Nat.lt_or_ge i N with q | q
      · exact absurd hc (nI_ge q (by omega))
      · omega
    subst e
    exact he a0 a1 a3 a4 a5 a6 hp
  · have hlt : i < N := by
      rcases Nat.lt_or_ge i N with q | q
      · exact q
      · exact absurd (nI_le q (by omega)) hc
    refine hb i a0 a1 a3 a4 a5 a6 again hlt hp (fun b0 b1 b3 b4 b5 b6 hp2 => hag b0 b1 _ b3 b4 b5 b6 ⟨i + 1, hlt, nI_1 i, hp2⟩ ?_)
    show N - (nI i + 1).toNatClampNeg < N - (nI i).toNatClampNeg
    rw [nI_1, nI_clamp (by omega), nI_clamp (by omega)]
    omega
theorem lofE7_3 {A0 A1 A2 A4 A5 A6 : Type} {M : Int32} {bot : A0 → A1 → A2 → Int32 → A4 → A5 → A6 → Prop} {E : A0 → A1 → A2 → Int32 → A4 → A5 → A6 → Prop} {B : (A0 → A1 → A2 → Int32 → A4 → A5 → A6 → Prop) → A0 → A1 → A2 → Int32 → A4 → A5 → A6 → Prop} (N : Nat) (hN : N < 2000000000) (hM : M = nI N) (P : Nat → A0 → A1 → A2 → A4 → A5 → A6 → Prop) (he : ∀ (a0 : A0) (a1 : A1) (a2 : A2) (a4 : A4) (a5 : A5) (a6 : A6), P N a0 a1 a2 a4 a5 a6 → E a0 a1 a2 (nI N) a4 a5 a6) (hb : ∀ (i : Nat) (a0 : A0) (a1 : A1) (a2 : A2) (a4 : A4) (a5 : A5) (a6 : A6) (again : A0 → A1 → A2 → Int32 → A4 → A5 → A6 → Prop), i < N → P i a0 a1 a2 a4 a5 a6 → (∀ (b0 : A0) (b1 : A1) (b2 : A2) (b4 : A4) (b5 : A5) (b6 : A6), P (i + 1) b0 b1 b2 b4 b5 b6 → again b0 b1 b2 (nI i + 1) b4 b5 b6) → B again a0 a1 a2 (nI i) a4 a5 a6) (a0 : A0) (a1 : A1) (a2 : A2) (a4 : A4) (a5 : A5) (a6 : A6) (h0 : P 0 a0 a1 a2 a4 a5 a6) :
    lo bot (fun (again : A0 → A1 → A2 → Int32 → A4 → A5 → A6 → Prop) (a0 : A0) (a1 : A1) (a2 : A2) (a3 : Int32) (a4 : A4) (a5 : A5) (a6 : A6) => (M ≤ a3 → E a0 a1 a2 a3 a4 a5 a6) ∧ (¬ M ≤ a3 → B again a0 a1 a2 a3 a4 a5 a6)) (fun r => r a0 a1 a2 0 a4 a5 a6) := by
  subst hM
  refine lop7 (I := fun a0 a1 a2 a3 a4 a5 a6 => ∃ i : Nat, i ≤ N ∧ a3 = nI i ∧ P i a0 a1 a2 a4 a5 a6) (fun a0 a1 a2 a3 a4 a5 a6 => N - (a3).toNatClampNeg) ?_ a0 a1 a2 0 a4 a5 a6 ⟨0, Nat.zero_le _, nI_0.symm, h0⟩
  rintro a0 a1 a2 a3 a4 a5 a6 again ⟨i, hi, rfl, hp⟩ hag
  refine ⟨fun hc => ?_, fun hc => ?_⟩
  · have e : i = N := by
      rcases Nat.lt_or_ge i N with q | q
      · exact absurd hc (nI_ge q (by omega))
      · omega
    subst e
    exact he a0 a1 a2 a4 a5 a6 hp
  · have hlt : i < N := by
      rcases Nat.lt_or_ge i N with q | q
      · exact q
      · exact absurd (nI_le q (by omega)) hc
    refine hb i a0 a1 a2 a4 a5 a6 again hlt hp (fun b0 b1 b2 b4 b5 b6 hp2 => hag b0 b1 b2 _ b4 b5 b6 ⟨i + 1, hlt, nI_1 i, hp2⟩ ?_)
    show N - (nI i + 1).toNatClampNeg < N - (nI i).toNatClampNeg
    rw [nI_1, nI_clamp (by omega), nI_clamp (by omega)]
    omega
theorem lofE8_0 {A1 A2 A3 A4 A5 A6 A7 : Type} {M : Int32} {bot : Int32 → A1 → A2 → A3 → A4 → A5 → A6 → A7 → Prop} {E : Int32 → A1 → A2 → A3 → A4 → A5 → A6 → A7 → Prop} {B : (Int32 → A1 → A2 → A3 → A4 → A5 → A6 → A7 → Prop) → Int32 → A1 → A2 → A3 → A4 → A5 → A6 → A7 → Prop} (N : Nat) (hN : N < 2000000000) (hM : M = nI N) (P : Nat → A1 → A2 → A3 → A4 → A5 → A6 → A7 → Prop) (he : ∀ (a1 : A1) (a2 : A2) (a3 : A3) (a4 : A4) (a5 : A5) (a6 : A6) (a7 : A7), P N a1 a2 a3 a4 a5 a6 a7 → E (nI N) a1 a2 a3 a4 a5 a6 a7) (hb : ∀ (i : Nat) (a1 : A1) (a2 : A2) (a3 : A3) (a4 : A4) (a5 : A5) (a6 : A6) (a7 : A7) (again : Int32 → A1 → A2 → A3 → A4 → A5 → A6 → A7 → Prop), i < N → P i a1 a2 a3 a4 a5 a6 a7 → (∀ (b1 : A1) (b2 : A2) (b3 : A3) (b4 : A4) (b5 : A5) (b6 : A6) (b7 : A7), P (i + 1) b1 b2 b3 b4 b5 b6 b7 → again (nI i + 1) b1 b2 b3 b4 b5 b6 b7) → B again (nI i) a1 a2 a3 a4 a5 a6 a7) (a1 : A1) (a2 : A2) (a3 : A3) (a4 : A4) (a5 : A5) (a6 : A6) (a7 : A7) (h0 : P 0 a1 a2 a3 a4 a5 a6 a7) :
    lo bot (fun (again : Int32 → A1 → A2 → A3 → A4 → A5 → A6 → A7 → Prop) (a0 : Int32) (a1 : A1) (a2 : A2) (a3 : A3) (a4 : A4) (a5 : A5) (a6 : A6) (a7 : A7) => (M ≤ a0 → E a0 a1 a2 a3 a4 a5 a6 a7) ∧ (¬ M ≤ a0 → B again a0 a1 a2 a3 a4 a5 a6 a7)) (fun r => r 0 a1 a2 a3 a4 a5 a6 a7) := by
  subst hM
  refine lop8 (I := fun a0 a1 a2 a3 a4 a5 a6 a7 => ∃ i : Nat, i ≤ N ∧ a0 = nI i ∧ P i a1 a2 a3 a4 a5 a6 a7) (fun a0 a1 a2 a3 a4 a5 a6 a7 => N - (a0).toNatClampNeg) ?_ 0 a1 a2 a3 a4 a5 a6 a7 ⟨0, Nat.zero_le _, nI_0.symm, h0⟩
  rintro a0 a1 a2 a3 a4 a5 a6 a7 again ⟨i, hi, rfl, hp⟩ hag
  refine ⟨fun hc => ?_, fun hc => ?_⟩
  · have e : i = N := by
      rcases Nat.lt_or_ge i N with q | q
      · exact absurd hc (nI_ge q (by omega))
      · omega
    subst e
    exact he a1 a2 a3 a4 a5 a6 a7 hp
  · have hlt : i < N := by
      rcases Nat.lt_or_ge i N with q | q
      · exact q
      · exact absurd (nI_le q (by omega)) hc
    refine hb i a1 a2 a3 a4 a5 a6 a7 again hlt hp (fun b1 b2 b3 b4 b5 b6 b7 hp2 => hag _ b1 b2 b3 b4 b5 b6 b7 ⟨i + 1, hlt, nI_1 i, hp2⟩ ?_)
    show N - (nI i + 1).toNatClampNeg < N - (nI i).toNatClampNeg
    rw [nI_1, nI_clamp (by omega), nI_clamp (by omega)]
    omega
theorem lofE8_1 {A0 A2 A3 A4 A5 A6 A7 : Type} {M : Int32} {bot : A0 → Int32 → A2 → A3 → A4 → A5 → A6 → A7 → Prop} {E : A0 → Int32 → A2 → A3 → A4 → A5 → A6 → A7 → Prop} {B : (A0 → Int32 → A2 → A3 → A4 → A5 → A6 → A7 → Prop) → A0 → Int32 → A2 → A3 → A4 → A5 → A6 → A7 → Prop} (N : Nat) (hN : N < 2000000000) (hM : M = nI N) (P : Nat → A0 → A2 → A3 → A4 → A5 → A6 → A7 → Prop) (he : ∀ (a0 : A0) (a2 : A2) (a3 : A3) (a4 : A4) (a5 : A5) (a6 : A6) (a7 : A7), P N a0 a2 a3 a4 a5 a6 a7 → E a0 (nI N) a2 a3 a4 a5 a6 a7) (hb : ∀ (i : Nat) (a0 : A0) (a2 : A2) (a3 : A3) (a4 : A4) (a5 : A5) (a6 : A6) (a7 : A7) (again : A0 → Int32 → A2 → A3 → A4 → A5 → A6 → A7 → Prop), i < N → P i a0 a2 a3 a4 a5 a6 a7 → (∀ (b0 : A0) (b2 : A2) (b3 : A3) (b4 : A4) (b5 : A5) (b6 : A6) (b7 : A7), P (i + 1) b0 b2 b3 b4 b5 b6 b7 → again b0 (nI i + 1) b2 b3 b4 b5 b6 b7) → B again a0 (nI i) a2 a3 a4 a5 a6 a7) (a0 : A0) (a2 : A2) (a3 : A3) (a4 : A4) (a5 : A5) (a6 : A6) (a7 : A7) (h0 : P 0 a0 a2 a3 a4 a5 a6 a7) :
    lo bot (fun (again : A0 → Int32 → A2 → A3 → A4 → A5 → A6 → A7 → Prop) (a0 : A0) (a1 : Int32) (a2 : A2) (a3 : A3) (a4 : A4) (a5 : A5) (a6 : A6) (a7 : A7) => (M ≤ a1 → E a0 a1 a2 a3 a4 a5 a6 a7) ∧ (¬ M ≤ a1 → B again a0 a1 a2 a3 a4 a5 a6 a7)) (fun r => r a0 0 a2 a3 a4 a5 a6 a7) := by
  subst hM
  refine lop8 (I := fun a0 a1 a2 a3 a4 a5 a6 a7 => ∃ i : Nat, i ≤ N ∧ a1 = nI i ∧ P i a0 a2 a3 a4 a5 a6 a7) (fun a0 a1 a2 a3 a4 a5 a6 a7 => N - (a1).toNatClampNeg) ?_ a0 0 a2 a3 a4 a5 a6 a7 ⟨0, Nat.zero_le _, nI_0.symm, h0⟩
  rintro a0 a1 a2 a3 a4 a5 a6 a7 again ⟨i, hi, rfl, hp⟩ hag
  refine ⟨fun hc => ?_, fun hc => ?_⟩
  · have e : i = N := by
      rcases Nat.lt_or_ge i N with q | q
      · exact absurd hc (nI_ge q (by omega))
      · omega
    subst e
    exact he a0 a2 a3 a4 a5 a6 a7 hp
  · have hlt : i < N := by
      rcases Nat.lt_or_ge i N with q | q
      · exact q
      · exact absurd (nI_le q (by omega)) hc
    refine hb i a0 a2 a3 a4 a5 a6 a7 again hlt hp (fun b0 b2 b3 b4 b5 b6 b7 hp2 => hag b0 _ b2 b3 b4 b5 b6 b7 ⟨i + 1, hlt, nI_1 i, hp2⟩ ?_)
    show N - (nI i + 1).toNatClampNeg < N - (nI i).toNatClampNeg
    rw [nI_1, nI_clamp (by omega), nI_clamp (by omega)]
    omega
theorem lofE8_2 {A0 A1 A3 A4 A5 A6 A7 : Type} {M : Int32} {bot : A0 → A1 → Int32 → A3 → A4 → A5 → A6 → A7 → Prop} {E : A0 → A1 → Int32 → A3 → A4 → A5 → A6 → A7 → Prop} {B : (A0 → A1 → Int32 → A3 → A4 → A5 → A6 → A7 → Prop) → A0 → A1 → Int32 → A3 → A4 → A5 → A6 → A7 → Prop} (N : Nat) (hN : N < 2000000000) (hM : M = nI N) (P : Nat → A0 → A1 → A3 → A4 → A5 → A6 → A7 → Prop) (he : ∀ (a0 : A0) (a1 : A1) (a3 : A3) (a4 : A4) (a5 : A5) (a6 : A6) (a7 : A7), P N a0 a1 a3 a4 a5 a6 a7 → E a0 a1 (nI N) a3 a4 a5 a6 a7) (hb : ∀ (i : Nat) (a0 : A0) (a1 : A1) (a3 : A3) (a4 : A4) (a5 : A5) (a6 : A6) (a7 : A7) (again : A0 → A1 → Int32 → A3 → A4 → A5 → A6 → A7 → Prop), i < N → P i a0 a1 a3 a4 a5 a6 a7 → (∀ (b0 : A0) (b1 : A1) (b3 : A3) (b4 : A4) (b5 : A5) (b6 : A6) (b7 : A7), P (i + 1) b0 b1 b3 b4 b5 b6 b7 → again b0 b1 (nI i + 1) b3 b4 b5 b6 b7) → B again a0 a1 (nI i) a3 a4 a5 a6 a7) (a0 : A0) (a1 : A1) (a3 : A3) (a4 : A4) (a5 : A5) (a6 : A6) (a7 : A7) (h0 : P 0 a0 a1 a3 a4 a5 a6 a7) :
    lo bot (fun (again : A0 → A1 → Int32 → A3 → A4 → A5 → A6 → A7 → Prop) (a0 : A0) (a1 : A1) (a2 : Int32) (a3 : A3) (a4 : A4) (a5 : A5) (a6 : A6) (a7 : A7) => (M ≤ a2 → E a0 a1 a2 a3 a4 a5 a6 a7) ∧ (¬ M ≤ a2 → B again a0 a1 a2 a3 a4 a5 a6 a7)) (fun r => r a0 a1 0 a3 a4 a5 a6 a7) := by
  subst hM
  refine lop8 (I := fun a0 a1 a2 a3 a4 a5 a6 a7 => ∃ i : Nat, i ≤ N ∧ a2 = nI i ∧ P i a0 a1 a3 a4 a5 a6 a7) (fun a0 a1 a2 a3 a4 a5 a6 a7 => N - (a2).toNatClampNeg) ?_ a0 a1 0 a3 a4 a5 a6 a7 ⟨0, Nat.zero_le _, nI_0.symm, h0⟩
  rintro a0 a1 a2 a3 a4 a5 a6 a7 again ⟨i, hi, rfl, hp⟩ hag
  refine ⟨fun hc => ?_, fun hc => ?_⟩
  · have e : i = N := by
      rcases Nat.lt_or_ge i N with q | q
      · exact absurd hc (nI_ge q (by omega))
      · omega
    subst e
    exact he a0 a1 a3 a4 a5 a6 a7 hp
  · have hlt : i < N := by
      rcases Nat.lt_or_ge i N with q | q
      · exact q
      · exact absurd (nI_le q (by omega)) hc
    refine hb i a0 a1 a3 a4 a5 a6 a7 again hlt hp (fun b0 b1 b3 b4 b5 b6 b7 hp2 => hag b0 b1 _ b3 b4 b5 b6 b7 ⟨i + 1, hlt, nI_1 i, hp2⟩ ?_)
    show N - (nI i + 1).toNatClampNeg < N - (nI i).toNatClampNeg
    rw [nI_1, nI_clamp (by omega), nI_clamp (by omega)]
    omega
theorem lofE8_3 {A0 A1 A2 A4 A5 A6 A7 : Type} {M : Int32} {bot : A0 → A1 → A2 → Int32 → A4 → A5 → A6 → A7 → Prop} {E : A0 → A1 → A2 → Int32 → A4 → A5 → A6 → A7 → Prop} {B : (A0 → A1 → A2 → Int32 → A4 → A5 → A6 → A7 → Prop) → A0 → A1 → A2 → Int32 → A4 → A5 → A6 → A7 → Prop} (N : Nat) (hN : N < 2000000000) (hM : M = nI N) (P : Nat → A0 → A1 → A2 → A4 → A5 → A6 → A7 → Prop) (he : ∀ (a0 : A0) (a1 : A1) (a2 : A2) (a4 : A4) (a5 : A5) (a6 : A6) (a7 : A7), P N a0 a1 a2 a4 a5 a6 a7 → E a0 a1 a2 (nI N) a4 a5 a6 a7) (hb : ∀ (i : Nat) (a0 : A0) (a1 : A1) (a2 : A2) (a4 : A4) (a5 : A5) (a6 : A6) (a7 : A7) (again : A0 → A1 → A2 → Int32 → A4 → A5 → A6 → A7 → Prop), i < N → P i a0 a1 a2 a4 a5 a6 a7 → (∀ (b0 : A0) (b1 : A1) (b2 : A2) (b4 : A4) (b5 : A5) (b6 : A6) (b7 : A7), P (i + 1) b0 b1 b2 b4 b5 b6 b7 → again b0 b1 b2 (nI i + 1) b4 b5 b6 b7) → B again a0 a1 a2 (nI i) a4 a5 a6 a7) (a0 : A0) (a1 : A1) (a2 : A2) (a4 : A4) (a5 : A5) (a6 : A6) (a7 : A7) (h0 : P 0 a0 a1 a2 a4 a5 a6 a7) :
    lo bot (fun (again : A0 → A1 → A2 → Int32 → A4 → A5 → A6 → A7 → Prop) (a0 : A0) (a1 : A1) (a2 : A2) (a3 : Int32) (a4 : A4) (a5 : A5) (a6 : A6) (a7 : A7) => (M ≤ a3 → E a0 a1 a2 a3 a4 a5 a6 a7) ∧ (¬ M ≤ a3 → B again a0 a1 a2 a3 a4 a5 a6 a7)) (fun r => r a0 a1 a2 0 a4 a5 a6 a7) := by
  subst hM
  refine lop8 (I := fun a0 a1 a2 a3 a4 a5 a6 a7 => ∃ i : Nat, i ≤ N ∧ a3 = nI i ∧ P i a0 a1 a2 a4 a5 a6 a7) (fun a0 a1 a2 a3 a4 a5 a6 a7 => N - (a3).toNatClampNeg) ?_ a0 a1 a2 0 a4 a5 a6 a7 ⟨0, Nat.zero_le _, nI_0.symm, h0⟩
  rintro a0 a1 a2 a3 a4 a5 a6 a7 again ⟨i, hi, rfl, hp⟩ hag
  refine ⟨fun hc => ?_, fun hc => ?_⟩
  · have e : i = N := by
      rcases Nat.lt_or_ge i N with q | q
      · exact absurd hc (nI_ge q (by omega))
      · omega
    subst e
    exact he a0 a1 a2 a4 a5 a6 a7 hp
  · have hlt : i < N := by
      rcases Nat.lt_or_ge i N with q | q
      · exact q
      · exact absurd (nI_le q (by omega)) hc
    refine hb i a0 a1 a2 a4 a5 a6 a7 again hlt hp (fun b0 b1 b2 b4 b5 b6 b7 hp2 => hag b0 b1 b2 _ b4 b5 b6 b7 ⟨i + 1, hlt, nI_1 i, hp2⟩ ?_)
    show N - (nI i + 1).toNatClampNeg < N - (nI i).toNatClampNeg
    rw [nI_1, nI_clamp (by omega), nI_clamp (by omega)]
    omega
theorem lofE9_0 {A1 A2 A3 A4 A5 A6 A7 A8 : Type} {M : Int32} {bot : Int32 → A1 → A2 → A3 → A4 → A5 → A6 → A7 → A8 → Prop} {E : Int32 → A1 → A2 → A3 → A4 → A5 → A6 → A7 → A8 → Prop} {B : (Int32 → A1 → A2 → A3 → A4 → A5 → A6 → A7 → A8 → Prop) → Int32 → A1 → A2 → A3 → A4 → A5 → A6 → A7 → A8 → Prop} (N : Nat) (hN : N < 2000000000) (hM : M = nI N) (P : Nat → A1 → A2 → A3 → A4 → A5 → A6 → A7 → A8 → Prop) (he : ∀ (a1 : A1) (a2 : A2) (a3 : A3) (a4 : A4) (a5 : A5) (a6 : A6) (a7 : A7) (a8 : A8), P N a1 a2 a3 a4 a5 a6 a7 a8 → E (nI N) a1 a2 a3 a4 a5 a6 a7 a8) (hb : ∀ (i : Nat) (a1 : A1) (a2 : A2) (a3 : A3) (a4 : A4) (a5 : A5) (a6 : A6) (a7 : A7) (a8 : A8) (again : Int32 → A1 → A2 → A3 → A4 → A5 → A6 → A7 → A8 → Prop), i < N → P i a1 a2 a3 a4 a5 a6 a7 a8 → (∀ (b1 : A1) (b2 : A2) (b3 : A3) (b4 : A4) (b5 : A5) (b6 : A6) (b7 : A7) (b8 : A8), P (i + 1) b1 b2 b3 b4 b5 b6 b7 b8 → again (nI i + 1) b1 b2 b3 b4 b5 b6 b7 b8) → B again (nI i) a1 a2 a3 a4 a5 a6 a7 a8) (a1 : A1) (a2 : A2) (a3 : A3) (a4 : A4) (a5 : A5) (a6 : A6) (a7 : A7) (a8 : A8) (h0 : P 0 a1 a2 a3 a4 a5 a6 a7 a8) :
    lo bot (fun (again : Int32 → A1 → A2 → A3 → A4 → A5 → A6 → A7 → A8 → Prop) (a0 : Int32) (a1 : A1) (a2 : A2) (a3 : A3) (a4 : A4) (a5 : A5) (a6 : A6) (a7 : A7) (a8 : A8) => (M ≤ a0 → E a0 a1 a2 a3 a4 a5 a6 a7 a8) ∧ (¬ M ≤ a0 → B again a0 a1 a2 a3 a4 a5 a6 a7 a8)) (fun r => r 0 a1 a2 a3 a4 a5 a6 a7 a8) := by
  subst hM
  refine lop9 (I := fun a0 a1 a2 a3 a4 a5 a6 a7 a8 => ∃ i : Nat, i ≤ N ∧ a0 = nI i ∧ P i a1 a2 a3 a4 a5 a6 a7 a8) (fun a0 a1 a2 a3 a4 a5 a6 a7 a8 => N - (a0).toNatClampNeg) ?_ 0 a1 a2 a3 a4 a5 a6 a7 a8 ⟨0, Nat.zero_le _, nI_0.symm, h0⟩
  rintro a0 a1 a2 a3 a4 a5 a6 a7 a8 again ⟨i, hi, rfl, hp⟩ hag
  refine ⟨fun hc => ?_, fun hc => ?_⟩
  · have e : i = N := by
      rcases Nat.lt_or_ge i N with q | q
      · exact absurd hc (nI_ge q (by omega))
      · omega
    subst e
    exact he a1 a2 a3 a4 a5 a6 a7 a8 hp
  · have hlt : i < N := by
      rcases Nat.lt_or_ge i N with q | q
      · exact q
      · exact absurd (nI_le q (by omega)) hc
    refine hb i a1 a2 a3 a4 a5 a6 a7 a8 again hlt hp (fun b1 b2 b3 b4 b5 b6 b7 b8 hp2 => hag _ b1 b2 b3 b4 b5 b6 b7 b8 ⟨i + 1, hlt, nI_1 i, hp2⟩ ?_)
    show N - (nI i + 1).toNatClampNeg < N - (nI i).toNatClampNeg
    rw [nI_1, nI_clamp (by omega), nI_clamp (by omega)]
    omega
theorem lofE9_1 {A0 A2 A3 A4 A5 A6 A7 A8 : Type} {M : Int32} {bot : A0 → Int32 → A2 → A3 → A4 → A5 → A6 → A7 → A8 → Prop} {E : A0 → Int32 → A2 → A3 → A4 → A5 → A6 → A7 → A8 → Prop} {B : (A0 → Int32 → A2 → A3 → A4 → A5 → A6 → A7 → A8 → Prop) → A0 → Int32 → A2 → A3 → A4 → A5 → A6 → A7 → A8 → Prop} (N : Nat) (hN : N < 2000000000) (hM : M = nI N) (P : Nat → A0 → A2 → A3 → A4 → A5 → A6 → A7 → A8 → Prop) (he : ∀ (a0 : A0) (a2 : A2) (a3 : A3) (a4 : A4) (a5 : A5) (a6 : A6) (a7 : A7) (a8 : A8), P N a0 a2 a3 a4 a5 a6 a7 a8 → E a0 (nI N) a2 a3 a4 a5 a6 a7 a8) (hb : ∀ (i : Nat) (a0 : A0) (a2 : A2) (a3 : A3) (a4 : A4) (a5 : A5) (a6 : A6) (a7 : A7) (a8 : A8) (again : A0 → Int32 → A2 → A3 → A4 → A5 → A6 → A7 → A8 → Prop), i < N → P i a0 a2 a3 a4 a5 a6 a7 a8 → (∀ (b0 : A0) (b2 : A2) (b3 : A3) (b4 : A4) (b5 : A5) (b6 : A6) (b7 : A7) (b8 : A8), P (i + 1) b0 b2 b3 b4 b5 b6 b7 b8 → again b0 (nI i + 1) b2 b3 b4 b5 b6 b7 b8) → B again a0 (nI i) a2 a3 a4 a5 a6 a7 a8) (a0 : A0) (a2 : A2) (a3 : A3) (a4 : A4) (a5 : A5) (a6 : A6) (a7 : A7) (a8 : A8) (h0 : P 0 a0 a2 a3 a4 a5 a6 a7 a8) :
    lo bot (fun (again : A0 → Int32 → A2 → A3 → A4 → A5 → A6 → A7 → A8 → Prop) (a0 : A0) (a1 : Int32) (a2 : A2) (a3 : A3) (a4 : A4) (a5 : A5) (a6 : A6) (a7 : A7) (a8 : A8) => (M ≤ a1 → E a0 a1 a2 a3 a4 a5 a6 a7 a8) ∧ (¬ M ≤ a1 → B again a0 a1 a2 a3 a4 a5 a6 a7 a8)) (fun r => r a0 0 a2 a3 a4 a5 a6 a7 a8) := by
  subst hM
  refine lop9 (I := fun a0 a1 a2 a3 a4 a5 a6 a7 a8 => ∃ i : Nat, i ≤ N ∧ a1 = nI i ∧ P i a0 a2 a3 a4 a5 a6 a7 a8) (fun a0 a1 a2 a3 a4 a5 a6 a7 a8 => N - (a1).toNatClampNeg) ?_ a0 0 a2 a3 a4 a5 a6 a7 a8 ⟨0, Nat.zero_le _, nI_0.symm, h0⟩
  rintro a0 a1 a2 a3 a4 a5 a6 a7 a8 again ⟨i, hi, rfl, hp⟩ hag
  refine ⟨fun hc => ?_, fun hc => ?_⟩
  · have e : i = N := by
      rcases Nat.lt_or_ge i N with q | q
      · exact absurd hc (nI_ge q (by omega))
      · omega
    subst e
    exact he a0 a2 a3 a4 a5 a6 a7 a8 hp
  · have hlt : i < N := by
      rcases Nat.lt_or_ge i N with q | q
      · exact q
      · exact absurd (nI_le q (by omega)) hc
    refine hb i a0 a2 a3 a4 a5 a6 a7 a8 again hlt hp (fun b0 b2 b3 b4 b5 b6 b7 b8 hp2 => hag b0 _ b2 b3 b4 b5 b6 b7 b8 ⟨i + 1, hlt, nI_1 i, hp2⟩ ?_)
    show N - (nI i + 1).toNatClampNeg < N - (nI i).toNatClampNeg
    rw [nI_1, nI_clamp (by omega), nI_clamp (by omega)]
    omega
theorem lofE9_2 {A0 A1 A3 A4 A5 A6 A7 A8 : Type} {M : Int32} {bot : A0 → A1 → Int32 → A3 → A4 → A5 → A6 → A7 → A8 → Prop} {E : A0 → A1 → Int32 → A3 → A4 → A5 → A6 → A7 → A8 → Prop} {B : (A0 → A1 → Int32 → A3 → A4 → A5 → A6 → A7 → A8 → Prop) → A0 → A1 → Int32 → A3 → A4 → A5 → A6 → A7 → A8 → Prop} (N : Nat) (hN : N < 2000000000) (hM : M = nI N) (P : Nat → A0 → A1 → A3 → A4 → A5 → A6 → A7 → A8 → Prop) (he : ∀ (a0 : A0) (a1 : A1) (a3 : A3) (a4 : A4) (a5 : A5) (a6 : A6) (a7 : A7) (a8 : A8), P N a0 a1 a3 a4 a5 a6 a7 a8 → E a0 a1 (nI N) a3 a4 a5 a6 a7 a8) (hb : ∀ (i : Nat) (a0 : A0) (a1 : A1) (a3 : A3) (a4 : A4) (a5 : A5) (a6 : A6) (a7 : A7) (a8 : A8) (again : A0 → A1 → Int32 → A3 → A4 → A5 → A6 → A7 → A8 → Prop), i < N → P i a0 a1 a3 a4 a5 a6 a7 a8 → (∀ (b0 : A0) (b1 : A1) (b3 : A3) (b4 : A4) (b5 : A5) (b6 : A6) (b7 : A7) (b8 : A8), P (i + 1) b0 b1 b3 b4 b5 b6 b7 b8 → again b0 b1 (nI i + 1) b3 b4 b5 b6 b7 b8) → B again a0 a1 (nI i) a3 a4 a5 a6 a7 a8) (a0 : A0) (a1 : A1) (a3 : A3) (a4 : A4) (a5 : A5) (a6 : A6) (a7 : A7) (a8 : A8) (h0 : P 0 a0 a1 a3 a4 a5 a6 a7 a8) :
    lo bot (fun (again : A0 → A1 → Int32 → A3 → A4 → A5 → A6 → A7 → A8 → Prop) (a0 : A0) (a1 : A1) (a2 : Int32) (a3 : A3) (a4 : A4) (a5 : A5) (a6 : A6) (a7 : A7) (a8 : A8) => (M ≤ a2 → E a0 a1 a2 a3 a4 a5 a6 a7 a8) ∧ (¬ M ≤ a2 → B again a0 a1 a2 a3 a4 a5 a6 a7 a8)) (fun r => r a0 a1 0 a3 a4 a5 a6 a7 a8) := by
  subst hM
  refine lop9 (I := fun a0 a1 a2 a3 a4 a5 a6 a7 a8 => ∃ i : Nat, i ≤ N ∧ a2 = nI i ∧ P i a0 a1 a3 a4 a5 a6 a7 a8) (fun a0 a1 a2 a3 a4 a5 a6 a7 a8 => N - (a2).toNatClampNeg) ?_ a0 a1 0 a3 a4 a5 a6 a7 a8 ⟨0, Nat.zero_le _, nI_0.symm, h0⟩
  rintro a0 a1 a2 a3 a4 a5 a6 a7 a8 again ⟨i, hi, rfl, hp⟩ hag
  refine ⟨fun hc => ?_, fun hc => ?_⟩
  · have e : i = N := by
      rcases Nat.lt_or_ge i N with q | q
      · exact absurd hc (nI_ge q (by omega))
      · omega
    subst e
    exact he a0 a1 a3 a4 a5 a6 a7 a8 hp
  · have hlt : i < N := by
      rcases Nat.lt_or_ge i N with q | q
      · exact q
      · exact absurd (nI_le q (by omega)) hc
    refine hb i a0 a1 a3 a4 a5 a6 a7 a8 again hlt hp (fun b0 b1 b3 b4 b5 b6 b7 b8 hp2 => hag b0 b1 _ b3 b4 b5 b6 b7 b8 ⟨i + 1, hlt, nI_1 i, hp2⟩ ?_)
    show N - (nI i + 1).toNatClampNeg < N - (nI i).toNatClampNeg
    rw [nI_1, nI_clamp (by omega), nI_clamp (by omega)]
    omega
theorem lofE9_3 {A0 A1 A2 A4 A5 A6 A7 A8 : Type} {M : Int32} {bot : A0 → A1 → A2 → Int32 → A4 → A5 → A6 → A7 → A8 → Prop} {E : A0 → A1 → A2 → Int32 → A4 → A5 → A6 → A7 → A8 → Prop} {B : (A0 → A1 → A2 → Int32 → A4 → A5 → A6 → A7 → A8 → Prop) → A0 → A1 → A2 → Int32 → A4 → A5 → A6 → A7 → A8 → Prop} (N : Nat) (hN : N < 2000000000) (hM : M = nI N) (P : Nat → A0 → A1 → A2 → A4 → A5 → A6 → A7 → A8 → Prop) (he : ∀ (a0 : A0) (a1 : A1) (a2 : A2) (a4 : A4) (a5 : A5) (a6 : A6) (a7 : A7) (a8 : A8), P N a0 a1 a2 a4 a5 a6 a7 a8 → E a0 a1 a2 (nI N) a4 a5 a6 a7 a8) (hb : ∀ (i : Nat) (a0 : A0) (a1 : A1) (a2 : A2) (a4 : A4) (a5 : A5) (a6 : A6) (a7 : A7) (a8 : A8) (again : A0 → A1 → A2 → Int32 → A4 → A5 → A6 → A7 → A8 → Prop), i < N → P i a0 a1 a2 a4 a5 a6 a7 a8 → (∀ (b0 : A0) (b1 : A1) (b2 : A2) (b4 : A4) (b5 : A5) (b6 : A6) (b7 : A7) (b8 : A8), P (i + 1) b0 b1 b2 b4 b5 b6 b7 b8 → again b0 b1 b2 (nI i + 1) b4 b5 b6 b7 b8) → B again a0 a1 a2 (nI i) a4 a5 a6 a7 a8) (a0 : A0) (a1 : A1) (a2 : A2) (a4 : A4) (a5 : A5) (a6 : A6) (a7 : A7) (a8 : A8) (h0 : P 0 a0 a1 a2 a4 a5 a6 a7 a8) :
    lo bot (fun (again : A0 → A1 → A2 → Int32 → A4 → A5 → A6 → A7 → A8 → Prop) (a0 : A0) (a1 : A1) (a2 : A2) (a3 : Int32) (a4 : A4) (a5 : A5) (a6 : A6) (a7 : A7) (a8 : A8) => (M ≤ a3 → E a0 a1 a2 a3 a4 a5 a6 a7 a8) ∧ (¬ M ≤ a3 → B again a0 a1 a2 a3 a4 a5 a6 a7 a8)) (fun r => r a0 a1 a2 0 a4 a5 a6 a7 a8) := by
  subst hM
  refine lop9 (I := fun a0 a1 a2 a3 a4 a5 a6 a7 a8 => ∃ i : Nat, i ≤ N ∧ a3 = nI i ∧ P i a0 a1 a2 a4 a5 a6 a7 a8) (fun a0 a1 a2 a3 a4 a5 a6 a7 a8 => N - (a3).toNatClampNeg) ?_ a0 a1 a2 0 a4 a5 a6 a7 a8 ⟨0, Nat.zero_le _, nI_0.symm, h0⟩
  rintro a0 a1 a2 a3 a4 a5 a6 a7 a8 again ⟨i, hi, rfl, hp⟩ hag
  refine ⟨fun hc => ?_, fun hc => ?_⟩
  · have e : i = N := by
      rcases Nat.lt_or_ge i N with q | q
      · exact absurd hc (nI_ge q (by omega))
      · omega
    subst e
    exact he a0 a1 a2 a4 a5 a6 a7 a8 hp
  · have hlt : i < N := by
      rcases Nat.lt_or_ge i N with q | q
      · exact q
      · exact absurd (nI_le q (by omega)) hc
    refine hb i a0 a1 a2 a4 a5 a6 a7 a8 again hlt hp (fun b0 b1 b2 b4 b5 b6 b7 b8 hp2 => hag b0 b1 b2 _ b4 b5 b6 b7 b8 ⟨i + 1, hlt, nI_1 i, hp2⟩ ?_)
    show N - (nI i + 1).toNatClampNeg < N - (nI i).toNatClampNeg
    rw [nI_1, nI_clamp (by omega), nI_clamp (by omega)]
    omega
theorem lofE10_0 {A1 A2 A3 A4 A5 A6 A7 A8 A9 : Type} {M : Int32} {bot : Int32 → A1 → A2 → A3 → A4 → A5 → A6 → A7 → A8 → A9 → Prop} {E : Int32 → A1 → A2 → A3 → A4 → A5 → A6 → A7 → A8 → A9 → Prop} {B : (Int32 → A1 → A2 → A3 → A4 → A5 → A6 → A7 → A8 → A9 → Prop) → Int32 → A1 → A2 → A3 → A4 → A5 → A6 → A7 → A8 → A9 → Prop} (N : Nat) (hN : N < 2000000000) (hM : M = nI N) (P : Nat → A1 → A2 → A3 → A4 → A5 → A6 → A7 → A8 → A9 → Prop) (he : ∀ (a1 : A1) (a2 : A2) (a3 : A3) (a4 : A4) (a5 : A5) (a6 : A6) (a7 : A7) (a8 : A8) (a9 : A9), P N a1 a2 a3 a4 a5 a6 a7 a8 a9 → E (nI N) a1 a2 a3 a4 a5 a6 a7 a8 a9) (hb : ∀ (i : Nat) (a1 : A1) (a2 : A2) (a3 : A3) (a4 : A4) (a5 : A5) (a6 : A6) (a7 : A7) (a8 : A8) (a9 : A9) (again : Int32 → A1 → A2 → A3 → A4 → A5 → A6 → A7 → A8 → A9 → Prop), i < N → P i a1 a2 a3 a4 a5 a6 a7 a8 a9 → (∀ (b1 : A1) (b2 : A2) (b3 : A3) (b4 : A4) (b5 : A5) (b6 : A6) (b7 : A7) (b8 : A8) (b9 : A9), P (i + 1) b1 b2 b3 b4 b5 b6 b7 b8 b9 → again (nI i + 1) b1 b2 b3 b4 b5 b6 b7 b8 b9) → B again (nI i) a1 a2 a3 a4 a5 a6 a7 a8 a9) (a1 : A1) (a2 : A2) (a3 : A3) (a4 : A4) (a5 : A5) (a6 : A6) (a7 : A7) (a8 : A8) (a9 : A9) (h0 : P 0 a1 a2 a3 a4 a5 a6 a7 a8 a9) :
    lo bot (fun (again : Int32 → A1 → A2 → A3 → A4 → A5 → A6 → A7 → A8 → A9 → Prop) (a0 : Int32) (a1 : A1) (a2 : A2) (a3 : A3) (a4 : A4) (a5 : A5) (a6 : A6) (a7 : A7) (a8 : A8) (a9 : A9) => (M ≤ a0 → E a0 a1 a2 a3 a4 a5 a6 a7 a8 a9) ∧ (¬ M ≤ a0 → B again a0 a1 a2 a3 a4 a5 a6 a7 a8 a9)) (fun r => r 0 a1 a2 a3 a4 a5 a6 a7 a8 a9) := by
  subst hM
  refine lop10 (I := fun a0 a1 a2 a3 a4 a5 a6 a7 a8 a9 => ∃ i : Nat, i ≤ N ∧ a0 = nI i ∧ P i a1 a2 a3 a4 a5 a6 a7 a8 a9) (fun a0 a1 a2 a3 a4 a5 a6 a7 a8 a9 => N - (a0).toNatClampNeg) ?_ 0 a1 a2 a3 a4 a5 a6 a7 a8 a9 ⟨0, Nat.zero_le _, nI_0.symm, h0⟩
  rintro a0 a1 a2 a3 a4 a5 a6 a7 a8 a9 again ⟨i, hi, rfl, hp⟩ hag
  refine ⟨fun hc => ?_, fun hc => ?_⟩
  · have e : i = N := by
      rcases Nat.lt_or_ge i N with q | q
      · exact absurd hc (nI_ge q (by omega))
      · omega
    subst e
    exact he a1 a2 a3 a4 a5 a6 a7 a8 a9 hp
  · have hlt : i < N := by
      rcases Nat.lt_or_ge i N with q | q
      · exact q
      · exact absurd (nI_le q (by omega)) hc
    refine hb i a1 a2 a3 a4 a5 a6 a7 a8 a9 again hlt hp (fun b1 b2 b3 b4 b5 b6 b7 b8 b9 hp2 => hag _ b1 b2 b3 b4 b5 b6 b7 b8 b9 ⟨i + 1, hlt, nI_1 i, hp2⟩ ?_)
    show N - (nI i + 1).toNatClampNeg < N - (nI i).toNatClampNeg
    rw [nI_1, nI_clamp (by omega), nI_clamp (by omega)]
    omega
theorem lofE10_1 {A0 A2 A3 A4 A5 A6 A7 A8 A9 : Type} {M : Int32} {bot : A0 → Int32 → A2 → A3 → A4 → A5 → A6 → A7 → A8 → A9 → Prop} {E : A0 → Int32 → A2 → A3 → A4 → A5 → A6 → A7 → A8 → A9 → Prop} {B : (A0 → Int32 → A2 → A3 → A4 → A5 → A6 → A7 → A8 → A9 → Prop) → A0 → Int32 → A2 → A3 → A4 → A5 → A6 → A7 → A8 → A9 → Prop} (N : Nat) (hN : N < 2000000000) (hM : M = nI N) (P : Nat → A0 → A2 → A3 → A4 → A5 → A6 → A7 → A8 → A9 → Prop) (he : ∀ (a0 : A0) (a2 : A2) (a3 : A3) (a4 : A4) (a5 : A5) (a6 : A6) (a7 : A7) (a8 : A8) (a9 : A9), P N a0 a2 a3 a4 a5 a6 a7 a8 a9 → E a0 (nI N) a2 a3 a4 a5 a6 a7 a8 a9) (hb : ∀ (i : Nat) (a0 : A0) (a2 : A2) (a3 : A3) (a4 : A4) (a5 : A5) (a6 : A6) (a7 : A7) (a8 : A8) (a9 : A9) (again : A0 → Int32 → A2 → A3 → A4 → A5 → A6 → A7 → A8 → A9 → Prop), i < N → P i a0 a2 a3 a4 a5 a6 a7 a8 a9 → (∀ (b0 : A0) (b2 : A2) (b3 : A3) (b4 : A4) (b5 : A5) (b6 : A6) (b7 : A7) (b8 : A8) (b9 : A9), P (i + 1) b0 b2 b3 b4 b5 b6 b7 b8 b9 → again b0 (nI i + 1) b2 b3 b4 b5 b6 b7 b8 b9) → B again a0 (nI i) a2 a3 a4 a5 a6 a7 a8 a9) (a0 : A0) (a2 : A2) (a3 : A3) (a4 : A4) (a5 : A5) (a6 : A6) (a7 : A7) (a8 : A8) (a9 : A9) (h0 : P 0 a0 a2 a3 a4 a5 a6 a7 a8 a9) :
    lo bot (fun (again : A0 → Int32 → A2 → A3 → A4 → A5 → A6 → A7 → A8 → A9 → Prop) (a0 : A0) (a1 : Int32) (a2 : A2) (a3 : A3) (a4 : A4) (a5 : A5) (a6 : A6) (a7 : A7) (a8 : A8) (a9 : A9) => (M ≤ a1 → E a0 a1 a2 a3 a4 a5 a6 a7 a8 a9) ∧ (¬ M ≤ a1 → B again a0 a1 a2 a3 a4 a5 a6 a7 a8 a9)) (fun r => r a0 0 a2 a3 a4 a5 a6 a7 a8 a9) := by
  subst hM
  refine lop10 (I := fun a0 a1 a2 a3 a4 a5 a6 a7 a8 a9 => ∃ i : Nat, i ≤ N ∧ a1 = nI i ∧ P i a0 a2 a3 a4 a5 a6 a7 a8 a9) (fun a0 a1 a2 a3 a4 a5 a6 a7 a8 a9 => N - (a1).toNatClampNeg) ?_ a0 0 a2 a3 a4 a5 a6 a7 a8 a9 ⟨0, Nat.zero_le _, nI_0.symm, h0⟩
  rintro a0 a1 a2 a3 a4 a5 a6 a7 a8 a9 again ⟨i, hi, rfl, hp⟩ hag
  refine ⟨fun hc => ?_, fun hc => ?_⟩
  · have e : i = N := by
      rcases Nat.lt_or_ge i N with q | q
      · exact absurd hc (nI_ge q (by omega))
      · omega
    subst e
    exact he a0 a2 a3 a4 a5 a6 a7 a8 a9 hp
  · have hlt : i < N := by
      rcases Nat.lt_or_ge i N with q | q
      · exact q
      · exact absurd (nI_le q (by omega)) hc
    refine hb i a0 a2 a3 a4 a5 a6 a7 a8 a9 again hlt hp (fun b0 b2 b3 b4 b5 b6 b7 b8 b9 hp2 => hag b0 _ b2 b3 b4 b5 b6 b7 b8 b9 ⟨i + 1, hlt, nI_1 i, hp2⟩ ?_)
    show N - (nI i + 1).toNatClampNeg < N - (nI i).toNatClampNeg
    rw [nI_1, nI_clamp (by omega), nI_clamp (by omega)]
    omega
theorem lofE10_2 {A0 A1 A3 A4 A5 A6 A7 A8 A9 : Type} {M : Int32} {bot : A0 → A1 → Int32 → A3 → A4 → A5 → A6 → A7 → A8 → A9 → Prop} {E : A0 → A1 → Int32 → A3 → A4 → A5 → A6 → A7 → A8 → A9 → Prop} {B : (A0 → A1 → Int32 → A3 → A4 → A5 → A6 → A7 → A8 → A9 → Prop) → A0 → A1 → Int32 → A3 → A4 → A5 → A6 → A7 → A8 → A9 → Prop} (N : Nat) (hN : N < 2000000000) (hM : M = nI N) (P : Nat → A0 → A1 → A3 → A4 → A5 → A6 → A7 → A8 → A9 → Prop) (he : ∀ (a0 : A0) (a1 : A1) (a3 : A3) (a4 : A4) (a5 : A5) (a6 : A6) (a7 : A7) (a8 : A8) (a9 : A9), P N a0 a1 a3 a4 a5 a6 a7 a8 a9 → E a0 a1 (nI N) a3 a4 a5 a6 a7 a8 a9) (hb : ∀ (i : Nat) (a0 : A0) (a1 : A1) (a3 : A3) (a4 : A4) (a5 : A5) (a6 : A6) (a7 : A7) (a8 : A8) (a9 : A9) (again : A0 → A1 → Int32 → A3 → A4 → A5 → A6 → A7 → A8 → A9 → Prop), i < N → P i a0 a1 a3 a4 a5 a6 a7 a8 a9 → (∀ (b0 : A0) (b1 : A1) (b3 : A3) (b4 : A4) (b5 : A5) (b6 : A6) (b7 : A7) (b8 : A8) (b9 : A9), P (i + 1) b0 b1 b3 b4 b5 b6 b7 b8 b9 → again b0 b1 (nI i + 1) b3 b4 b5 b6 b7 b8 b9) → B again a0 a1 (nI i) a3 a4 a5 a6 a7 a8 a9) (a0 : A0) (a1 : A1) (a3 : A3) (a4 : A4) (a5 : A5) (a6 : A6) (a7 : A7) (a8 : A8) (a9 : A9) (h0 : P 0 a0 a1 a3 a4 a5 a6 a7 a8 a9) :
    lo bot (fun (again : A0 → A1 → Int32 → A3 → A4 → A5 → A6 → A7 → A8 → A9 → Prop) (a0 : A0) (a1 : A1) (a2 : Int32) (a3 : A3) (a4 : A4) (a5 : A5) (a6 : A6) (a7 : A7) (a8 : A8) (a9 : A9) => (M ≤ a2 → E a0 a1 a2 a3 a4 a5 a6 a7 a8 a9) ∧ (¬ M ≤ a2 → B again a0 a1 a2 a3 a4 a5 a6 a7 a8 a9)) (fun r => r a0 a1 0 a3 a4 a5 a6 a7 a8 a9) := by
  subst hM
  refine lop10 (I := fun a0 a1 a2 a3 a4 a5 a6 a7 a8 a9 => ∃ i : Nat, i ≤ N ∧ a2 = nI i ∧ P i a0 a1 a3 a4 a5 a6 a7 a8 a9) (fun a0 a1 a2 a3 a4 a5 a6 a7 a8 a9 => N - (a2).toNatClampNeg) ?_ a0 a1 0 a3 a4 a5 a6 a7 a8 a9 ⟨0, Nat.zero_le _, nI_0.symm, h0⟩
  rintro a0 a1 a2 a3 a4 a5 a6 a7 a8 a9 again ⟨i, hi, rfl, hp⟩ hag
  refine ⟨fun hc => ?_, fun hc => ?_⟩
  · have e : i = N := by
      rcases Nat.lt_or_ge i N with q | q
      · exact absurd hc (nI_ge q (by omega))
      · omega
    subst e
    exact he a0 a1 a3 a4 a5 a6 a7 a8 a9 hp
  · have hlt : i < N := by
      rcases Nat.lt_or_ge i N with q | q
      · exact q
      · exact absurd (nI_le q (by omega)) hc
    refine hb i a0 a1 a3 a4 a5 a6 a7 a8 a9 again hlt hp (fun b0 b1 b3 b4 b5 b6 b7 b8 b9 hp2 => hag b0 b1 _ b3 b4 b5 b6 b7 b8 b9 ⟨i + 1, hlt, nI_1 i, hp2⟩ ?_)
    show N - (nI i + 1).toNatClampNeg < N - (nI i).toNatClampNeg
    rw [nI_1, nI_clamp (by omega), nI_clamp (by omega)]
    omega
theorem lofE10_3 {A0 A1 A2 A4 A5 A6 A7 A8 A9 : Type} {M : Int32} {bot : A0 → A1 → A2 → Int32 → A4 → A5 → A6 → A7 → A8 → A9 → Prop} {E : A0 → A1 → A2 → Int32 → A4 → A5 → A6 → A7 → A8 → A9 → Prop} {B : (A0 → A1 → A2 → Int32 → A4 → A5 → A6 → A7 → A8 → A9 → Prop) → A0 → A1 → A2 → Int32 → A4 → A5 → A6 → A7 → A8 → A9 → Prop} (N : Nat) (hN : N < 2000000000) (hM : M = nI N) (P : Nat → A0 → A1 → A2 → A4 → A5 → A6 → A7 → A8 → A9 → Prop) (he : ∀ (a0 : A0) (a1 : A1) (a2 : A2) (a4 : A4) (a5 : A5) (a6 : A6) (a7 : A7) (a8 : A8) (a9 : A9), P N a0 a1 a2 a4 a5 a6 a7 a8 a9 → E a0 a1 a2 (nI N) a4 a5 a6 a7 a8 a9) (hb : ∀ (i : Nat) (a0 : A0) (a1 : A1) (a2 : A2) (a4 : A4) (a5 : A5) (a6 : A6) (a7 : A7) (a8 : A8) (a9 : A9) (again : A0 → A1 → A2 → Int32 → A4 → A5 → A6 → A7 → A8 → A9 → Prop), i < N → P i a0 a1 a2 a4 a5 a6 a7 a8 a9 → (∀ (b0 : A0) (b1 : A1) (b2 : A2) (b4 : A4) (b5 : A5) (b6 : A6) (b7 : A7) (b8 : A8) (b9 : A9), P (i + 1) b0 b1 b2 b4 b5 b6 b7 b8 b9 → again b0 b1 b2 (nI i + 1) b4 b5 b6 b7 b8 b9) → B again a0 a1 a2 (nI i) a4 a5 a6 a7 a8 a9) (a0 : A0) (a1 : A1) (a2 : A2) (a4 : A4) (a5 : A5) (a6 : A6) (a7 : A7) (a8 : A8) (a9 : A9) (h0 : P 0 a0 a1 a2 a4 a5 a6 a7 a8 a9) :
    lo bot (fun (again : A0 → A1 → A2 → Int32 → A4 → A5 → A6 → A7 → A8 → A9 → Prop) (a0 : A0) (a1 : A1) (a2 : A2) (a3 : Int32) (a4 : A4) (a5 : A5) (a6 : A6) (a7 : A7) (a8 : A8) (a9 : A9) => (M ≤ a3 → E a0 a1 a2 a3 a4 a5 a6 a7 a8 a9) ∧ (¬ M ≤ a3 → B again a0 a1 a2 a3 a4 a5 a6 a7 a8 a9)) (fun r => r a0 a1 a2 0 a4 a5 a6 a7 a8 a9) := by
  subst hM
  refine lop10 (I := fun a0 a1 a2 a3 a4 a5 a6 a7 a8 a9 => ∃ i : Nat, i ≤ N ∧ a3 = nI i ∧ P i a0 a1 a2 a4 a5 a6 a7 a8 a9) (fun a0 a1 a2 a3 a4 a5 a6 a7 a8 a9 => N - (a3).toNatClampNeg) ?_ a0 a1 a2 0 a4 a5 a6 a7 a8 a9 ⟨0, Nat.zero_le _, nI_0.symm, h0⟩
  rintro a0 a1 a2 a3 a4 a5 a6 a7 a8 a9 again ⟨i, hi, rfl, hp⟩ hag
  refine ⟨fun hc => ?_, fun hc => ?_⟩
  · have e : i = N := by
      rcases Nat.lt_or_ge i N with q | q
      · exact absurd hc (nI_ge q (by omega))
      · omega
    subst e
    exact he a0 a1 a2 a4 a5 a6 a7 a8 a9 hp
  · have hlt : i < N := by
      rcases Nat.lt_or_ge i N with q | q
      · exact q
      · exact absurd (nI_le q (by omega)) hc
    refine hb i a0 a1 a2 a4 a5 a6 a7 a8 a9 again hlt hp (fun b0 b1 b2 b4 b5 b6 b7 b8 b9 hp2 => hag b0 b1 b2 _ b4 b5 b6 b7 b8 b9 ⟨i + 1, hlt, nI_1 i, hp2⟩ ?_)
    show N - (nI i + 1).toNatClampNeg < N - (nI i).toNatClampNeg
    rw [nI_1, nI_clamp (by omega), nI_clamp (by omega)]
    omega
theorem lofE11_0 {A1 A2 A3 A4 A5 A6 A7 A8 A9 A10 : Type} {M : Int32} {bot : Int32 → A1 → A2 → A3 → A4 → A5 → A6 → A7 → A8 → A9 → A10 → Prop} {E : Int32 → A1 → A2 → A3 → A4 → A5 → A6 → A7 → A8 → A9 → A10 → Prop} {B : (Int32 → A1 → A2 → A3 → A4 → A5 → A6 → A7 → A8 → A9 → A10 → Prop) → Int32 → A1 → A2 → A3 → A4 → A5 → A6 → A7 → A8 → A9 → A10 → Prop} (N : Nat) (hN : N < 2000000000) (hM : M = nI N) (P : Nat → A1 → A2 → A3 → A4 → A5 → A6 → A7 → A8 → A9 → A10 → Prop) (he : ∀ (a1 : A1) (a2 : A2) (a3 : A3) (a4 : A4) (a5 : A5) (a6 : A6) (a7 : A7) (a8 : A8) (a9 : A9) (a10 : A10), P N a1 a2 a3 a4 a5 a6 a7 a8 a9 a10 → E (nI N) a1 a2 a3 a4 a5 a6 a7 a8 a9 a10) (hb : ∀ (i : Nat) (a1 : A1) (a2 : A2) (a3 : A3) (a4 : A4) (a5 : A5) (a6 : A6) (a7 : A7) (a8 : A8) (a9 : A9) (a10 : A10) (again : Int32 → A1 → A2 → A3 → A4 → A5 → A6 → A7 → A8 → A9 → A10 → Prop), i < N → P i a1 a2 a3 a4 a5 a6 a7 a8 a9 a10 → (∀ (b1 : A1) (b2 : A2) (b3 : A3) (b4 : A4) (b5 : A5) (b6 : A6) (b7 : A7) (b8 : A8) (b9 : A9) (b10 : A10), P (i + 1) b1 b2 b3 b4 b5 b6 b7 b8 b9 b10 → again (nI i + 1) b1 b2 b3 b4 b5 b6 b7 b8 b9 b10) → B again (nI i) a1 a2 a3 a4 a5 a6 a7 a8 a9 a10) (a1 : A1) (a2 : A2) (a3 : A3) (a4 : A4) (a5 : A5) (a6 : A6) (a7 : A7) (a8 : A8) (a9 : A9) (a10 : A10) (h0 : P 0 a1 a2 a3 a4 a5 a6 a7 a8 a9 a10) :
    lo bot (fun (again : Int32 → A1 → A2 → A3 → A4 → A5 → A6 → A7 → A8 → A9 → A10 → Prop) (a0 : Int32) (a1 : A1) (a2 : A2) (a3 : A3) (a4 : A4) (a5 : A5) (a6 : A6) (a7 : A7) (a8 : A8) (a9 : A9) (a10 : A10) => (M ≤ a0 → E a0 a1 a2 a3 a4 a5 a6 a7 a8 a9 a10) ∧ (¬ M ≤ a0 → B again a0 a1 a2 a3 a4 a5 a6 a7 a8 a9 a10)) (fun r => r 0 a1 a2 a3 a4 a5 a6 a7 a8 a9 a10) := by
  subst hM
  refine lop11 (I := fun a0 a1 a2 a3 a4 a5 a6 a7 a8 a9 a10 => ∃ i : Nat, i ≤ N ∧ a0 = nI i ∧ P i a1 a2 a3 a4 a5 a6 a7 a8 a9 a10) (fun a0 a1 a2 a3 a4 a5 a6 a7 a8 a9 a10 => N - (a0).toNatClampNeg) ?_ 0 a1 a2 a3 a4 a5 a6 a7 a8 a9 a10 ⟨0, Nat.zero_le _, nI_0.symm, h0⟩
  rintro a0 a1 a2 a3 a4 a5 a6 a7 a8 a9 a10 again ⟨i, hi, rfl, hp⟩ hag
  refine ⟨fun hc => ?_, fun hc => ?_⟩
  · have e : i = N := by
      rcases Nat.lt_or_ge i N with q | q
      · exact absurd hc (nI_ge q (by omega))
      · omega
    subst e
    exact he a1 a2 a3 a4 a5 a6 a7 a8 a9 a10 hp
  · have hlt : i < N := by
      rcases Nat.lt_or_ge i N with q | q
      · exact q
      · exact absurd (nI_le q (by omega)) hc
    refine hb i a1 a2 a3 a4 a5 a6 a7 a8 a9 a10 again hlt hp (fun b1 b2 b3 b4 b5 b6 b7 b8 b9 b10 hp2 => hag _ b1 b2 b3 b4 b5 b6 b7 b8 b9 b10 ⟨i + 1, hlt, nI_1 i, hp2⟩ ?_)
    show N - (nI i + 1).toNatClampNeg < N - (nI i).toNatClampNeg
    rw [nI_1, nI_clamp (by omega), nI_clamp (by omega)]
    omega
theorem lofE11_1 {A0 A2 A3 A4 A5 A6 A7 A8 A9 A10 : Type} {M : Int32} {bot : A0 → Int32 → A2 → A3 → A4 → A5 → A6 → A7 → A8 → A9 → A10 → Prop} {E : A0 → Int32 → A2 → A3 → A4 → A5 → A6 → A7 → A8 → A9 → A10 → Prop} {B : (A0 → Int32 → A2 → A3 → A4 → A5 → A6 → A7 → A8 → A9 → A10 → Prop) → A0 → Int32 → A2 → A3 → A4 → A5 → A6 → A7 → A8 → A9 → A10 → Prop} (N : Nat) (hN : N < 2000000000) (hM : M = nI N) (P : Nat → A0 → A2 → A3 → A4 → A5 → A6 → A7 → A8 → A9 → A10 → Prop) (he : ∀ (a0 : A0) (a2 : A2) (a3 : A3) (a4 : A4) (a5 : A5) (a6 : A6) (a7 : A7) (a8 : A8) (a9 : A9) (a10 : A10), P N a0 a2 a3 a4 a5 a6 a7 a8 a9 a10 → E a0 (nI N) a2 a3 a4 a5 a6 a7 a8 a9 a10) (hb : ∀ (i : Nat) (a0 : A0) (a2 : A2) (a3 : A3) (a4 : A4) (a5 : A5) (a6 : A6) (a7 : A7) (a8 : A8) (a9 : A9) (a10 : A10) (again : A0 → Int32 → A2 → A3 → A4 → A5 → A6 → A7 → A8 → A9 → A10 → Prop), i < N → P i a0 a2 a3 a4 a5 a6 a7 a8 a9 a10 → (∀ (b0 : A0) (b2 : A2) (b3 : A3) (b4 : A4) (b5 : A5) (b6 : A6) (b7 : A7) (b8 : A8) (b9 : A9) (b10 : A10), P (i + 1) b0 b2 b3 b4 b5 b6 b7 b8 b9 b10 → again b0 (nI i + 1) b2 b3 b4 b5 b6 b7 b8 b9 b10) → B again a0 (nI i) a2 a3 a4 a5 a6 a7 a8 a9 a10) (a0 : A0) (a2 : A2) (a3 : A3) (a4 : A4) (a5 : A5) (a6 : A6) (a7 : A7) (a8 : A8) (a9 : A9) (a10 : A10) (h0 : P 0 a0 a2 a3 a4 a5 a6 a7 a8 a9 a10) :
    lo bot (fun (again : A0 → Int32 → A2 → A3 → A4 → A5 → A6 → A7 → A8 → A9 → A10 → Prop) (a0 : A0) (a1 : Int32) (a2 : A2) (a3 : A3) (a4 : A4) (a5 : A5) (a6 : A6) (a7 : A7) (a8 : A8) (a9 : A9) (a10 : A10) => (M ≤ a1 → E a0 a1 a2 a3 a4 a5 a6 a7 a8 a9 a10) ∧ (¬ M ≤ a1 → B again a0 a1 a2 a3 a4 a5 a6 a7 a8 a9 a10)) (fun r => r a0 0 a2 a3 a4 a5 a6 a7 a8 a9 a10) := by
  subst hM
  refine lop11 (I := fun a0 a1 a2 a3 a4 a5 a6 a7 a8 a9 a10 => ∃ i : Nat, i ≤ N ∧ a1 = nI i ∧ P i a0 a2 a3 a4 a5 a6 a7 a8 a9 a10) (fun a0 a1 a2 a3 a4 a5 a6 a7 a8 a9 a10 => N - (a1).toNatClampNeg) ?_ a0 0 a2 a3 a4 a5 a6 a7 a8 a9 a10 ⟨0, Nat.zero_le _, nI_0.symm, h0⟩
  rintro a0 a1 a2 a3 a4 a5 a6 a7 a8 a9 a10 again ⟨i, hi, rfl, hp⟩ hag
  refine ⟨fun hc => ?_, fun hc => ?_⟩
  · have e : i = N := by
      rcases Nat.lt_or_ge i N with q | q
      · exact absurd hc (nI_ge q (by omega))
      · omega
    subst e
    exact he a0 a2 a3 a4 a5 a6 a7 a8 a9 a10 hp
  · have hlt : i < N := by
      rcases Nat.lt_or_ge i N with q | q
      · exact q
      · exact absurd (nI_le q (by omega)) hc
    refine hb i a0 a2 a3 a4 a5 a6 a7 a8 a9 a10 again hlt hp (fun b0 b2 b3 b4 b5 b6 b7 b8 b9 b10 hp2 => hag b0 _ b2 b3 b4 b5 b6 b7 b8 b9 b10 ⟨i + 1, hlt, nI_1 i, hp2⟩ ?_)
    show N - (nI i + 1).toNatClampNeg < N - (nI i).toNatClampNeg
    rw [nI_1, nI_clamp (by omega), nI_clamp (by omega)]
    omega
theorem lofE11_2 {A0 A1 A3 A4 A5 A6 A7 A8 A9 A10 : Type} {M : Int32} {bot : A0 → A1 → Int32 → A3 → A4 → A5 → A6 → A7 → A8 → A9 → A10 → Prop} {E : A0 → A1 → Int32 → A3 → A4 → A5 → A6 → A7 → A8 → A9 → A10 → Prop} {B : (A0 → A1 → Int32 → A3 → A4 → A5 → A6 → A7 → A8 → A9 → A10 → Prop) → A0 → A1 → Int32 → A3 → A4 → A5 → A6 → A7 → A8 → A9 → A10 → Prop} (N : Nat) (hN : N < 2000000000) (hM : M = nI N) (P : Nat → A0 → A1 → A3 → A4 → A5 → A6 → A7 → A8 → A9 → A10 → Prop) (he : ∀ (a0 : A0) (a1 : A1) (a3 : A3) (a4 : A4) (a5 : A5) (a6 : A6) (a7 : A7) (a8 : A8) (a9 : A9) (a10 : A10), P N a0 a1 a3 a4 a5 a6 a7 a8 a9 a10 → E a0 a1 (nI N) a3 a4 a5 a6 a7 a8 a9 a10) (hb : ∀ (i : Nat) (a0 : A0) (a1 : A1) (a3 : A3) (a4 : A4) (a5 : A5) (a6 : A6) (a7 : A7) (a8 : A8) (a9 : A9) (a10 : A10) (again : A0 → A1 → Int32 → A3 → A4 → A5 → A6 → A7 → A8 → A9 → A10 → Prop), i < N → P i a0 a1 a3 a4 a5 a6 a7 a8 a9 a10 → (∀ (b0 : A0) (b1 : A1) (b3 : A3) (b4 : A4) (b5 : A5) (b6 : A6) (b7 : A7) (b8 : A8) (b9 : A9) (b10 : A10), P (i + 1) b0 b1 b3 b4 b5 b6 b7 b8 b9 b10 → again b0 b1 (nI i + 1) b3 b4 b5 b6 b7 b8 b9 b10) → B again a0 a1 (nI i) a3 a4 a5 a6 a7 a8 a9 a10) (a0 : A0) (a1 : A1) (a3 : A3) (a4 : A4) (a5 : A5) (a6 : A6) (a7 : A7) (a8 : A8) (a9 : A9) (a10 : A10) (h0 : P 0 a0 a1 a3 a4 a5 a6 a7 a8 a9 a10) :
    lo bot (fun (again : A0 → A1 → Int32 → A3 → A4 → A5 → A6 → A7 → A8 → A9 → A10 → Prop) (a0 : A0) (a1 : A1) (a2 : Int32) (a3 : A3) (a4 : A4) (a5 : A5) (a6 : A6) (a7 : A7) (a8 : A8) (a9 : A9) (a10 : A10) => (M ≤ a2 → E a0 a1 a2 a3 a4 a5 a6 a7 a8 a9 a10) ∧ (¬ M ≤ a2 → B again a0 a1 a2 a3 a4 a5 a6 a7 a8 a9 a10)) (fun r => r a0 a1 0 a3 a4 a5 a6 a7 a8 a9 a10) := by
  subst hM
  refine lop11 (I := fun a0 a1 a2 a3 a4 a5 a6 a7 a8 a9 a10 => ∃ i : Nat, i ≤ N ∧ a2 = nI i ∧ P i a0 a1 a3 a4 a5 a6 a7 a8 a9 a10) (fun a0 a1 a2 a3 a4 a5 a6 a7 a8 a9 a10 => N - (a2).toNatClampNeg) ?_ a0 a1 0 a3 a4 a5 a6 a7 a8 a9 a10 ⟨0, Nat.zero_le _, nI_0.symm, h0⟩
  rintro a0 a1 a2 a3 a4 a5 a6 a7 a8 a9 a10 again ⟨i, hi, rfl, hp⟩ hag
  refine ⟨fun hc => ?_, fun hc => ?_⟩
  · have e : i = N := by
      rcases Nat.lt_or_ge i N with q | q
      · exact absurd hc (nI_ge q (by omega))
      · omega
    subst e
    exact he a0 a1 a3 a4 a5 a6 a7 a8 a9 a10 hp
  · have hlt : i < N := by
      rcases Nat.lt_or_ge i N with q | q
      · exact q
      · exact absurd (nI_le q (by omega)) hc
    refine hb i a0 a1 a3 a4 a5 a6 a7 a8 a9 a10 again hlt hp (fun b0 b1 b3 b4 b5 b6 b7 b8 b9 b10 hp2 => hag b0 b1 _ b3 b4 b5 b6 b7 b8 b9 b10 ⟨i + 1, hlt, nI_1 i, hp2⟩ ?_)
    show N - (nI i + 1).toNatClampNeg < N - (nI i).toNatClampNeg
    rw [nI_1, nI_clamp (by omega), nI_clamp (by omega)]
    omega
theorem lofE11_3 {A0 A1 A2 A4 A5 A6 A7 A8 A9 A10 : Type} {M : Int32} {bot : A0 → A1 → A2 → Int32 → A4 → A5 → A6 → A7 → A8 → A9 → A10 → Prop} {E : A0 → A1 → A2 → Int32 → A4 → A5 → A6 → A7 → A8 → A9 → A10 → Prop} {B : (A0 → A1 → A2 → Int32 → A4 → A5 → A6 → A7 → A8 → A9 → A10 → Prop) → A0 → A1 → A2 → Int32 → A4 → A5 → A6 → A7 → A8 → A9 → A10 → Prop} (N : Nat) (hN : N < 2000000000) (hM : M = nI N) (P : Nat → A0 → A1 → A2 → A4 → A5 → A6 → A7 → A8 → A9 → A10 → Prop) (he : ∀ (a0 : A0) (a1 : A1) (a2 : A2) (a4 : A4) (a5 : A5) (a6 : A6) (a7 : A7) (a8 : A8) (a9 : A9) (a10 : A10), P N a0 a1 a2 a4 a5 a6 a7 a8 a9 a10 → E a0 a1 a2 (nI N) a4 a5 a6 a7 a8 a9 a10) (hb : ∀ (i : Nat) (a0 : A0) (a1 : A1) (a2 : A2) (a4 : A4) (a5 : A5) (a6 : A6) (a7 : A7) (a8 : A8) (a9 : A9) (a10 : A10) (again : A0 → A1 → A2 → Int32 → A4 → A5 → A6 → A7 → A8 → A9 → A10 → Prop), i < N → P i a0 a1 a2 a4 a5 a6 a7 a8 a9 a10 → (∀ (b0 : A0) (b1 : A1) (b2 : A2) (b4 : A4) (b5 : A5) (b6 : A6) (b7 : A7) (b8 : A8) (b9 : A9) (b10 : A10), P (i + 1) b0 b1 b2 b4 b5 b6 b7 b8 b9 b10 → again b0 b1 b2 (nI i + 1) b4 b5 b6 b7 b8 b9 b10) → B again a0 a1 a2 (nI i) a4 a5 a6 a7 a8 a9 a10) (a0 : A0) (a1 : A1) (a2 : A2) (a4 : A4) (a5 : A5) (a6 : A6) (a7 : A7) (a8 : A8) (a9 : A9) (a10 : A10) (h0 : P 0 a0 a1 a2 a4 a5 a6 a7 a8 a9 a10) :
    lo bot (fun (again : A0 → A1 → A2 → Int32 → A4 → A5 → A6 → A7 → A8 → A9 → A10 → Prop) (a0 : A0) (a1 : A1) (a2 : A2) (a3 : Int32) (a4 : A4) (a5 : A5) (a6 : A6) (a7 : A7) (a8 : A8) (a9 : A9) (a10 : A10) => (M ≤ a3 → E a0 a1 a2 a3 a4 a5 a6 a7 a8 a9 a10) ∧ (¬ M ≤ a3 → B again a0 a1 a2 a3 a4 a5 a6 a7 a8 a9 a10)) (fun r => r a0 a1 a2 0 a4 a5 a6 a7 a8 a9 a10) := by
  subst hM
  refine lop11 (I := fun a0 a1 a2 a3 a4 a5 a6 a7 a8 a9 a10 => ∃ i : Nat, i ≤ N ∧ a3 = nI i ∧ P i a0 a1 a2 a4 a5 a6 a7 a8 a9 a10) (fun a0 a1 a2 a3 a4 a5 a6 a7 a8 a9 a10 => N - (a3).toNatClampNeg) ?_ a0 a1 a2 0 a4 a5 a6 a7 a8 a9 a10 ⟨0, Nat.zero_le _, nI_0.symm, h0⟩
  rintro a0 a1 a2 a3 a4 a5 a6 a7 a8 a9 a10 again ⟨i, hi, rfl, hp⟩ hag
  refine ⟨fun hc => ?_, fun hc => ?_⟩
  · have e : i = N := by
      rcases Nat.lt_or_ge i N with q | q
      · exact absurd hc (nI_ge q (by omega))
      · omega
    subst e
    exact he a0 a1 a2 a4 a5 a6 a7 a8 a9 a10 hp
  · have hlt : i < N := by
      rcases Nat.lt_or_ge i N with q | q
      · exact q
      · exact absurd (nI_le q (by omega)) hc
    refine hb i a0 a1 a2 a4 a5 a6 a7 a8 a9 a10 again hlt hp (fun b0 b1 b2 b4 b5 b6 b7 b8 b9 b10 hp2 => hag b0 b1 b2 _ b4 b5 b6 b7 b8 b9 b10 ⟨i + 1, hlt, nI_1 i, hp2⟩ ?_)
    show N - (nI i + 1).toNatClampNeg < N - (nI i).toNatClampNeg
    rw [nI_1, nI_clamp (by omega), nI_clamp (by omega)]
    omega
