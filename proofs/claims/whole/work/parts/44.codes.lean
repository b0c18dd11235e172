theorem lor1 {A0 : Type} {bot : A0 → Prop} {F : (A0 → Prop) → A0 → Prop} (I : Nat → A0 → Prop) (hs : ∀ (m : Nat) (a0 : A0) (again : A0 → Prop), I m a0 → (∀ (m2 : Nat) (b0 : A0), m2 < m → I m2 b0 → again b0) → F again a0) (m : Nat) (a0 : A0) (h : I m a0) : lo bot F (fun r => r a0) := by
  have key : ∀ (f m : Nat) (a0 : A0), m < f → I m a0 → wl bot F f a0 := by
    intro f
    induction f with
    | zero => intro m a0 h; exact absurd h (Nat.not_lt_zero _)
    | succ f ih => intro m a0 h hI; exact hs m a0 _ hI (fun m2 b0 h2 hb => ih m2 b0 (Nat.lt_of_lt_of_le h2 (Nat.le_of_lt_succ h)) hb)
  exact ⟨_, key (m + 1) m a0 (Nat.lt_succ_self _) h⟩
theorem lor2 {A0 A1 : Type} {bot : A0 → A1 → Prop} {F : (A0 → A1 → Prop) → A0 → A1 → Prop} (I : Nat → A0 → A1 → Prop) (hs : ∀ (m : Nat) (a0 : A0) (a1 : A1) (again : A0 → A1 → Prop), I m a0 a1 → (∀ (m2 : Nat) (b0 : A0) (b1 : A1), m2 < m → I m2 b0 b1 → again b0 b1) → F again a0 a1) (m : Nat) (a0 : A0) (a1 : A1) (h : I m a0 a1) : lo bot F (fun r => r a0 a1) := by
  have key : ∀ (f m : Nat) (a0 : A0) (a1 : A1), m < f → I m a0 a1 → wl bot F f a0 a1 := by
    intro f
    induction f with
    | zero => intro m a0 a1 h; exact absurd h (Nat.not_lt_zero _)
    | succ f ih => intro m a0 a1 h hI; exact hs m a0 a1 _ hI (fun m2 b0 b1 h2 hb => ih m2 b0 b1 (Nat.lt_of_lt_of_le h2 (Nat.le_of_lt_succ h)) hb)
  exact ⟨_, key (m + 1) m a0 a1 (Nat.lt_succ_self _) h⟩
theorem lor3 {A0 A1 A2 : Type} {bot : A0 → A1 → A2 → Prop} {F : (A0 → A1 → A2 → Prop) → A0 → A1 → A2 → Prop} (I : Nat → A0 → A1 → A2 → Prop) (hs : ∀ (m : Nat) (a0 : A0) (a1 : A1) (a2 : A2) (again : A0 → A1 → A2 → Prop), I m a0 a1 a2 → (∀ (m2 : Nat) (b0 : A0) (b1 : A1) (b2 : A2), m2 < m → I m2 b0 b1 b2 → again b0 b1 b2) → F again a0 a1 a2) (m : Nat) (a0 : A0) (a1 : A1) (a2 : A2) (h : I m a0 a1 a2) : lo bot F (fun r => r a0 a1 a2) := by
  have key : ∀ (f m : Nat) (a0 : A0) (a1 : A1) (a2 : A2), m < f → I m a0 a1 a2 → wl bot F f a0 a1 a2 := by
    intro f
    induction f with
    | zero => intro m a0 a1 a2 h; exact absurd h (Nat.not_lt_zero _)
    | succ f ih => intro m a0 a1 a2 h hI; exact hs m a0 a1 a2 _ hI (fun m2 b0 b1 b2 h2 hb => ih m2 b0 b1 b2 (Nat.lt_of_lt_of_le h2 (Nat.le_of_lt_succ h)) hb)
  exact ⟨_, key (m + 1) m a0 a1 a2 (Nat.lt_succ_self _) h⟩
theorem lor4 {A0 A1 A2 A3 : Type} {bot : A0 → A1 → A2 → A3 → Prop} {F : (A0 → A1 → A2 → A3 → Prop) → A0 → A1 → A2 → A3 → Prop} (I : Nat → A0 → A1 → A2 → A3 → Prop) (hs : ∀ (m : Nat) (a0 : A0) (a1 : A1) (a2 : A2) (a3 : A3) (again : A0 → A1 → A2 → A3 → Prop), I m a0 a1 a2 a3 → (∀ (m2 : Nat) (b0 : A0) (b1 : A1) (b2 : A2) (b3 : A3), m2 < m → I m2 b0 b1 b2 b3 → again b0 b1 b2 b3) → F again a0 a1 a2 a3) (m : Nat) (a0 : A0) (a1 : A1) (a2 : A2) (a3 : A3) (h : I m a0 a1 a2 a3) : lo bot F (fun r => r a0 a1 a2 a3) := by
  have key : ∀ (f m : Nat) (a0 : A0) (a1 : A1) (a2 : A2) (a3 : A3), m < f → I m a0 a1 a2 a3 → wl bot F f a0 a1 a2 a3 := by
    intro f
    induction f with
    | zero => intro m a0 a1 a2 a3 h; exact absurd h (Nat.not_lt_zero _)
    | succ f ih => intro m a0 a1 a2 a3 h hI; exact hs m a0 a1 a2 a3 _ hI (fun m2 b0 b1 b2 b3 h2 hb => ih m2 b0 b1 b2 b3 (Nat.lt_of_lt_of_le h2 (Nat.le_of_lt_succ h)) hb)
  exact ⟨_, key (m + 1) m a0 a1 a2 a3 (Nat.lt_succ_self _) h⟩
theorem lor5 {A0 A1 A2 A3 A4 : Type} {bot : A0 → A1 → A2 → A3 → A4 → Prop} {F : (A0 → A1 → A2 → A3 → A4 → Prop) → A0 → A1 → A2 → A3 → A4 → Prop} (I : Nat → A0 → A1 → A2 → A3 → A4 → Prop) (hs : ∀ (m : Nat) (a0 : A0) (a1 : A1) (a2 : A2) (a3 : A3) (a4 : A4) (again : A0 → A1 → A2 → A3 → A4 → Prop), I m a0 a1 a2 a3 a4 → (∀ (m2 : Nat) (b0 : A0) (b1 : A1) (b2 : A2) (b3 : A3) (b4 : A4), m2 < m → I m2 b0 b1 b2 b3 b4 → again b0 b1 b2 b3 b4) → F again a0 a1 a2 a3 a4) (m : Nat) (a0 : A0) (a1 : A1) (a2 : A2) (a3 : A3) (a4 : A4) (h : I m a0 a1 a2 a3 a4) : lo bot F (fun r => r a0 a1 a2 a3 a4) := by
  have key : ∀ (f m : Nat) (a0 : A0) (a1 : A1) (a2 : A2) (a3 : A3) (a4 : A4), m < f → I m a0 a1 a2 a3 a4 → wl bot F f a0 a1 a2 a3 a4 := by
    intro f
    induction f with
    | zero => intro m a0 a1 a2 a3 a4 h; exact absurd h (Nat.not_lt_zero _)
    | succ f ih => intro m a0 a1 a2 a3 a4 h hI; exact hs m a0 a1 a2 a3 a4 _ hI (fun m2 b0 b1 b2 b3 b4 h2 hb => ih m2 b0 b1 b2 b3 b4 (Nat.lt_of_lt_of_le h2 (Nat.le_of_lt_succ h)) hb)
  exact ⟨_, key (m + 1) m a0 a1 a2 a3 a4 (Nat.lt_succ_self _) h⟩
theorem lor6 {A0 A1 A2 A3 A4 A5 : Type} {bot : A0 → A1 → A2 → A3 → A4 → A5 → Prop} {F : (A0 → A1 → A2 → A3 → A4 → A5 → Prop) → A0 → A1 → A2 → A3 → A4 → A5 → Prop} (I : Nat → A0 → A1 → A2 → A3 → A4 → A5 → Prop) (hs : ∀ (m : Nat) (a0 : A0) (a1 : A1) (a2 : A2) (a3 : A3) (a4 : A4) (a5 : A5) (again : A0 → A1 → A2 → A3 → A4 → A5 → Prop), I m a0 a1 a2 a3 a4 a5 → (∀ (m2 : Nat) (b0 : A0) (b1 : A1) (b2 : A2) (b3 : A3) (b4 : A4) (b5 : A5), m2 < m → I m2 b0 b1 b2 b3 b4 b5 → again b0 b1 b2 b3 b4 b5) → F again a0 a1 a2 a3 a4 a5) (m : Nat) (a0 : A0) (a1 : A1) (a2 : A2) (a3 : A3) (a4 : A4) (a5 : A5) (h : I m a0 a1 a2 a3 a4 a5) : lo bot F (fun r => r a0 a1 a2 a3 a4 a5) := by
  have key : ∀ (f m : Nat) (a0 : A0) (a1 : A1) (a2 : A2) (a3 : A3) (a4 : A4) (a5 : A5), m < f → I m a0 a1 a2 a3 a4 a5 → wl bot F f a0 a1 a2 a3 a4 a5 := by
    intro f
    induction f with
    | zero => intro m a0 a1 a2 a3 a4 a5 h; exact absurd h (Nat.not_lt_zero _)
    | succ f ih => intro m a0 a1 a2 a3 a4 a5 h hI; exact hs m a0 a1 a2 a3 a4 a5 _ hI (fun m2 b0 b1 b2 b3 b4 b5 h2 hb => ih m2 b0 b1 b2 b3 b4 b5 (Nat.lt_of_lt_of_le h2 (Nat.le_of_lt_succ h)) hb)
  exact ⟨_, key (m + 1) m a0 a1 a2 a3 a4 a5 (Nat.lt_succ_self _) h⟩
theorem lor7 {A0 A1 A2 A3 A4 A5 A6 : Type} {bot : A0 → A1 → A2 → A3 → A4 → A5 → A6 → Prop} {F : (A0 → A1 → A2 → A3 → A4 → A5 → A6 → Prop) → A0 → A1 → A2 → A3 → A4 → A5 → A6 → Prop} (I : Nat → A0 → A1 → A2 → A3 → A4 → A5 → A6 → Prop) (hs : ∀ (m : Nat) (a0 : A0) (a1 : A1) (a2 : A2) (a3 : A3) (a4 : A4) (a5 : A5) (a6 : A6) (again : A0 → A1 → A2 → A3 → A4 → A5 → A6 → Prop), I m a0 a1 a2 a3 a4 a5 a6 → (∀ (m2 : Nat) (b0 : A0) (b1 : A1) (b2 : A2) (b3 : A3) (b4 : A4) (b5 : A5) (b6 : A6), m2 < m → I m2 b0 b1 b2 b3 b4 b5 b6 → again b0 b1 b2 b3 b4 b5 b6) → F again a0 a1 a2 a3 a4 a5 a6) (m : Nat) (a0 : A0) (a1 : A1) (a2 : A2) (a3 : A3) (a4 : A4) (a5 : A5) (a6 : A6) (h : I m a0 a1 a2 a3 a4 a5 a6) : lo bot F (fun r => r a0 a1 a2 a3 a4 a5 a6) := by
  have key : ∀ (f m : Nat) (a0 : A0) (a1 : A1) (a2 : A2) (a3 : A3) (a4 : A4) (a5 : A5) (a6 : A6), m < f → I m a0 a1 a2 a3 a4 a5 a6 → wl bot F f a0 a1 a2 a3 a4 a5 a6 := by
    intro f
    induction f with
    | zero => intro m a0 a1 a2 a3 a4 a5 a6 h; exact absurd h (Nat.not_lt_zero _)
    | succ f ih => intro m a0 a1 a2 a3 a4 a5 a6 h hI; exact hs m a0 a1 a2 a3 a4 a5 a6 _ hI (fun m2 b0 b1 b2 b3 b4 b5 b6 h2 hb => ih m2 b0 b1 b2 b3 b4 b5 b6 (Nat.lt_of_lt_of_le h2 (Nat.le_of_lt_succ h)) hb)
  exact ⟨_, key (m + 1) m a0 a1 a2 a3 a4 a5 a6 (Nat.lt_succ_self _) h⟩
theorem lor9 {A0 A1 A2 A3 A4 A5 A6 A7 A8 : Type} {bot : A0 → A1 → A2 → A3 → A4 → A5 → A6 → A7 → A8 → Prop} {F : (A0 → A1 → A2 → A3 → A4 → A5 → A6 → A7 → A8 → Prop) → A0 → A1 → A2 → A3 → A4 → A5 → A6 → A7 → A8 → Prop} (I : Nat → A0 → A1 → A2 → A3 → A4 → A5 → A6 → A7 → A8 → Prop) (hs : ∀ (m : Nat) (a0 : A0) (a1 : A1) (a2 : A2) (a3 : A3) (a4 : A4) (a5 : A5) (a6 : A6) (a7 : A7) (a8 : A8) (again : A0 → A1 → A2 → A3 → A4 → A5 → A6 → A7 → A8 → Prop), I m a0 a1 a2 a3 a4 a5 a6 a7 a8 → (∀ (m2 : Nat) (b0 : A0) (b1 : A1) (b2 : A2) (b3 : A3) (b4 : A4) (b5 : A5) (b6 : A6) (b7 : A7) (b8 : A8), m2 < m → I m2 b0 b1 b2 b3 b4 b5 b6 b7 b8 → again b0 b1 b2 b3 b4 b5 b6 b7 b8) → F again a0 a1 a2 a3 a4 a5 a6 a7 a8) (m : Nat) (a0 : A0) (a1 : A1) (a2 : A2) (a3 : A3) (a4 : A4) (a5 : A5) (a6 : A6) (a7 : A7) (a8 : A8) (h : I m a0 a1 a2 a3 a4 a5 a6 a7 a8) : lo bot F (fun r => r a0 a1 a2 a3 a4 a5 a6 a7 a8) := by
  have key : ∀ (f m : Nat) (a0 : A0) (a1 : A1) (a2 : A2) (a3 : A3) (a4 : A4) (a5 : A5) (a6 : A6) (a7 : A7) (a8 : A8), m < f → I m a0 a1 a2 a3 a4 a5 a6 a7 a8 → wl bot F f a0 a1 a2 a3 a4 a5 a6 a7 a8 := by
    intro f
    induction f with
    | zero => intro m a0 a1 a2 a3 a4 a5 a6 a7 a8 h; exact absurd h (Nat.not_lt_zero _)
    | succ f ih => intro m a0 a1 a2 a3 a4 a5 a6 a7 a8 h hI; exact hs m a0 a1 a2 a3 a4 a5 a6 a7 a8 _ hI (fun m2 b0 b1 b2 b3 b4 b5 b6 b7 b8 h2 hb => ih m2 b0 b1 b2 b3 b4 b5 b6 b7 b8 (Nat.lt_of_lt_of_le h2 (Nat.le_of_lt_succ h)) hb)
  exact ⟨_, key (m + 1) m a0 a1 a2 a3 a4 a5 a6 a7 a8 (Nat.lt_succ_self _) h⟩
/-! which codes tell an order of all QUESTIONS, one after another -/
def snF (m c : Nat) : Nat → Nat
  | 0 => 0
  | j + 1 => snF m c j ||| 2 ^ (c / m ^ j % m)
def pmB (m c : Nat) : Bool := Nat.beq (snF m c m) (2 ^ m - 1)
def dgF (m c : Nat) : Nat → List Nat
  | 0 => []
  | j + 1 => (c / m ^ j % m) :: dgF m c j
def lEq : List Nat → List Nat → Bool
  | [], [] => true
  | x :: xs, y :: ys => Nat.beq x y && lEq xs ys
  | _, _ => false
theorem lEq_eq : ∀ {l m : List Nat}, lEq l m = true → l = m
  | [], [], _ => rfl
  | [], _ :: _, h => by simp [lEq] at h
  | _ :: _, [], h => by simp [lEq] at h
  | x :: xs, y :: ys, h => by
    simp only [lEq, Bool.and_eq_true] at h
    rw [Nat.eq_of_beq_eq_true h.1, lEq_eq h.2]
/-- from code c on f codes are looked at; e: the order that must come next -/
def ckF (m : Nat) : Nat → Nat → Option (List Nat) → Option (Option (List Nat))
  | 0, _, e => some e
  | f + 1, c, e => bif pmB m c then (match e with
      | none => none
      | some l => bif lEq (dgF m c m) l then ckF m f (c + 1) (nxF m l) else none) else ckF m f (c + 1) e
def exF (m : Nat) : Nat → Option (List Nat)
  | 0 => some (List.range m)
  | c + 1 => bif pmB m c then (exF m c).bind (nxF m) else exF m c
theorem ck_spec {m : Nat} : ∀ (f c : Nat) (e r : Option (List Nat)), exF m c = e → ckF m f c e = some r → exF m (c + f) = r ∧ ∀ i, i < f → pmB m (c + i) = true → exF m (c + i) = some (dgF m (c + i) m)
  | 0, c, e, r, h1, h2 => by
    have h3 : some e = some r := h2
    cases h3
    exact ⟨h1, fun i hi => absurd hi (Nat.not_lt_zero _)⟩
  | f + 1, c, e, r, h1, h2 => by
    unfold ckF at h2
    cases q : pmB m c with
    | false =>
      rw [q] at h2
      obtain ⟨g1, g2⟩ := ck_spec f (c + 1) e r (by rw [exF, q]; exact h1) h2
      refine ⟨by rw [show c + (f + 1) = c + 1 + f by omega]; exact g1, fun i hi hp => ?_⟩
      cases i with
      | zero => rw [Nat.add_zero, q] at hp; simp at hp
      | succ i =>
        have := g2 i (by omega)
        rw [show c + 1 + i = c + (i + 1) by omega] at this
        exact this hp
    | true =>
      rw [q] at h2
      cases e with
      | none => simp at h2
      | some l =>
        simp only [cond_true] at h2
        cases z : lEq (dgF m c m) l with
        | false => rw [z] at h2; simp at h2
        | true =>
          rw [z] at h2
          have el := lEq_eq z
          obtain ⟨g1, g2⟩ := ck_spec f (c + 1) (nxF m l) r (by rw [exF, q, h1]; rfl) h2
          refine ⟨by rw [show c + (f + 1) = c + 1 + f by omega]; exact g1, fun i hi hp => ?_⟩
          cases i with
          | zero => rw [Nat.add_zero, h1, el]
          | succ i =>
            have := g2 i (by omega)
            rw [show c + 1 + i = c + (i + 1) by omega] at this
            exact this hp
theorem ck_cat {m f g c : Nat} {e r t : Option (List Nat)} (h1 : exF m c = e) (ha : exF m (c + f) = r ∧ ∀ i, i < f → pmB m (c + i) = true → exF m (c + i) = some (dgF m (c + i) m)) (hb : ckF m g (c + f) r = some t) : exF m (c + (f + g)) = t ∧ ∀ i, i < f + g → pmB m (c + i) = true → exF m (c + i) = some (dgF m (c + i) m) := by
  obtain ⟨g1, g2⟩ := ck_spec g (c + f) r t ha.1 hb
  refine ⟨by rw [← Nat.add_assoc]; exact g1, fun i hi hp => ?_⟩
  rcases Nat.lt_or_ge i f with q | q
  · exact ha.2 i q hp
  · have := g2 (i - f) (by omega)
    rw [show c + f + (i - f) = c + i by omega] at this
    exact this hp
def ckP (m f : Nat) (r : Option (List Nat)) : Prop := exF m (0 + f) = r ∧ ∀ i, i < f → pmB m (0 + i) = true → exF m (0 + i) = some (dgF m (0 + i) m)
theorem ckP_0 (m : Nat) : ckP m 0 (some (List.range m)) := ⟨rfl, fun i hi => absurd hi (Nat.not_lt_zero _)⟩
theorem ckP_s {m f g h : Nat} {r t : Option (List Nat)} (ha : ckP m f r) (hh : f + g = h) (hb : ckF m g f r = some t) : ckP m h t := by
  subst hh
  exact ck_cat rfl ha (by rw [Nat.zero_add]; exact hb)
theorem ck_0_0 : ckF 0 1 0 (some []) = some (none) := by decide +kernel
theorem cp_0_0 : ckP 0 1 (none) := ckP_s (f := 0) (g := 1) (ckP_0 0) rfl ck_0_0
theorem cz_0 : ckP 0 (0 ^ 0) none := (show 0 ^ 0 = 1 from rfl) ▸ cp_0_0
theorem ck_1_0 : ckF 1 1 0 (some [0]) = some (none) := by decide +kernel
theorem cp_1_0 : ckP 1 1 (none) := ckP_s (f := 0) (g := 1) (ckP_0 1) rfl ck_1_0
theorem cz_1 : ckP 1 (1 ^ 1) none := (show 1 ^ 1 = 1 from rfl) ▸ cp_1_0
theorem ck_2_0 : ckF 2 4 0 (some [0, 1]) = some (none) := by decide +kernel
theorem cp_2_0 : ckP 2 4 (none) := ckP_s (f := 0) (g := 4) (ckP_0 2) rfl ck_2_0
theorem cz_2 : ckP 2 (2 ^ 2) none := (show 2 ^ 2 = 4 from rfl) ▸ cp_2_0
theorem ck_3_0 : ckF 3 27 0 (some [0, 1, 2]) = some (none) := by decide +kernel
theorem cp_3_0 : ckP 3 27 (none) := ckP_s (f := 0) (g := 27) (ckP_0 3) rfl ck_3_0
theorem cz_3 : ckP 3 (3 ^ 3) none := (show 3 ^ 3 = 27 from rfl) ▸ cp_3_0
theorem ck_4_0 : ckF 4 40 0 (some [0, 1, 2, 3]) = some (some [0, 2, 3, 1]) := by decide +kernel
theorem cp_4_0 : ckP 4 40 (some [0, 2, 3, 1]) := ckP_s (f := 0) (g := 40) (ckP_0 4) rfl ck_4_0
theorem ck_4_1 : ckF 4 40 40 (some [0, 2, 3, 1]) = some (some [1, 2, 0, 3]) := by decide +kernel
theorem cp_4_1 : ckP 4 80 (some [1, 2, 0, 3]) := ckP_s (f := 40) (g := 40) (cp_4_0) rfl ck_4_1
theorem ck_4_2 : ckF 4 40 80 (some [1, 2, 0, 3]) = some (some [1, 3, 2, 0]) := by decide +kernel
theorem cp_4_2 : ckP 4 120 (some [1, 3, 2, 0]) := ckP_s (f := 80) (g := 40) (cp_4_1) rfl ck_4_2
theorem ck_4_3 : ckF 4 40 120 (some [1, 3, 2, 0]) = some (some [2, 3, 0, 1]) := by decide +kernel
theorem cp_4_3 : ckP 4 160 (some [2, 3, 0, 1]) := ckP_s (f := 120) (g := 40) (cp_4_2) rfl ck_4_3
theorem ck_4_4 : ckF 4 40 160 (some [2, 3, 0, 1]) = some (some [3, 0, 2, 1]) := by decide +kernel
theorem cp_4_4 : ckP 4 200 (some [3, 0, 2, 1]) := ckP_s (f := 160) (g := 40) (cp_4_3) rfl ck_4_4
theorem ck_4_5 : ckF 4 40 200 (some [3, 0, 2, 1]) = some (none) := by decide +kernel
theorem cp_4_5 : ckP 4 240 (none) := ckP_s (f := 200) (g := 40) (cp_4_4) rfl ck_4_5
theorem ck_4_6 : ckF 4 16 240 (none) = some (none) := by decide +kernel
theorem cp_4_6 : ckP 4 256 (none) := ckP_s (f := 240) (g := 16) (cp_4_5) rfl ck_4_6
theorem cz_4 : ckP 4 (4 ^ 4) none := (show 4 ^ 4 = 256 from rfl) ▸ cp_4_6
theorem ck_5_0 : ckF 5 40 0 (some [0, 1, 2, 3, 4]) = some (some [0, 1, 2, 3, 4]) := by decide +kernel
theorem cp_5_0 : ckP 5 40 (some [0, 1, 2, 3, 4]) := ckP_s (f := 0) (g := 40) (ckP_0 5) rfl ck_5_0
theorem ck_5_1 : ckF 5 40 40 (some [0, 1, 2, 3, 4]) = some (some [0, 1, 2, 3, 4]) := by decide +kernel
theorem cp_5_1 : ckP 5 80 (some [0, 1, 2, 3, 4]) := ckP_s (f := 40) (g := 40) (cp_5_0) rfl ck_5_1
theorem ck_5_2 : ckF 5 40 80 (some [0, 1, 2, 3, 4]) = some (some [0, 1, 2, 3, 4]) := by decide +kernel
theorem cp_5_2 : ckP 5 120 (some [0, 1, 2, 3, 4]) := ckP_s (f := 80) (g := 40) (cp_5_1) rfl ck_5_2
theorem ck_5_3 : ckF 5 40 120 (some [0, 1, 2, 3, 4]) = some (some [0, 1, 2, 3, 4]) := by decide +kernel
theorem cp_5_3 : ckP 5 160 (some [0, 1, 2, 3, 4]) := ckP_s (f := 120) (g := 40) (cp_5_2) rfl ck_5_3
theorem ck_5_4 : ckF 5 40 160 (some [0, 1, 2, 3, 4]) = some (some [0, 1, 3, 2, 4]) := by decide +kernel
theorem cp_5_4 : ckP 5 200 (some [0, 1, 3, 2, 4]) := ckP_s (f := 160) (g := 40) (cp_5_3) rfl ck_5_4
theorem ck_5_5 : ckF 5 40 200 (some [0, 1, 3, 2, 4]) = some (some [0, 1, 4, 3, 2]) := by decide +kernel
theorem cp_5_5 : ckP 5 240 (some [0, 1, 4, 3, 2]) := ckP_s (f := 200) (g := 40) (cp_5_4) rfl ck_5_5
theorem ck_5_6 : ckF 5 40 240 (some [0, 1, 4, 3, 2]) = some (some [0, 2, 1, 3, 4]) := by decide +kernel
theorem cp_5_6 : ckP 5 280 (some [0, 2, 1, 3, 4]) := ckP_s (f := 240) (g := 40) (cp_5_5) rfl ck_5_6
theorem ck_5_7 : ckF 5 40 280 (some [0, 2, 1, 3, 4]) = some (some [0, 2, 3, 1, 4]) := by decide +kernel
theorem cp_5_7 : ckP 5 320 (some [0, 2, 3, 1, 4]) := ckP_s (f := 280) (g := 40) (cp_5_6) rfl ck_5_7
theorem ck_5_8 : ckF 5 40 320 (some [0, 2, 3, 1, 4]) = some (some [0, 2, 4, 3, 1]) := by decide +kernel
theorem cp_5_8 : ckP 5 360 (some [0, 2, 4, 3, 1]) := ckP_s (f := 320) (g := 40) (cp_5_7) rfl ck_5_8
theorem ck_5_9 : ckF 5 40 360 (some [0, 2, 4, 3, 1]) = some (some [0, 3, 1, 2, 4]) := by decide +kernel
theorem cp_5_9 : ckP 5 400 (some [0, 3, 1, 2, 4]) := ckP_s (f := 360) (g := 40) (cp_5_8) rfl ck_5_9
theorem ck_5_10 : ckF 5 40 400 (some [0, 3, 1, 2, 4]) = some (some [0, 3, 2, 4, 1]) := by decide +kernel
theorem cp_5_10 : ckP 5 440 (some [0, 3, 2, 4, 1]) := ckP_s (f := 400) (g := 40) (cp_5_9) rfl ck_5_10
theorem ck_5_11 : ckF 5 40 440 (some [0, 3, 2, 4, 1]) = some (some [0, 3, 4, 1, 2]) := by decide +kernel
theorem cp_5_11 : ckP 5 480 (some [0, 3, 4, 1, 2]) := ckP_s (f := 440) (g := 40) (cp_5_10) rfl ck_5_11
theorem ck_5_12 : ckF 5 40 480 (some [0, 3, 4, 1, 2]) = some (some [0, 4, 1, 2, 3]) := by decide +kernel
theorem cp_5_12 : ckP 5 520 (some [0, 4, 1, 2, 3]) := ckP_s (f := 480) (g := 40) (cp_5_11) rfl ck_5_12
theorem ck_5_13 : ckF 5 40 520 (some [0, 4, 1, 2, 3]) = some (some [0, 4, 2, 3, 1]) := by decide +kernel
theorem cp_5_13 : ckP 5 560 (some [0, 4, 2, 3, 1]) := ckP_s (f := 520) (g := 40) (cp_5_12) rfl ck_5_13
theorem ck_5_14 : ckF 5 40 560 (some [0, 4, 2, 3, 1]) = some (some [1, 0, 2, 3, 4]) := by decide +kernel
theorem cp_5_14 : ckP 5 600 (some [1, 0, 2, 3, 4]) := ckP_s (f := 560) (g := 40) (cp_5_13) rfl ck_5_14
theorem ck_5_15 : ckF 5 40 600 (some [1, 0, 2, 3, 4]) = some (some [1, 0, 2, 3, 4]) := by decide +kernel
theorem cp_5_15 : ckP 5 640 (some [1, 0, 2, 3, 4]) := ckP_s (f := 600) (g := 40) (cp_5_14) rfl ck_5_15
theorem ck_5_16 : ckF 5 40 640 (some [1, 0, 2, 3, 4]) = some (some [1, 0, 2, 3, 4]) := by decide +kernel
theorem cp_5_16 : ckP 5 680 (some [1, 0, 2, 3, 4]) := ckP_s (f := 640) (g := 40) (cp_5_15) rfl ck_5_16
theorem ck_5_17 : ckF 5 40 680 (some [1, 0, 2, 3, 4]) = some (some [1, 0, 3, 4, 2]) := by decide +kernel
theorem cp_5_17 : ckP 5 720 (some [1, 0, 3, 4, 2]) := ckP_s (f := 680) (g := 40) (cp_5_16) rfl ck_5_17
theorem ck_5_18 : ckF 5 40 720 (some [1, 0, 3, 4, 2]) = some (some [1, 2, 0, 3, 4]) := by decide +kernel
theorem cp_5_18 : ckP 5 760 (some [1, 2, 0, 3, 4]) := ckP_s (f := 720) (g := 40) (cp_5_17) rfl ck_5_18
theorem ck_5_19 : ckF 5 40 760 (some [1, 2, 0, 3, 4]) = some (some [1, 2, 0, 3, 4]) := by decide +kernel
theorem cp_5_19 : ckP 5 800 (some [1, 2, 0, 3, 4]) := ckP_s (f := 760) (g := 40) (cp_5_18) rfl ck_5_19
theorem ck_5_20 : ckF 5 40 800 (some [1, 2, 0, 3, 4]) = some (some [1, 2, 0, 3, 4]) := by decide +kernel
theorem cp_5_20 : ckP 5 840 (some [1, 2, 0, 3, 4]) := ckP_s (f := 800) (g := 40) (cp_5_19) rfl ck_5_20
theorem ck_5_21 : ckF 5 40 840 (some [1, 2, 0, 3, 4]) = some (some [1, 2, 0, 3, 4]) := by decide +kernel
theorem cp_5_21 : ckP 5 880 (some [1, 2, 0, 3, 4]) := ckP_s (f := 840) (g := 40) (cp_5_20) rfl ck_5_21
theorem ck_5_22 : ckF 5 40 880 (some [1, 2, 0, 3, 4]) = some (some [1, 2, 3, 0, 4]) := by decide +kernel
theorem cp_5_22 : ckP 5 920 (some [1, 2, 3, 0, 4]) := ckP_s (f := 880) (g := 40) (cp_5_21) rfl ck_5_22
theorem ck_5_23 : ckF 5 40 920 (some [1, 2, 3, 0, 4]) = some (some [1, 2, 3, 4, 0]) := by decide +kernel
theorem cp_5_23 : ckP 5 960 (some [1, 2, 3, 4, 0]) := ckP_s (f := 920) (g := 40) (cp_5_22) rfl ck_5_23
theorem ck_5_24 : ckF 5 40 960 (some [1, 2, 3, 4, 0]) = some (some [1, 3, 0, 2, 4]) := by decide +kernel
theorem cp_5_24 : ckP 5 1000 (some [1, 3, 0, 2, 4]) := ckP_s (f := 960) (g := 40) (cp_5_23) rfl ck_5_24
theorem ck_5_25 : ckF 5 40 1000 (some [1, 3, 0, 2, 4]) = some (some [1, 3, 2, 0, 4]) := by decide +kernel
theorem cp_5_25 : ckP 5 1040 (some [1, 3, 2, 0, 4]) := ckP_s (f := 1000) (g := 40) (cp_5_24) rfl ck_5_25
theorem ck_5_26 : ckF 5 40 1040 (some [1, 3, 2, 0, 4]) = some (some [1, 3, 4, 0, 2]) := by decide +kernel
theorem cp_5_26 : ckP 5 1080 (some [1, 3, 4, 0, 2]) := ckP_s (f := 1040) (g := 40) (cp_5_25) rfl ck_5_26
theorem ck_5_27 : ckF 5 40 1080 (some [1, 3, 4, 0, 2]) = some (some [1, 4, 0, 2, 3]) := by decide +kernel
theorem cp_5_27 : ckP 5 1120 (some [1, 4, 0, 2, 3]) := ckP_s (f := 1080) (g := 40) (cp_5_26) rfl ck_5_27
theorem ck_5_28 : ckF 5 40 1120 (some [1, 4, 0, 2, 3]) = some (some [1, 4, 2, 0, 3]) := by decide +kernel
theorem cp_5_28 : ckP 5 1160 (some [1, 4, 2, 0, 3]) := ckP_s (f := 1120) (g := 40) (cp_5_27) rfl ck_5_28
theorem ck_5_29 : ckF 5 40 1160 (some [1, 4, 2, 0, 3]) = some (some [1, 4, 3, 0, 2]) := by decide +kernel
theorem cp_5_29 : ckP 5 1200 (some [1, 4, 3, 0, 2]) := ckP_s (f := 1160) (g := 40) (cp_5_28) rfl ck_5_29
theorem ck_5_30 : ckF 5 40 1200 (some [1, 4, 3, 0, 2]) = some (some [2, 0, 1, 3, 4]) := by decide +kernel
theorem cp_5_30 : ckP 5 1240 (some [2, 0, 1, 3, 4]) := ckP_s (f := 1200) (g := 40) (cp_5_29) rfl ck_5_30
theorem ck_5_31 : ckF 5 40 1240 (some [2, 0, 1, 3, 4]) = some (some [2, 0, 1, 3, 4]) := by decide +kernel
theorem cp_5_31 : ckP 5 1280 (some [2, 0, 1, 3, 4]) := ckP_s (f := 1240) (g := 40) (cp_5_30) rfl ck_5_31
theorem ck_5_32 : ckF 5 40 1280 (some [2, 0, 1, 3, 4]) = some (some [2, 0, 3, 1, 4]) := by decide +kernel
theorem cp_5_32 : ckP 5 1320 (some [2, 0, 3, 1, 4]) := ckP_s (f := 1280) (g := 40) (cp_5_31) rfl ck_5_32
theorem ck_5_33 : ckF 5 40 1320 (some [2, 0, 3, 1, 4]) = some (some [2, 0, 4, 3, 1]) := by decide +kernel
theorem cp_5_33 : ckP 5 1360 (some [2, 0, 4, 3, 1]) := ckP_s (f := 1320) (g := 40) (cp_5_32) rfl ck_5_33
theorem ck_5_34 : ckF 5 40 1360 (some [2, 0, 4, 3, 1]) = some (some [2, 1, 3, 0, 4]) := by decide +kernel
theorem cp_5_34 : ckP 5 1400 (some [2, 1, 3, 0, 4]) := ckP_s (f := 1360) (g := 40) (cp_5_33) rfl ck_5_34
theorem ck_5_35 : ckF 5 40 1400 (some [2, 1, 3, 0, 4]) = some (some [2, 1, 3, 0, 4]) := by decide +kernel
theorem cp_5_35 : ckP 5 1440 (some [2, 1, 3, 0, 4]) := ckP_s (f := 1400) (g := 40) (cp_5_34) rfl ck_5_35
theorem ck_5_36 : ckF 5 40 1440 (some [2, 1, 3, 0, 4]) = some (some [2, 1, 4, 3, 0]) := by decide +kernel
theorem cp_5_36 : ckP 5 1480 (some [2, 1, 4, 3, 0]) := ckP_s (f := 1440) (g := 40) (cp_5_35) rfl ck_5_36
theorem ck_5_37 : ckF 5 40 1480 (some [2, 1, 4, 3, 0]) = some (some [2, 3, 0, 1, 4]) := by decide +kernel
theorem cp_5_37 : ckP 5 1520 (some [2, 3, 0, 1, 4]) := ckP_s (f := 1480) (g := 40) (cp_5_36) rfl ck_5_37
theorem ck_5_38 : ckF 5 40 1520 (some [2, 3, 0, 1, 4]) = some (some [2, 3, 0, 1, 4]) := by decide +kernel
theorem cp_5_38 : ckP 5 1560 (some [2, 3, 0, 1, 4]) := ckP_s (f := 1520) (g := 40) (cp_5_37) rfl ck_5_38
theorem ck_5_39 : ckF 5 40 1560 (some [2, 3, 0, 1, 4]) = some (some [2, 3, 0, 1, 4]) := by decide +kernel
theorem cp_5_39 : ckP 5 1600 (some [2, 3, 0, 1, 4]) := ckP_s (f := 1560) (g := 40) (cp_5_38) rfl ck_5_39
theorem ck_5_40 : ckF 5 40 1600 (some [2, 3, 0, 1, 4]) = some (some [2, 3, 0, 4, 1]) := by decide +kernel
theorem cp_5_40 : ckP 5 1640 (some [2, 3, 0, 4, 1]) := ckP_s (f := 1600) (g := 40) (cp_5_39) rfl ck_5_40
theorem ck_5_41 : ckF 5 40 1640 (some [2, 3, 0, 4, 1]) = some (some [2, 3, 4, 0, 1]) := by decide +kernel
theorem cp_5_41 : ckP 5 1680 (some [2, 3, 4, 0, 1]) := ckP_s (f := 1640) (g := 40) (cp_5_40) rfl ck_5_41
theorem ck_5_42 : ckF 5 40 1680 (some [2, 3, 4, 0, 1]) = some (some [2, 3, 4, 0, 1]) := by decide +kernel
theorem cp_5_42 : ckP 5 1720 (some [2, 3, 4, 0, 1]) := ckP_s (f := 1680) (g := 40) (cp_5_41) rfl ck_5_42
theorem ck_5_43 : ckF 5 40 1720 (some [2, 3, 4, 0, 1]) = some (some [2, 4, 0, 3, 1]) := by decide +kernel
theorem cp_5_43 : ckP 5 1760 (some [2, 4, 0, 3, 1]) := ckP_s (f := 1720) (g := 40) (cp_5_42) rfl ck_5_43
theorem ck_5_44 : ckF 5 40 1760 (some [2, 4, 0, 3, 1]) = some (some [2, 4, 3, 0, 1]) := by decide +kernel
theorem cp_5_44 : ckP 5 1800 (some [2, 4, 3, 0, 1]) := ckP_s (f := 1760) (g := 40) (cp_5_43) rfl ck_5_44
theorem ck_5_45 : ckF 5 40 1800 (some [2, 4, 3, 0, 1]) = some (some [3, 0, 1, 2, 4]) := by decide +kernel
theorem cp_5_45 : ckP 5 1840 (some [3, 0, 1, 2, 4]) := ckP_s (f := 1800) (g := 40) (cp_5_44) rfl ck_5_45
theorem ck_5_46 : ckF 5 40 1840 (some [3, 0, 1, 2, 4]) = some (some [3, 0, 1, 2, 4]) := by decide +kernel
theorem cp_5_46 : ckP 5 1880 (some [3, 0, 1, 2, 4]) := ckP_s (f := 1840) (g := 40) (cp_5_45) rfl ck_5_46
theorem ck_5_47 : ckF 5 40 1880 (some [3, 0, 1, 2, 4]) = some (some [3, 0, 1, 4, 2]) := by decide +kernel
theorem cp_5_47 : ckP 5 1920 (some [3, 0, 1, 4, 2]) := ckP_s (f := 1880) (g := 40) (cp_5_46) rfl ck_5_47
theorem ck_5_48 : ckF 5 40 1920 (some [3, 0, 1, 4, 2]) = some (some [3, 0, 4, 1, 2]) := by decide +kernel
theorem cp_5_48 : ckP 5 1960 (some [3, 0, 4, 1, 2]) := ckP_s (f := 1920) (g := 40) (cp_5_47) rfl ck_5_48
theorem ck_5_49 : ckF 5 40 1960 (some [3, 0, 4, 1, 2]) = some (some [3, 1, 0, 2, 4]) := by decide +kernel
theorem cp_5_49 : ckP 5 2000 (some [3, 1, 0, 2, 4]) := ckP_s (f := 1960) (g := 40) (cp_5_48) rfl ck_5_49
theorem ck_5_50 : ckF 5 40 2000 (some [3, 1, 0, 2, 4]) = some (some [3, 1, 2, 0, 4]) := by decide +kernel
theorem cp_5_50 : ckP 5 2040 (some [3, 1, 2, 0, 4]) := ckP_s (f := 2000) (g := 40) (cp_5_49) rfl ck_5_50
theorem ck_5_51 : ckF 5 40 2040 (some [3, 1, 2, 0, 4]) = some (some [3, 1, 4, 0, 2]) := by decide +kernel
theorem cp_5_51 : ckP 5 2080 (some [3, 1, 4, 0, 2]) := ckP_s (f := 2040) (g := 40) (cp_5_50) rfl ck_5_51
theorem ck_5_52 : ckF 5 40 2080 (some [3, 1, 4, 0, 2]) = some (some [3, 2, 0, 1, 4]) := by decide +kernel
theorem cp_5_52 : ckP 5 2120 (some [3, 2, 0, 1, 4]) := ckP_s (f := 2080) (g := 40) (cp_5_51) rfl ck_5_52
theorem ck_5_53 : ckF 5 40 2120 (some [3, 2, 0, 1, 4]) = some (some [3, 2, 1, 4, 0]) := by decide +kernel
theorem cp_5_53 : ckP 5 2160 (some [3, 2, 1, 4, 0]) := ckP_s (f := 2120) (g := 40) (cp_5_52) rfl ck_5_53
theorem ck_5_54 : ckF 5 40 2160 (some [3, 2, 1, 4, 0]) = some (some [3, 2, 4, 0, 1]) := by decide +kernel
theorem cp_5_54 : ckP 5 2200 (some [3, 2, 4, 0, 1]) := ckP_s (f := 2160) (g := 40) (cp_5_53) rfl ck_5_54
theorem ck_5_55 : ckF 5 40 2200 (some [3, 2, 4, 0, 1]) = some (some [3, 4, 0, 1, 2]) := by decide +kernel
theorem cp_5_55 : ckP 5 2240 (some [3, 4, 0, 1, 2]) := ckP_s (f := 2200) (g := 40) (cp_5_54) rfl ck_5_55
theorem ck_5_56 : ckF 5 40 2240 (some [3, 4, 0, 1, 2]) = some (some [3, 4, 0, 1, 2]) := by decide +kernel
theorem cp_5_56 : ckP 5 2280 (some [3, 4, 0, 1, 2]) := ckP_s (f := 2240) (g := 40) (cp_5_55) rfl ck_5_56
theorem ck_5_57 : ckF 5 40 2280 (some [3, 4, 0, 1, 2]) = some (some [3, 4, 0, 1, 2]) := by decide +kernel
theorem cp_5_57 : ckP 5 2320 (some [3, 4, 0, 1, 2]) := ckP_s (f := 2280) (g := 40) (cp_5_56) rfl ck_5_57
theorem ck_5_58 : ckF 5 40 2320 (some [3, 4, 0, 1, 2]) = some (some [3, 4, 0, 1, 2]) := by decide +kernel
theorem cp_5_58 : ckP 5 2360 (some [3, 4, 0, 1, 2]) := ckP_s (f := 2320) (g := 40) (cp_5_57) rfl ck_5_58
theorem ck_5_59 : ckF 5 40 2360 (some [3, 4, 0, 1, 2]) = some (some [3, 4, 1, 0, 2]) := by decide +kernel
theorem cp_5_59 : ckP 5 2400 (some [3, 4, 1, 0, 2]) := ckP_s (f := 2360) (g := 40) (cp_5_58) rfl ck_5_59
theorem ck_5_60 : ckF 5 40 2400 (some [3, 4, 1, 0, 2]) = some (some [4, 0, 1, 2, 3]) := by decide +kernel
theorem cp_5_60 : ckP 5 2440 (some [4, 0, 1, 2, 3]) := ckP_s (f := 2400) (g := 40) (cp_5_59) rfl ck_5_60
theorem ck_5_61 : ckF 5 40 2440 (some [4, 0, 1, 2, 3]) = some (some [4, 0, 1, 2, 3]) := by decide +kernel
theorem cp_5_61 : ckP 5 2480 (some [4, 0, 1, 2, 3]) := ckP_s (f := 2440) (g := 40) (cp_5_60) rfl ck_5_61
theorem ck_5_62 : ckF 5 40 2480 (some [4, 0, 1, 2, 3]) = some (some [4, 0, 1, 2, 3]) := by decide +kernel
theorem cp_5_62 : ckP 5 2520 (some [4, 0, 1, 2, 3]) := ckP_s (f := 2480) (g := 40) (cp_5_61) rfl ck_5_62
theorem ck_5_63 : ckF 5 40 2520 (some [4, 0, 1, 2, 3]) = some (some [4, 0, 2, 3, 1]) := by decide +kernel
theorem cp_5_63 : ckP 5 2560 (some [4, 0, 2, 3, 1]) := ckP_s (f := 2520) (g := 40) (cp_5_62) rfl ck_5_63
theorem ck_5_64 : ckF 5 40 2560 (some [4, 0, 2, 3, 1]) = some (some [4, 1, 0, 2, 3]) := by decide +kernel
theorem cp_5_64 : ckP 5 2600 (some [4, 1, 0, 2, 3]) := ckP_s (f := 2560) (g := 40) (cp_5_63) rfl ck_5_64
theorem ck_5_65 : ckF 5 40 2600 (some [4, 1, 0, 2, 3]) = some (some [4, 1, 0, 3, 2]) := by decide +kernel
theorem cp_5_65 : ckP 5 2640 (some [4, 1, 0, 3, 2]) := ckP_s (f := 2600) (g := 40) (cp_5_64) rfl ck_5_65
theorem ck_5_66 : ckF 5 40 2640 (some [4, 1, 0, 3, 2]) = some (some [4, 1, 2, 3, 0]) := by decide +kernel
theorem cp_5_66 : ckP 5 2680 (some [4, 1, 2, 3, 0]) := ckP_s (f := 2640) (g := 40) (cp_5_65) rfl ck_5_66
theorem ck_5_67 : ckF 5 40 2680 (some [4, 1, 2, 3, 0]) = some (some [4, 2, 0, 1, 3]) := by decide +kernel
theorem cp_5_67 : ckP 5 2720 (some [4, 2, 0, 1, 3]) := ckP_s (f := 2680) (g := 40) (cp_5_66) rfl ck_5_67
theorem ck_5_68 : ckF 5 40 2720 (some [4, 2, 0, 1, 3]) = some (some [4, 2, 0, 3, 1]) := by decide +kernel
theorem cp_5_68 : ckP 5 2760 (some [4, 2, 0, 3, 1]) := ckP_s (f := 2720) (g := 40) (cp_5_67) rfl ck_5_68
theorem ck_5_69 : ckF 5 40 2760 (some [4, 2, 0, 3, 1]) = some (some [4, 2, 3, 0, 1]) := by decide +kernel
theorem cp_5_69 : ckP 5 2800 (some [4, 2, 3, 0, 1]) := ckP_s (f := 2760) (g := 40) (cp_5_68) rfl ck_5_69
theorem ck_5_70 : ckF 5 40 2800 (some [4, 2, 3, 0, 1]) = some (some [4, 3, 0, 1, 2]) := by decide +kernel
theorem cp_5_70 : ckP 5 2840 (some [4, 3, 0, 1, 2]) := ckP_s (f := 2800) (g := 40) (cp_5_69) rfl ck_5_70
theorem ck_5_71 : ckF 5 40 2840 (some [4, 3, 0, 1, 2]) = some (some [4, 3, 0, 1, 2]) := by decide +kernel
theorem cp_5_71 : ckP 5 2880 (some [4, 3, 0, 1, 2]) := ckP_s (f := 2840) (g := 40) (cp_5_70) rfl ck_5_71
theorem ck_5_72 : ckF 5 40 2880 (some [4, 3, 0, 1, 2]) = some (some [4, 3, 2, 0, 1]) := by decide +kernel
theorem cp_5_72 : ckP 5 2920 (some [4, 3, 2, 0, 1]) := ckP_s (f := 2880) (g := 40) (cp_5_71) rfl ck_5_72
theorem ck_5_73 : ckF 5 40 2920 (some [4, 3, 2, 0, 1]) = some (none) := by decide +kernel
theorem cp_5_73 : ckP 5 2960 (none) := ckP_s (f := 2920) (g := 40) (cp_5_72) rfl ck_5_73
theorem ck_5_74 : ckF 5 40 2960 (none) = some (none) := by decide +kernel
theorem cp_5_74 : ckP 5 3000 (none) := ckP_s (f := 2960) (g := 40) (cp_5_73) rfl ck_5_74
theorem ck_5_75 : ckF 5 40 3000 (none) = some (none) := by decide +kernel
theorem cp_5_75 : ckP 5 3040 (none) := ckP_s (f := 3000) (g := 40) (cp_5_74) rfl ck_5_75
theorem ck_5_76 : ckF 5 40 3040 (none) = some (none) := by decide +kernel
theorem cp_5_76 : ckP 5 3080 (none) := ckP_s (f := 3040) (g := 40) (cp_5_75) rfl ck_5_76
theorem ck_5_77 : ckF 5 40 3080 (none) = some (none) := by decide +kernel
theorem cp_5_77 : ckP 5 3120 (none) := ckP_s (f := 3080) (g := 40) (cp_5_76) rfl ck_5_77
theorem ck_5_78 : ckF 5 5 3120 (none) = some (none) := by decide +kernel
theorem cp_5_78 : ckP 5 3125 (none) := ckP_s (f := 3120) (g := 5) (cp_5_77) rfl ck_5_78
theorem cz_5 : ckP 5 (5 ^ 5) none := (show 5 ^ 5 = 3125 from rfl) ▸ cp_5_78
theorem cz_all {m : Nat} (hm : m ≤ 5) : ckP m (m ^ m) none := by
  rcases (show m = 0 ∨ m = 1 ∨ m = 2 ∨ m = 3 ∨ m = 4 ∨ m = 5 by omega) with rfl | rfl | rfl | rfl | rfl | rfl
  · exact cz_0
  · exact cz_1
  · exact cz_2
  · exact cz_3
  · exact cz_4
  · exact cz_5
theorem ex_p {m c : Nat} (hm : m ≤ 5) (hc : c < m ^ m) (hp : pmB m c = true) : exF m c = some (dgF m c m) := by
  have h := (cz_all hm).2 c hc (by rw [Nat.zero_add]; exact hp)
  rw [Nat.zero_add] at h; exact h
theorem ex_e {m : Nat} (hm : m ≤ 5) : exF m (m ^ m) = none := by
  have h := (cz_all hm).1
  rw [Nat.zero_add] at h; exact h
theorem mm_all : ∀ m, m < 6 → m ^ m ≤ 3125 ∧ 1 ≤ m ^ m := by decide +kernel
theorem lg_dg (m c : Nat) : ∀ (j i : Nat), i < j → lg (dgF m c j) i = c / m ^ (j - 1 - i) % m
  | 0, i, h => absurd h (Nat.not_lt_zero _)
  | j + 1, i, h => by
    cases i with
    | zero => rfl
    | succ i =>
      have := lg_dg m c j i (by omega)
      rw [dgF]
      show lg (dgF m c j) i = _
      rw [this, show j + 1 - 1 - (i + 1) = j - 1 - i by omega]
theorem nI_or (a b : Nat) : nI a ||| nI b = nI (a ||| b) := by
  apply Int32.toBitVec_inj.1
  show BitVec.ofNat 32 a ||| BitVec.ofNat 32 b = BitVec.ofNat 32 (a ||| b)
  apply BitVec.eq_of_getLsbD_eq
  intro i hi
  simp [hi]
theorem sn_lt {m c : Nat} (hm : 0 < m) (hm5 : m ≤ 5) : ∀ j, snF m c j < 2 ^ 5
  | 0 => by simp [snF]
  | j + 1 => by
    rw [snF]
    refine Nat.or_lt_two_pow (sn_lt hm hm5 j) ?_
    have : c / m ^ j % m < m := Nat.mod_lt _ hm
    exact Nat.pow_lt_pow_right (by omega) (by omega)
theorem s_X12_layEvening {m c : Nat} (hm : m ≤ 5) (hc : c < 2 ^ 31) {ev : Nat → Int32} {post : Int32 → (Nat → Int32) → Prop} (h0 : pmB m c = false → ∀ e2 : Nat → Int32, post 0 e2) (h1 : pmB m c = true → ∀ e2 : Nat → Int32, (∀ i, i < m → e2 i = nI (lg (dgF m c m) i)) → post 1 e2) : wp_X12_layEvening (nI m) ev (nI c) post := by
  unfold wp_X12_layEvening
  refine jn_in ?_
  have hend : ∀ e2 : Nat → Int32, (∀ i, i < m → e2 i = nI (c / m ^ (m - 1 - i) % m)) → ((¬ nI (snF m c m) = (((1 : Int32) <<< (nI m &&& 31)) - (1 : Int32)) → post (0 : Int32) e2) ∧ (nI (snF m c m) = (((1 : Int32) <<< (nI m &&& 31)) - (1 : Int32)) → post (1 : Int32) e2)) := by
    intro e2 he
    have hs : snF m c m < 2 ^ 5 := by
      rcases Nat.eq_zero_or_pos m with z | z
      · subst z; simp [snF]
      · exact sn_lt z hm m
    have h2 : 1 ≤ 2 ^ m := Nat.one_le_two_pow
    have h3 : 2 ^ m ≤ 2 ^ 5 := Nat.pow_le_pow_right (by omega) hm
    rw [p2_all m (by omega), show nI (2 ^ m) - (1 : Int32) = nI (2 ^ m - 1) from pk_sub (a := 2 ^ m) (b := 1) h2, nI_eq (by omega) (by omega)]
    refine ⟨fun z => h0 ?_ e2, fun z => h1 ?_ e2 (fun i hi => by rw [lg_dg m c m i hi]; exact he i hi)⟩
    · unfold pmB
      cases y : Nat.beq (snF m c m) (2 ^ m - 1)
      · rfl
      · exact absurd (Nat.eq_of_beq_eq_true y) z
    · unfold pmB; rw [z]; exact Nat.beq_refl _
  refine lor4 (I := fun r x2 x3 x4 e2 => r ≤ m ∧ x2 = nI (c / m ^ (m - r)) ∧ x3 = nI (snF m c (m - r)) ∧ x4 = nI r - 1 ∧ ∀ i, r ≤ i → i < m → e2 i = nI (c / m ^ (m - 1 - i) % m)) ?_ m _ _ _ _ ⟨Nat.le_refl _, by rw [Nat.sub_self, Nat.pow_zero, Nat.div_one], by rw [Nat.sub_self]; rfl, rfl, fun i h1 h2 => by omega⟩
  rintro r x2 x3 x4 e2 again ⟨hr, rfl, rfl, rfl, he⟩ hag
  cases r with
  | zero =>
    refine ⟨fun _ => hend e2 (fun i hi => he i (Nat.zero_le _) hi), fun z => absurd (by decide) z⟩
  | succ r =>
    have hm0 : 0 < m := by omega
    rw [nI_pred]
    have hd : c / m ^ (m - (r + 1)) ≤ c := Nat.div_le_self _ _
    rw [pk_div (by omega) hm0 (by omega), show nI (c / m ^ (m - (r + 1))) - nI (c / m ^ (m - (r + 1)) / m) * nI m = nI (c / m ^ (m - (r + 1)) % m) by
      rw [← pk_rem (by omega) hm0 (by omega), pk_div (by omega) hm0 (by omega)], c_nI (show r < 64 by omega), u_s]
    have hl : c / m ^ (m - (r + 1)) % m < m := Nat.mod_lt _ hm0
    have hne : ¬ nI m = 0 := nI_ne0 hm0 (by omega)
    have v : vp_in (nI r) 5 := v_in (by omega) (by omega)
    rw [p2_all (c / m ^ (m - (r + 1)) % m) (by omega), nI_or]
    refine ⟨fun z => absurd z (nI_pos (by omega)), fun _ => ⟨hne, v, hne, v, hag r _ _ _ _ (by omega) ⟨by omega, ?_, ?_, ?_, fun i h1 h2 => ?_⟩⟩⟩
    · rw [Nat.div_div_eq_div_mul, ← Nat.pow_succ, show (m - (r + 1)).succ = m - r by omega]
    · rw [show m - r = (m - (r + 1)) + 1 by omega, snF]
    · show nI r + (-1) = nI r - 1
      grind
    · by_cases e : i = r
      · subst e; rw [u_s, show m - 1 - i = m - (i + 1) by omega]
      · rw [u_n e]; exact he i (by omega) h2
