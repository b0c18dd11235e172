/-! one VOTE, by positions -/
def bowl (pull L R : Int32) (fL fR : Bool) : Int32 := if (0 < pull ∨ (pull = 0 ∧ R ≤ L)) then (if fL then (if fR then 2 else 1) else 0) else (if fR then (if fL then 2 else 0) else 1)
def fea : Nat → Int32 → (Nat → Int32) → Int32 → Bool
  | 0, _, _, _ => false
  | n + 1, f, w, b => fea n f w b || (bt f n && decide (w n = b))
theorem fea_iff {n : Nat} {f : Int32} {w : Nat → Int32} {b : Int32} : fea n f w b = true ↔ ∃ e, e < n ∧ bt f e = true ∧ w e = b := by
  induction n with
  | zero => simp [fea]
  | succ n ih =>
    simp only [fea, Bool.or_eq_true, Bool.and_eq_true, decide_eq_true_eq, ih]
    constructor
    · rintro (⟨e, h1, h2⟩ | h)
      · exact ⟨e, by omega, h2⟩
      · exact ⟨n, by omega, h⟩
    · rintro ⟨e, h1, h2⟩
      by_cases q : e = n
      · subst q; exact Or.inr h2
      · exact Or.inl ⟨e, by omega, h2⟩
theorem fea_congr {n : Nat} {f : Int32} {w w2 : Nat → Int32} {b : Int32} (h : ∀ e, e < n → w e = w2 e) : fea n f w b = fea n f w2 b := by
  induction n with
  | zero => rfl
  | succ n ih => rw [fea, fea, ih (fun e he => h e (by omega)), h n (by omega)]
abbrev VS : Type := Int32 × Int32 × (Nat → Int32)
def vbw (n : Nat) (lk fr ld : Nat → Int32) (s : VS) (d : Nat) : Int32 := bowl (lk d + ld d) s.1 s.2.1 (fea n (fr d) s.2.2 0) (fea n (fr d) s.2.2 1)
def vstep (n : Nat) (h lk fr ld : Nat → Int32) (s : VS) (d : Nat) : VS := if h d = 0 then s else (s.1 + (if vbw n lk fr ld s d = 0 then h d else 0), s.2.1 + (if vbw n lk fr ld s d = 1 then h d else 0), upd s.2.2 d (vbw n lk fr ld s d))
def vfold (n : Nat) (h lk fr ld : Nat → Int32) (o : Nat → Nat) (sk : Nat → Bool) : Nat → VS
  | 0 => (0, 0, fun _ => 2)
  | k + 1 => if sk k then vfold n h lk fr ld o sk k else vstep n h lk fr ld (vfold n h lk fr ld o sk k) (o k)
theorem bowl_rng (p L R : Int32) (a b : Bool) : bowl p L R a b = 0 ∨ bowl p L R a b = 1 ∨ bowl p L R a b = 2 := by
  unfold bowl
  cases a <;> cases b <;> by_cases q : (0 < p ∨ (p = 0 ∧ R ≤ L)) <;> simp [q]
theorem vfold_rng {n : Nat} {h lk fr ld : Nat → Int32} {o : Nat → Nat} {sk : Nat → Bool} : ∀ (k d : Nat), (vfold n h lk fr ld o sk k).2.2 d = 0 ∨ (vfold n h lk fr ld o sk k).2.2 d = 1 ∨ (vfold n h lk fr ld o sk k).2.2 d = 2
  | 0, _ => Or.inr (Or.inr rfl)
  | k + 1, d => by
    have ih := vfold_rng (n := n) (h := h) (lk := lk) (fr := fr) (ld := ld) (o := o) (sk := sk) k d
    rw [vfold]
    by_cases s : sk k = true
    · rw [if_pos s]; exact ih
    · rw [if_neg s, vstep]
      by_cases q : h (o k) = 0
      · rw [if_pos q]; exact ih
      · rw [if_neg q]
        by_cases e : d = o k
        · subst e; dsimp only; rw [u_s]; exact bowl_rng _ _ _ _ _
        · dsimp only; rw [u_n e]; exact ih
theorem vfold_home {n : Nat} {h lk fr ld : Nat → Int32} {o : Nat → Nat} {sk : Nat → Bool} : ∀ (k d : Nat), (∀ i, i < k → o i ≠ d) → (vfold n h lk fr ld o sk k).2.2 d = 2
  | 0, _, _ => rfl
  | k + 1, d, hd => by
    have ih := vfold_home (n := n) (h := h) (lk := lk) (fr := fr) (ld := ld) (o := o) (sk := sk) k d (fun i hi => hd i (by omega))
    rw [vfold]
    by_cases s : sk k = true
    · rw [if_pos s]; exact ih
    · rw [if_neg s, vstep]
      by_cases q : h (o k) = 0
      · rw [if_pos q]; exact ih
      · rw [if_neg q]
        show upd _ (o k) _ d = 2
        rw [u_n (fun e => hd k (by omega) e.symm)]; exact ih
theorem vfold_congr {n : Nat} {h lk fr ld h2 lk2 fr2 ld2 : Nat → Int32} {o o2 : Nat → Nat} {sk sk2 : Nat → Bool} : ∀ (k : Nat), (∀ i, i < k → o i = o2 i ∧ sk i = sk2 i ∧ (sk i = false → h (o i) = h2 (o i) ∧ lk (o i) = lk2 (o i) ∧ fr (o i) = fr2 (o i) ∧ ld (o i) = ld2 (o i))) → vfold n h lk fr ld o sk k = vfold n h2 lk2 fr2 ld2 o2 sk2 k
  | 0, _ => rfl
  | k + 1, hh => by
    have ih := vfold_congr (n := n) k (fun i hi => hh i (by omega))
    obtain ⟨e1, e2, e3⟩ := hh k (by omega)
    rw [vfold, vfold, ih, ← e2, ← e1]
    by_cases s : sk k = true
    · rw [if_pos s, if_pos s]
    · obtain ⟨g1, g2, g3, g4⟩ := e3 (by simpa using s)
      rw [if_neg s, if_neg s]
      unfold vstep vbw
      rw [g1, g2, g3, g4]
/-- the class' sets of DOGS at each bowl -/
def MR (n : Nat) (w : Nat → Int32) (lm rm : Int32) : Prop := ∀ e, e < 32 → bt lm e = (decide (e < n) && decide (w e = 0)) ∧ bt rm e = (decide (e < n) && decide (w e = 1))
theorem MR_0 {n : Nat} : MR n (fun _ => 2) 0 0 := fun e _ => by
  rw [b_0]
  exact ⟨by simp, by simp⟩
theorem MR_L {n : Nat} {w : Nat → Int32} {lm rm : Int32} {j : Nat} (h : MR n w lm rm) (hn : n ≤ 7) (hj : j < n) (h2 : w j = 2) : MR n (upd w j 0) (lm ||| ((1 : Int32) <<< (nI j &&& 31))) rm := by
  intro e he
  obtain ⟨a, b⟩ := h e he
  rw [b_set (by omega) he, a, b]
  by_cases q : e = j
  · subst q; rw [u_s, h2]; simp [hj]
  · rw [u_n q]; simp [q]
theorem MR_R {n : Nat} {w : Nat → Int32} {lm rm : Int32} {j : Nat} (h : MR n w lm rm) (hn : n ≤ 7) (hj : j < n) (h2 : w j = 2) : MR n (upd w j 1) lm (rm ||| ((1 : Int32) <<< (nI j &&& 31))) := by
  intro e he
  obtain ⟨a, b⟩ := h e he
  rw [b_set (by omega) he, a, b]
  by_cases q : e = j
  · subst q; rw [u_s, h2]; simp [hj]
  · rw [u_n q]; simp [q]
theorem MR_H {n : Nat} {w : Nat → Int32} {lm rm : Int32} {j : Nat} (h : MR n w lm rm) (h2 : w j = 2) : MR n (upd w j 2) lm rm := by
  have e : upd w j 2 = w := by
    funext i
    by_cases q : i = j
    · subst q; rw [u_s, h2]
    · rw [u_n q]
  rw [e]; exact h
theorem MR_fL {n : Nat} {w : Nat → Int32} {lm rm f : Int32} (h : MR n w lm rm) (hn : n ≤ 7) : f &&& lm = 0 ↔ fea n f w 0 = false := by
  rw [b_dis, ← Bool.not_eq_true, fea_iff]
  constructor
  · rintro q ⟨e, h1, h2, h3⟩
    exact q e (by omega) ⟨h2, by rw [(h e (by omega)).1]; simp [h1, h3]⟩
  · intro q e he ⟨h1, h2⟩
    rw [(h e he).1] at h2
    simp only [Bool.and_eq_true, decide_eq_true_eq] at h2
    exact q ⟨e, h2.1, h1, h2.2⟩
theorem MR_fR {n : Nat} {w : Nat → Int32} {lm rm f : Int32} (h : MR n w lm rm) (hn : n ≤ 7) : f &&& rm = 0 ↔ fea n f w 1 = false := by
  rw [b_dis, ← Bool.not_eq_true, fea_iff]
  constructor
  · rintro q ⟨e, h1, h2, h3⟩
    exact q e (by omega) ⟨h2, by rw [(h e (by omega)).2]; simp [h1, h3]⟩
  · intro q e he ⟨h1, h2⟩
    rw [(h e he).2] at h2
    simp only [Bool.and_eq_true, decide_eq_true_eq] at h2
    exact q ⟨e, h2.1, h1, h2.2⟩
theorem s_X0_send {n : Nat} {h lk fr ld : Nat → Int32} {s : VS} {lm rm lead : Int32} {j : Nat} {post : Int32 → Int32 → Int32 → Int32 → Prop} (hn : n ≤ 7) (hj : j < n) (hM : MR n s.2.2 lm rm) (h2 : s.2.2 j = 2) (hl : ld j = lead)
    (hp : ∀ lm2 rm2, MR n (vstep n h lk fr ld s j).2.2 lm2 rm2 → post (vstep n h lk fr ld s j).1 (vstep n h lk fr ld s j).2.1 lm2 rm2) : wp_X0_send s.1 s.2.1 lm rm (nI n) h lk fr (nI j) lead post := by
  unfold wp_X0_send
  refine s_X9_has (by omega) (fun _ => ⟨fun e => absurd e (by decide), fun _ => s_X9_isDead (by omega) (fun h0 => ⟨fun e => absurd e (by decide), fun _ => ?_⟩) (fun h0 => ⟨fun _ => ?_, fun e => absurd rfl e⟩)⟩) (fun q => absurd ⟨j, hj, rfl⟩ q)
  · rw [vstep, if_pos h0] at hp
    exact hp lm rm hM
  · rw [vstep, if_neg h0] at hp
    have hv : vp_in (nI j) 7 := v_in (by omega) (by omega)
    rw [c_nI (by omega)]
    have hL := MR_fL (f := fr j) hM hn
    have hR := MR_fR (f := fr j) hM hn
    have k0 : vbw n lk fr ld s j = 0 → post (s.1 + h j) s.2.1 (lm ||| ((1 : Int32) <<< (nI j &&& 31))) rm := by
      intro e
      have g := hp (lm ||| ((1 : Int32) <<< (nI j &&& 31))) rm (by rw [e]; exact MR_L hM hn hj h2)
      rw [e] at g
      simpa using g
    have k1 : vbw n lk fr ld s j = 1 → post s.1 (s.2.1 + h j) lm (rm ||| ((1 : Int32) <<< (nI j &&& 31))) := by
      intro e
      have g := hp lm (rm ||| ((1 : Int32) <<< (nI j &&& 31))) (by rw [e]; exact MR_R hM hn hj h2)
      rw [e] at g
      simpa using g
    have k2 : vbw n lk fr ld s j = 2 → post s.1 s.2.1 lm rm := by
      intro e
      have g := hp lm rm (by rw [e]; exact MR_H hM h2)
      rw [e] at g
      simpa using g
    unfold vbw at k0 k1 k2
    rw [hl] at k0 k1 k2
    clear hp
    generalize fea n (fr j) s.2.2 0 = fL at hL k0 k1 k2
    generalize fea n (fr j) s.2.2 1 = fR at hR k0 k1 k2
    generalize lk j + lead = pull at k0 k1 k2 ⊢
    have hw : ∀ t3 : Int32, ((t3 = 1 ∧ (0 < pull ∨ (pull = 0 ∧ s.2.1 ≤ s.1))) ∨ (t3 = 0 ∧ ¬ (0 < pull ∨ (pull = 0 ∧ s.2.1 ≤ s.1)))) → (vp_in (nI j) 7 ∧ jn (fun (t_4 : Int32) => (vp_in (nI j) 7 ∧ jn (fun (t_5 : Int32) => jn ( ((¬ t_5 = 0 → post s.1 s.2.1 lm rm) ∧ (t_5 = 0 → (vp_in (nI j) 7 ∧ post s.1 (s.2.1 + (h j)) lm (rm ||| ((1 : Int32) <<< (nI j &&& 31))))))) (fun (J142 : Prop) => ((¬ t_4 = 0 → J142) ∧ (t_4 = 0 → jn ( (vp_in (nI j) 7 ∧ post (s.1 + (h j)) s.2.1 (lm ||| ((1 : Int32) <<< (nI j &&& 31))) rm)) (fun (J112 : Prop) => ((¬ t3 = 0 → J112) ∧ (t3 = 0 → ((t_5 = 0 → J142) ∧ (¬ t_5 = 0 → J112))))))))) (fun (J95 : Int32 → Prop) => ((((fr j) &&& rm) = 0 → J95 (0 : Int32)) ∧ (¬ ((fr j) &&& rm) = 0 → J95 (1 : Int32)))))) (fun (J74 : Int32 → Prop) => ((((fr j) &&& lm) = 0 → J74 (0 : Int32)) ∧ (¬ ((fr j) &&& lm) = 0 → J74 (1 : Int32))))) := by
      intro t3 ht
      simp only [jn, hL, hR]
      unfold bowl at k0 k1 k2
      rcases ht with ⟨rfl, hq⟩ | ⟨rfl, hq⟩
      · simp only [hq, if_true] at k0 k1 k2
        cases fL <;> cases fR <;> simp_all
      · simp only [hq, if_false] at k0 k1 k2
        cases fL <;> cases fR <;> simp_all
    refine ⟨hv, jn_in (jn_in ⟨fun p => hw 1 (Or.inl ⟨rfl, Or.inl p⟩), fun p => jn_in ⟨fun q => hw 0 (Or.inr ⟨rfl, ?_⟩), fun q => ⟨fun z => hw 0 (Or.inr ⟨rfl, ?_⟩), fun z => hw 1 (Or.inl ⟨rfl, Or.inr ⟨q, n_lt.mp z⟩⟩)⟩⟩⟩)⟩
    · rintro (a | a)
      · exact p a
      · exact q a.1
    · rintro (a | a)
      · exact p a
      · exact n_le.mpr z a.2
theorem s_X0_hold {n : Nat} {h lk fr : Nat → Int32} {l0 r0 lm0 rm0 lead absent full : Int32} {post : Int32 → Int32 → Int32 → Int32 → Prop} (hn : n ≤ 7)
    (hp : ∀ lm2 rm2, MR n (vfold n h lk fr (fun d => if bt full d then 0 else lead) id (bt absent) n).2.2 lm2 rm2 → post (vfold n h lk fr (fun d => if bt full d then 0 else lead) id (bt absent) n).1 (vfold n h lk fr (fun d => if bt full d then 0 else lead) id (bt absent) n).2.1 lm2 rm2) : wp_X0_hold l0 r0 lm0 rm0 (nI n) h lk fr lead absent full post := by
  unfold wp_X0_hold wp_X0_open
  refine lofE5_0 n (by omega) rfl (fun k l r lm rm => l = (vfold n h lk fr (fun d => if bt full d then 0 else lead) id (bt absent) k).1 ∧ r = (vfold n h lk fr (fun d => if bt full d then 0 else lead) id (bt absent) k).2.1 ∧ MR n (vfold n h lk fr (fun d => if bt full d then 0 else lead) id (bt absent) k).2.2 lm rm) ?_ ?_ _ _ _ _ ⟨rfl, rfl, MR_0⟩
  · rintro l r lm rm ⟨rfl, rfl, hM⟩
    exact hp lm rm hM
  · rintro k l r lm rm again hk ⟨rfl, rfl, hM⟩ hag
    rw [b_tst0 (by omega), b_tst0 (by omega)]
    refine ⟨fun q => ?_, fun q => jn_in ?_⟩
    · refine hag _ _ _ _ ?_
      rw [vfold, if_pos (by simpa using q)]
      exact ⟨rfl, rfl, hM⟩
    · have hst : ∀ t : Int32, (if bt full k then 0 else lead) = t → wp_X0_send (vfold n h lk fr (fun d => if bt full d then 0 else lead) id (bt absent) k).1 (vfold n h lk fr (fun d => if bt full d then 0 else lead) id (bt absent) k).2.1 lm rm (nI n) h lk fr (nI k) t (fun l r lm rm => again (nI k + 1) l r lm rm) := by
        intro t ht
        refine s_X0_send (ld := fun d => if bt full d then 0 else lead) hn hk hM (vfold_home k k (fun i hi => by simp; omega)) ht ?_
        intro lm2 rm2 hM2
        refine hag _ _ _ _ ?_
        rw [vfold, if_neg (by simp [q])]
        exact ⟨rfl, rfl, hM2⟩
      refine ⟨fun q2 => hst 0 ?_, fun q2 => hst lead ?_⟩
      · rw [if_pos (by simpa using q2)]
      · rw [q2]; rfl
def win (L R : Int32) : Int32 := if L = R then 2 else if R < L then 0 else 1
theorem s_X0_winner {L R : Int32} {post : Int32 → Prop} (h : post (win L R)) : wp_X0_winner L R post := by
  unfold win at h
  unfold wp_X0_winner
  refine ⟨fun q => ⟨fun q2 => ?_, fun q2 => ?_⟩, fun q => ?_⟩
  · rw [if_neg q, if_neg (n_lt.mpr q2)] at h; exact h
  · rw [if_neg q, if_pos (n_le.mp q2)] at h; exact h
  · rw [if_pos q] at h; exact h
theorem s_X12_winner {L R : Int32} {post : Int32 → Prop} (h : post (win L R)) : wp_X12_winner L R post := by
  unfold win at h
  unfold wp_X12_winner
  refine ⟨fun q => ⟨fun q2 => ?_, fun q2 => ?_⟩, fun q => ?_⟩
  · rw [if_pos (i_eq.mpr (by rw [i_le] at q q2; omega))] at h; exact h
  · rw [if_neg (fun e : L = R => q2 (i_le.mpr (by rw [e]; omega))), if_neg (n_lt.mpr q)] at h; exact h
  · rw [if_neg (fun e => q (i_le.mpr (by rw [e]; omega))), if_pos (n_le.mp q)] at h; exact h
theorem s_X0_placeOf {n : Nat} {w : Nat → Int32} {lm rm : Int32} {j : Nat} {post : Int32 → Prop} (hM : MR n w lm rm) (hn : n ≤ 7) (hj : j < n) (hw : w j = 0 ∨ w j = 1 ∨ w j = 2) (h : post (w j)) : wp_X0_placeOf lm rm (nI j) post := by
  unfold wp_X0_placeOf
  have h1 := (hM j (by omega)).1
  have h2 := (hM j (by omega)).2
  rw [b_tst1 (by omega), b_tst1 (by omega), h1, h2]
  rcases hw with e | e | e <;> rw [e] at h ⊢ <;> simp [hj] <;> exact h
