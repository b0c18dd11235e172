theorem s_X12_isFeared {n j : Nat} {fr w : Nat → Int32} {b : Int32} {post : Int32 → Prop} (hn : n ≤ 7) (hj : j < 7) (h : post (if fea n (fr j) w b then 1 else 0)) : wp_X12_isFeared (nI n) fr w (nI j) b post := by
  unfold wp_X12_isFeared
  refine lofE2_1 n (by omega) rfl (fun k s => s = if fea k (fr j) w b then 1 else 0) ?_ ?_ _ rfl
  · rintro s rfl
    refine ⟨?_, h⟩
    cases fea n (fr j) w b <;> simp
  · rintro k s again hk rfl hag
    have hag2 : ∀ t : Int32, (t = if fea (k + 1) (fr j) w b then 1 else 0) → again t (nI k + 1) := fun t ht => hag t ht
    refine jn_in (jn_in ⟨fun q => hag2 1 ?_, fun q => ⟨v_in hj (by omega), ?_⟩⟩)
    · have e : fea k (fr j) w b = true := by
        cases h9 : fea k (fr j) w b
        · rw [h9] at q; exact absurd rfl q
        · rfl
      rw [fea, e]; rfl
    · have e : fea k (fr j) w b = false := by
        cases h9 : fea k (fr j) w b
        · rfl
        · rw [h9] at q; exact absurd q (by decide)
      rw [c_nI (by omega), c_nI (by omega)]
      refine s_X12_has (by omega) (fun u => jn_in ⟨fun z => absurd z (by decide), fun _ => ⟨v_in (by omega) (by omega), fun z => hag2 0 ?_, fun z => hag2 1 ?_⟩⟩) (fun u => jn_in ⟨fun _ => hag2 0 ?_, fun z => absurd rfl z⟩)
      · rw [fea, e, u]; simp [z]
      · rw [fea, e, u]; simp [z]
      · rw [fea, e, u]; rfl
theorem s_X12_byLetters {o : Nat → Int32} {post : (Nat → Int32) → Prop} (h : ∀ o2 : Nat → Int32, (∀ k, k < 7 → o2 k = nI k) → post o2) : wp_X12_byLetters o post := by
  unfold wp_X12_byLetters
  refine lofE2_0 7 (by omega) rfl (fun k o2 => ∀ i, i < k → o2 i = nI i) (fun o2 ho => h o2 ho) ?_ _ (fun i hi => absurd hi (Nat.not_lt_zero _))
  intro k o2 again hk ho hag
  rw [c_nI (by omega)]
  refine ⟨v_in hk (by omega), hag _ (fun i hi => ?_)⟩
  by_cases e : i = k
  · subst e; rw [u_s]
  · rw [u_n e]; exact ho i (by omega)
theorem s_X12_nobodyFull {o : Nat → Int32} {post : (Nat → Int32) → Prop} (h : ∀ o2 : Nat → Int32, (∀ k, k < 7 → o2 k = 0) → post o2) : wp_X12_nobodyFull o post := by
  unfold wp_X12_nobodyFull
  refine lofE2_0 7 (by omega) rfl (fun k o2 => ∀ i, i < k → o2 i = 0) (fun o2 ho => h o2 ho) ?_ _ (fun i hi => absurd hi (Nat.not_lt_zero _))
  intro k o2 again hk ho hag
  rw [c_nI (by omega)]
  refine ⟨v_in hk (by omega), hag _ (fun i hi => ?_)⟩
  by_cases e : i = k
  · subst e; rw [u_s]
  · rw [u_n e]; exact ho i (by omega)
def nxtFill (fl w : Nat → Int32) (l r : Int32) (d : Nat) : Int32 := fl d + (if (w d = 0 ∧ 0 < l) ∨ (w d = 1 ∧ 0 < r) then 1 else 0)
theorem vstep_w {n : Nat} {h lk fr ld : Nat → Int32} {a b : Int32} {w w2 : Nat → Int32} {d : Nat} (hw : ∀ e, e < n → w e = w2 e) : vbw n lk fr ld (a, b, w) d = vbw n lk fr ld (a, b, w2) d := by
  unfold vbw
  dsimp only
  rw [fea_congr hw, fea_congr hw]
theorem s_X12_letGo {n : Nat} {hu al ar l r out : Int32} {h lk fr od w fl : Nat → Int32} {o : Nat → Nat} {post : Int32 → Int32 → (Nat → Int32) → (Nat → Int32) → Prop} (hn : n ≤ 7) (ho : ∀ k, k < n → o k < n ∧ od k = nI (o k)) (hh : ∀ d, d < n → ∃ a : Nat, a ≤ 9 ∧ h d = nI a)
    (hp : ∀ w2 f2 : Nat → Int32, (∀ e, e < 7 → w2 e = (vfold n h lk fr (fun d => if fl d < hu then l - r else 0) o (fun k => decide (nI (o k) = out)) n).2.2 e) → (∀ d, d < n → f2 d = nxtFill fl w2 l r d) → (∀ d, n ≤ d → f2 d = fl d) → post (vfold n h lk fr (fun d => if fl d < hu then l - r else 0) o (fun k => decide (nI (o k) = out)) n).1 (vfold n h lk fr (fun d => if fl d < hu then l - r else 0) o (fun k => decide (nI (o k) = out)) n).2.1 w2 f2) :
    wp_X12_letGo (nI n) hu al ar h lk fr od w fl l r out post := by
  unfold wp_X12_letGo
  refine jn_in (lofE2_0 7 (by omega) rfl (fun k w2 => ∀ i, i < k → w2 i = 2) ?_ ?_ _ (fun i hi => absurd hi (Nat.not_lt_zero _)))
  · intro w1 hw1
    refine jn_in ?_
    generalize hV : vfold n h lk fr (fun d => if fl d < hu then l - r else 0) o (fun k => decide (nI (o k) = out)) = V at hp
    refine lofE4_0 n (by omega) rfl (fun k a b w2 => a = (V k).1 ∧ b = (V k).2.1 ∧ ∀ e, e < 7 → w2 e = (V k).2.2 e) ?_ ?_ _ _ _ ⟨by rw [← hV]; rfl, by rw [← hV]; rfl, fun e he => by rw [← hV]; exact hw1 e he⟩
    · rintro a b w2 ⟨rfl, rfl, hw2⟩
      refine lofE2_0 n (by omega) rfl (fun k f2 => (∀ d, d < k → f2 d = nxtFill fl w2 l r d) ∧ (∀ d, k ≤ d → f2 d = fl d)) ?_ ?_ _ ⟨fun d hd => absurd hd (Nat.not_lt_zero _), fun d _ => rfl⟩
      · rintro f2 ⟨h1, h2⟩
        exact hp w2 f2 hw2 h1 h2
      · rintro k f2 again hk ⟨h1, h2⟩ hag
        rw [c_nI (by omega)]
        have hv : vp_in (nI k) 7 := v_in (by omega) (by omega)
        have hfin : ∀ t : Int32, t = (if (w2 k = 0 ∧ 0 < l) ∨ (w2 k = 1 ∧ 0 < r) then 1 else 0) → (vp_in (nI k) 7 ∧ again (nI k + 1) (upd f2 k (f2 k + t))) := by
          rintro t rfl
          refine ⟨hv, hag _ ⟨fun d hd => ?_, fun d hd => ?_⟩⟩
          · by_cases e : d = k
            · subst e; rw [u_s, h2 d (Nat.le_refl _)]; rfl
            · rw [u_n e]; exact h1 d (by omega)
          · rw [u_n (by omega)]; exact h2 d (by omega)
        have hrest : ¬ (w2 k = 0 ∧ 0 < l) → vp_in (nI k) 7 ∧ jn (vp_in (nI k) 7 ∧ again (nI k + 1) (upd f2 k (f2 k + 0))) (fun J296 => (¬ w2 k = 1 → J296) ∧ (w2 k = 1 → (r ≤ 0 → J296) ∧ (¬ r ≤ 0 → vp_in (nI k) 7 ∧ again (nI k + 1) (upd f2 k (f2 k + 1))))) := by
          intro hq
          refine ⟨hv, jn_in ⟨fun q => hfin 0 ?_, fun q => ⟨fun z => hfin 0 ?_, fun z => hfin 1 ?_⟩⟩⟩
          · rw [if_neg]; rintro (g | g)
            · exact hq g
            · exact q g.1
          · rw [if_neg]; rintro (g | g)
            · exact hq g
            · exact n_lt.mpr z g.2
          · rw [if_pos]; exact Or.inr ⟨q, n_le.mp z⟩
        refine ⟨hv, hv, jn_in (jn_in (jn_in ⟨fun q => hrest (fun g => q g.1), fun q => ⟨fun z => hfin 1 (by rw [if_pos (Or.inl ⟨q, z⟩)]), fun z => hrest (fun g => z g.2)⟩⟩))⟩
    · rintro k a b w2 again hk ⟨rfl, rfl, hw2⟩ hag
      obtain ⟨o1, o2⟩ := ho k hk
      rw [c_nI (k := k) (by omega), o2, c_nI (by omega)]
      have hv : vp_in (nI (o k)) 7 := v_in (by omega) (by omega)
      have hk7 : vp_in (nI k) 7 := v_in (by omega) (by omega)
      obtain ⟨x, hx9, hx⟩ := hh (o k) o1
      have hpos : h (o k) ≤ 0 ↔ h (o k) = 0 := by
        rw [hx, i_le, i_eq, nI_toInt (by omega), t_0]; omega
      have hskip : (h (o k) = 0 ∨ nI (o k) = out) → again (nI k + 1) (V k).1 (V k).2.1 w2 := by
        intro hq
        refine hag _ _ _ ?_
        have e : V (k + 1) = V k := by
          rw [← hV, vfold]
          by_cases g : nI (o k) = out
          · rw [if_pos (by simpa using g)]
          · rw [if_neg (by simpa using g), vstep, if_pos (by rcases hq with q | q; exact q; exact absurd q g)]
        rw [e]
        exact ⟨rfl, rfl, hw2⟩
      refine ⟨hk7, hv, fun q => hskip (Or.inl (hpos.mp q)), fun q => ⟨fun z => hskip (Or.inr z), fun z => ⟨hv, hv, jn_in ?_⟩⟩⟩
      have hne : ¬ h (o k) = 0 := fun e => q (hpos.mpr e)
      have e : V (k + 1) = vstep n h lk fr (fun d => if fl d < hu then l - r else 0) (V k) (o k) := by
        rw [← hV, vfold, if_neg (by simpa using z)]
      rw [vstep, if_neg hne] at e
      have hbe : vbw n lk fr (fun d => if fl d < hu then l - r else 0) (V k) (o k) = bowl (lk (o k) + (if fl (o k) < hu then l - r else 0)) (V k).1 (V k).2.1 (fea n (fr (o k)) w2 0) (fea n (fr (o k)) w2 1) := by
        unfold vbw
        rw [fea_congr (w := w2) (w2 := (V k).2.2) (fun e he => hw2 e (by omega)), fea_congr (w := w2) (w2 := (V k).2.2) (fun e he => hw2 e (by omega))]
      rw [hbe] at e
      -- the end of the walk, by the bowl
      have hfin : ∀ t15 : Int32, t15 = bowl (lk (o k) + (if fl (o k) < hu then l - r else 0)) (V k).1 (V k).2.1 (fea n (fr (o k)) w2 0) (fea n (fr (o k)) w2 1) → (vp_in (nI (o k)) 7 ∧ jn (fun (t_16 : Int32) => jn (fun (t_17 : Int32) => again (nI k + 1) ((V k).1 + t_16) ((V k).2.1 + t_17) (upd w2 (o k) t15)) (fun (J233 : Int32 → Prop) => ((¬ t15 = (1 : Int32) → J233 (0 : Int32)) ∧ (t15 = (1 : Int32) → (vp_in (nI (o k)) 7 ∧ J233 (h (o k))))))) (fun (J207 : Int32 → Prop) => ((¬ t15 = 0 → J207 (0 : Int32)) ∧ (t15 = 0 → (vp_in (nI (o k)) 7 ∧ J207 (h (o k))))))) := by
        rintro t15 ht
        have ha : ∀ x y : Int32, x = (if t15 = 0 then h (o k) else 0) → y = (if t15 = 1 then h (o k) else 0) → again (nI k + 1) ((V k).1 + x) ((V k).2.1 + y) (upd w2 (o k) t15) := by
          rintro x y rfl rfl
          refine hag _ _ _ ?_
          rw [e, ← ht]
          refine ⟨rfl, rfl, fun d hd => ?_⟩
          by_cases g : d = o k
          · subst g; dsimp only; rw [u_s, u_s]
          · dsimp only; rw [u_n g, u_n g]; exact hw2 d hd
        refine ⟨hv, jn_in ⟨fun g => jn_in ⟨fun g2 => ha 0 0 (by rw [if_neg g]) (by rw [if_neg g2]), fun g2 => ⟨hv, ha 0 (h (o k)) (by rw [if_neg g]) (by rw [if_pos g2])⟩⟩, fun g => ⟨hv, jn_in ⟨fun g2 => ha (h (o k)) 0 (by rw [if_pos g]) (by rw [if_neg g2]), fun g2 => ⟨hv, ha (h (o k)) (h (o k)) (by rw [if_pos g]) (by rw [if_pos g2])⟩⟩⟩⟩⟩
      -- which bowl first
      have hmid : ∀ t13 : Int32, ((t13 = 0 ∧ (0 < lk (o k) + (if fl (o k) < hu then l - r else 0) ∨ (lk (o k) + (if fl (o k) < hu then l - r else 0) = 0 ∧ (V k).2.1 ≤ (V k).1))) ∨ (t13 = 1 ∧ ¬ (0 < lk (o k) + (if fl (o k) < hu then l - r else 0) ∨ (lk (o k) + (if fl (o k) < hu then l - r else 0) = 0 ∧ (V k).2.1 ≤ (V k).1)))) → wp_X12_isFeared (nI n) fr w2 (nI (o k)) t13 (fun (r_14 : Int32) => jn (fun (t_15 : Int32) => (vp_in (nI (o k)) 7 ∧ jn (fun (t_16 : Int32) => jn (fun (t_17 : Int32) => again (nI k + 1) ((V k).1 + t_16) ((V k).2.1 + t_17) (upd w2 (o k) t_15)) (fun (J233 : Int32 → Prop) => ((¬ t_15 = (1 : Int32) → J233 (0 : Int32)) ∧ (t_15 = (1 : Int32) → (vp_in (nI (o k)) 7 ∧ J233 (h (o k))))))) (fun (J207 : Int32 → Prop) => ((¬ t_15 = 0 → J207 (0 : Int32)) ∧ (t_15 = 0 → (vp_in (nI (o k)) 7 ∧ J207 (h (o k)))))))) (fun (J175 : Int32 → Prop) => ((¬ r_14 = 0 → wp_X12_isFeared (nI n) fr w2 (nI (o k)) ((1 : Int32) - t13) (fun (r_18 : Int32) => ((¬ r_18 = 0 → J175 (2 : Int32)) ∧ (r_18 = 0 → J175 ((1 : Int32) - t13))))) ∧ (r_14 = 0 → J175 t13)))) := by
        intro t13 ht
        refine s_X12_isFeared hn (by omega) (jn_in ⟨fun g => s_X12_isFeared hn (by omega) ⟨fun g2 => hfin 2 ?_, fun g2 => hfin _ ?_⟩, fun g => hfin _ ?_⟩)
        · unfold bowl
          rcases ht with ⟨rfl, hq⟩ | ⟨rfl, hq⟩
          · rw [if_pos hq]
            rw [show (1 : Int32) - 0 = 1 from rfl] at g2
            cases f0 : fea n (fr (o k)) w2 0 <;> cases f1 : fea n (fr (o k)) w2 1 <;> simp_all
          · rw [if_neg hq]
            rw [show (1 : Int32) - 1 = 0 from rfl] at g2
            cases f0 : fea n (fr (o k)) w2 0 <;> cases f1 : fea n (fr (o k)) w2 1 <;> simp_all
        · unfold bowl
          rcases ht with ⟨rfl, hq⟩ | ⟨rfl, hq⟩
          · rw [if_pos hq]
            rw [show (1 : Int32) - 0 = 1 from rfl] at g2 ⊢
            cases f0 : fea n (fr (o k)) w2 0 <;> cases f1 : fea n (fr (o k)) w2 1 <;> simp_all
          · rw [if_neg hq]
            rw [show (1 : Int32) - 1 = 0 from rfl] at g2 ⊢
            cases f0 : fea n (fr (o k)) w2 0 <;> cases f1 : fea n (fr (o k)) w2 1 <;> simp_all
        · unfold bowl
          rcases ht with ⟨rfl, hq⟩ | ⟨rfl, hq⟩
          · rw [if_pos hq]
            cases f0 : fea n (fr (o k)) w2 0 <;> cases f1 : fea n (fr (o k)) w2 1 <;> simp_all
          · rw [if_neg hq]
            cases f0 : fea n (fr (o k)) w2 0 <;> cases f1 : fea n (fr (o k)) w2 1 <;> simp_all
      clear hfin hbe e
      have hld : ∀ t12 : Int32, t12 = (if fl (o k) < hu then l - r else 0) → jn (fun (t_13 : Int32) => wp_X12_isFeared (nI n) fr w2 (nI (o k)) t_13 (fun (r_14 : Int32) => jn (fun (t_15 : Int32) => (vp_in (nI (o k)) 7 ∧ jn (fun (t_16 : Int32) => jn (fun (t_17 : Int32) => again (nI k + 1) ((V k).1 + t_16) ((V k).2.1 + t_17) (upd w2 (o k) t_15)) (fun (J233 : Int32 → Prop) => ((¬ t_15 = (1 : Int32) → J233 (0 : Int32)) ∧ (t_15 = (1 : Int32) → (vp_in (nI (o k)) 7 ∧ J233 (h (o k))))))) (fun (J207 : Int32 → Prop) => ((¬ t_15 = 0 → J207 (0 : Int32)) ∧ (t_15 = 0 → (vp_in (nI (o k)) 7 ∧ J207 (h (o k)))))))) (fun (J175 : Int32 → Prop) => ((¬ r_14 = 0 → wp_X12_isFeared (nI n) fr w2 (nI (o k)) ((1 : Int32) - t_13) (fun (r_18 : Int32) => ((¬ r_18 = 0 → J175 (2 : Int32)) ∧ (r_18 = 0 → J175 ((1 : Int32) - t_13))))) ∧ (r_14 = 0 → J175 t_13))))) (fun (J136 : Int32 → Prop) => (((lk (o k) + t12) ≤ 0 → ((0 ≤ (lk (o k) + t12) → (((V k).2.1 ≤ (V k).1 → J136 (0 : Int32)) ∧ (¬ (V k).2.1 ≤ (V k).1 → J136 (1 : Int32)))) ∧ (¬ 0 ≤ (lk (o k) + t12) → J136 (1 : Int32)))) ∧ (¬ (lk (o k) + t12) ≤ 0 → J136 (0 : Int32)))) := by
        rintro t12 rfl
        generalize lk (o k) + (if fl (o k) < hu then l - r else 0) = pull at hmid ⊢
        have hz : pull ≤ 0 → 0 ≤ pull → pull = 0 := fun a b => i_eq.mpr (by rw [i_le] at a b; omega)
        refine jn_in ⟨fun p1 => ⟨fun p2 => ⟨fun p3 => hmid 0 (Or.inl ⟨rfl, Or.inr ⟨hz p1 p2, p3⟩⟩), fun p3 => hmid 1 (Or.inr ⟨rfl, ?_⟩)⟩, fun p2 => hmid 1 (Or.inr ⟨rfl, ?_⟩)⟩, fun p1 => hmid 0 (Or.inl ⟨rfl, Or.inl (n_le.mp p1)⟩)⟩
        · rintro (g | g)
          · exact n_le.mpr g p1
          · exact p3 g.2
        · rintro (g | g)
          · exact n_le.mpr g p1
          · exact p2 (by rw [g.1]; decide)
      exact ⟨fun g => hld _ (by rw [if_pos g]), fun g => hld _ (by rw [if_neg g])⟩
  · intro k w2 again hk hw2 hag
    rw [c_nI (by omega)]
    refine ⟨v_in hk (by omega), hag _ (fun i hi => ?_)⟩
    by_cases e : i = k
    · subst e; rw [u_s]
    · rw [u_n e]; exact hw2 i (by omega)
