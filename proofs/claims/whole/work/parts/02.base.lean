
/-! what holds of the tables all along: classes, array classes, links of nest mates -/
def gN (U : State) : Prop := ∀ (a : String) (i : Nat) (x : MethodName) (h : String), Cond.methodLinkNest a i x h ∈ lw_tbl → va_Nw (.methodLinkNest a i x h) U
theorem gN.warm {s U : State} (hW : s.WarmedH U.vm) (h : gN s) : gN U := fun a i x k hm => va_Nw.warmM hW (h a i x k hm)
theorem gN.same {u U : State} (e : u.vm = U.vm) (h : gN u) : gN U := fun a i x k hm => va_Nw.same rfl e (h a i x k hm)
def gK (D : va_G) (ci cz : ClassId) (tr : List (ClassId × FieldType)) (U : State) : Prop := va_K D vwCl ((ci, .int) :: (cz, .boolean) :: tr) U ∧ gN U ∧ U.vm.findClass "[I" = some ci ∧ U.vm.findClass "[Z" = some cz ∧ va_AO "DogVotes$Parish" U
theorem gK.warm {D : va_G} {ci cz : ClassId} {tr : List (ClassId × FieldType)} {s U : State} (hW : s.WarmedH U.vm) (h : gK D ci cz tr s) : gK D ci cz tr U :=
  ⟨va_K.moved hW.alike h.1, h.2.1.warm hW, by rw [hW.alike.findClass]; exact h.2.2.1, by rw [hW.alike.findClass]; exact h.2.2.2.1, va_AO.moved hW.alike h.2.2.2.2⟩
theorem gAl {u U : State} (e : u.vm = U.vm) : u.vm.Alike U.vm := e ▸ Vm.Alike.refl u.vm
theorem gK.same {D : va_G} {ci cz : ClassId} {tr : List (ClassId × FieldType)} {u U : State} (e : u.vm = U.vm) (h : gK D ci cz tr u) : gK D ci cz tr U :=
  ⟨va_K.moved (gAl e) h.1, h.2.1.same e, by rw [← e]; exact h.2.2.1, by rw [← e]; exact h.2.2.2.1, va_AO.moved (gAl e) h.2.2.2.2⟩
def facI (j : Nat) : Int32 := match j with
  | 0 => 1
  | 1 => 1
  | 2 => 2
  | 3 => 6
  | 4 => 24
  | 5 => 120
  | 6 => 720
  | _ => 5040
def gZ (A : Nat → Prop) (U : State) (H : Heap) : Prop := ∃ t : Nat, va_Z "DogVotes" "FACTORIALS" "[I" (.ref t) A U H ∧ va_T .int t 8 (fun j => .int (facI j)) A U H
theorem gZ.go {A B : Nat → Prop} {s U : State} {H : Heap} {locs : List Loc} (h : gZ A s s.heap) (hS : va_S A s.heap H locs) (hAB : ∀ q, B q → A q) (hvm : s.vm.Alike U.vm) (hU : U.heap = H) : gZ B U U.heap := by
  obtain ⟨t, h1, h2⟩ := h
  have k : ∀ a : Nat, a < s.heap.size → ¬ A a → U.heap[a]? = s.heap[a]? := fun a h3 h4 => by rw [hU]; exact hS.2.1 a h3 h4
  exact ⟨t, ((h1.kept k).narrow hAB).moved hvm, ((h2.kept k).narrow hAB).moved hvm⟩
theorem gZ.same {A : Nat → Prop} {u U : State} (e : u.vm = U.vm) (eh : u.heap = U.heap) (h : gZ A u u.heap) : gZ A U U.heap := by
  obtain ⟨t, h1, h2⟩ := h
  rw [← eh]
  exact ⟨t, h1.moved (gAl e), h2.moved (gAl e)⟩
/-- a method's start -/
def gP (D : va_G) (ci cz : ClassId) (tr : List (ClassId × FieldType)) (W0 : va_W) (sz : Nat) (av : List Value) : Array Value → State → Prop :=
  va_Pc av (fun U => U.heap.size = sz ∧ va_P D vwCl W0 U.heap ∧ gK D ci cz tr U ∧ va_D (fun _ => True) W0 ∧ gZ (va_A W0 sz) U U.heap)
theorem gP_blind {D : va_G} {ci cz : ClassId} {tr : List (ClassId × FieldType)} {W0 : va_W} {sz : Nat} {av : List Value} : FrameBlind (gP D ci cz tr W0 sz av) :=
  fun a U g mk ⟨h0, h1, h2, h3, h4, h5⟩ => ⟨h0, h1, h2, gK.same (u := U) (U := U.calling g mk a) rfl h3, h4, gZ.same (u := U) (U := U.calling g mk a) rfl rfl h5⟩
abbrev gM (l : Launch) (y : MethodName) (cc : ByteArray) (n : Nat) (ret : Option FieldType) (fr lc : Nat) (D : va_G) (ci cz : ClassId) (tr : List (ClassId × FieldType)) (W0 : va_W) (sz : Nat) (av : List Value) (Qc : Array Value → State → Outcome → State → Prop) : Prop :=
  Met l y (Cond.code y cc n ret :: tt) { frames := fr, cells := 0, slots := 0, locals := lc } (gP D ci cz tr W0 sz av) Qc 0 0 (va_A W0 sz)
abbrev gQi (D : va_G) (W0 : va_W) (sz : Nat) (PW : Int32 → va_W → Prop) : Array Value → State → Outcome → State → Prop := va_Qi PW (fun w t => va_P D vwCl w t.heap) (va_A W0 sz)
abbrev gQl (D : va_G) (W0 : va_W) (sz : Nat) (PW : Int64 → va_W → Prop) : Array Value → State → Outcome → State → Prop := va_Ql PW (fun w t => va_P D vwCl w t.heap) (va_A W0 sz)
abbrev gQv (D : va_G) (W0 : va_W) (sz : Nat) (PW : va_W → Prop) : Array Value → State → Outcome → State → Prop := va_Qv PW (fun w t => va_P D vwCl w t.heap) (va_A W0 sz)
/-- a world in which some places hold new contents -/
def gput : List Nat → va_W → va_W → va_W
  | [], _, ws => ws
  | _ :: _, [], ws => ws
  | i :: is, x :: w, ws => gput is w (ws.set i x)
theorem gput_get : ∀ (is : List Nat) (w ws : va_W) (k : Nat) (q : Nat × va_E), is.length = w.length → (gput is w ws)[k]? = some q → (∃ j : Nat, is[j]? = some k ∧ w[j]? = some q) ∨ (k ∉ is ∧ ws[k]? = some q)
  | [], _, _, _, _, _, h => Or.inr ⟨List.not_mem_nil, h⟩
  | _ :: _, [], _, _, _, hl, _ => by simp at hl
  | i :: is, x :: w, ws, k, q, hl, h => by
    have hl' : is.length = w.length := by simpa using hl
    rcases gput_get is w (ws.set i x) k q hl' h with ⟨j, h1, h2⟩ | ⟨h1, h2⟩
    · exact Or.inl ⟨j + 1, h1, h2⟩
    · by_cases hk : k = i
      · subst hk
        have hlt : k < ws.length := by
          have h3 := (List.getElem?_eq_some_iff.mp h2).1
          simpa using h3
        rw [List.getElem?_set_self hlt] at h2
        exact Or.inl ⟨0, rfl, h2⟩
      · rw [List.getElem?_set_ne (fun e => hk e.symm)] at h2
        exact Or.inr ⟨by simp [hk, h1], h2⟩
theorem gplace {ws wc : va_W} {isC : List Nat} (hC : isC.map (fun i => ws[i]?) = wc.map some) {j : Nat} {q : Nat × va_E} (h : wc[j]? = some q) : ∃ i : Nat, isC[j]? = some i ∧ ws[i]? = some q := by
  have h4 : (wc.map some)[j]? = some (some q) := by simp [h]
  rw [← hC, List.getElem?_map] at h4
  cases h7 : isC[j]? with
  | none => simp [h7] at h4
  | some i => exact ⟨i, rfl, by simpa [h7] using h4⟩
theorem gjoin {A : Nat → Prop} {D : va_G} {ws wc w : va_W} {H H1 : Heap} (hP : va_P D vwCl ws H) (hD : va_D A ws) (isC : List Nat) (hC : isC.map (fun i => ws[i]?) = wc.map some) (hw : w.map Prod.fst = wc.map Prod.fst)
    (hk : ∀ q : Nat, q < H.size → ¬ va_A wc H.size q → H1[q]? = H[q]?) (hP1 : va_P D vwCl w H1) : va_P D vwCl (gput isC w ws) H1 := by
  intro k q hq
  have hlen1 : isC.length = wc.length := by have h := congrArg List.length hC; simpa using h
  have hlen2 : w.length = wc.length := by have h := congrArg List.length hw; simpa using h
  rcases gput_get isC w ws k q (by omega) hq with ⟨j, h1, h2⟩ | ⟨h1, h2⟩
  · exact hP1 j q h2
  · have hl := (hP k q h2).lt
    refine (hP k q h2).kept (hk q.1 hl ?_)
    rintro (⟨j, e, h3⟩ | h3)
    · obtain ⟨i, h5, h6⟩ := gplace hC h3
      have h7 := hD.1 k i q (q.1, e) h2 h6 rfl
      subst h7
      exact h1 (List.mem_of_getElem? h5)
    · omega
/-- which cell of a world is a new one: none: as it was; some j: the j-th of the callee's -/
def gmix : List (Option Nat) → va_W → va_W → va_W
  | [], _, _ => []
  | _ :: _, _, [] => []
  | none :: s, w, q :: ws => q :: gmix s w ws
  | some j :: s, w, q :: ws => w.getD j q :: gmix s w ws
def gok : List (Option Nat) → List Nat → Nat → Bool
  | [], _, _ => true
  | none :: s, is, k => !(is.contains k) && gok s is (k + 1)
  | some j :: s, is, k => decide (j < is.length) && gok s is (k + 1)
theorem gmix_get : ∀ (s : List (Option Nat)) (is : List Nat) (w ws : va_W) (k0 k : Nat) (q : Nat × va_E), is.length = w.length → gok s is k0 = true → (gmix s w ws)[k]? = some q → (∃ j : Nat, w[j]? = some q) ∨ (k0 + k ∉ is ∧ ws[k]? = some q)
  | [], _, _, _, _, _, _, _, _, h => by simp [gmix] at h
  | _ :: _, _, _, [], _, _, _, _, _, h => by simp [gmix] at h
  | none :: s, is, w, x :: ws, k0, k, q, hl, hg, h => by
    simp only [gok, Bool.and_eq_true] at hg
    cases k with
    | zero =>
      refine Or.inr ⟨?_, by simpa [gmix] using h⟩
      have h1 := hg.1
      simpa using h1
    | succ k =>
      have h2 : (gmix s w ws)[k]? = some q := by simpa [gmix] using h
      rcases gmix_get s is w ws (k0 + 1) k q hl hg.2 h2 with h3 | ⟨h3, h4⟩
      · exact Or.inl h3
      · exact Or.inr ⟨by rw [show k0 + (k + 1) = k0 + 1 + k by omega]; exact h3, by simpa using h4⟩
  | some j :: s, is, w, x :: ws, k0, k, q, hl, hg, h => by
    simp only [gok, Bool.and_eq_true, decide_eq_true_eq] at hg
    cases k with
    | zero =>
      have hj : j < w.length := by omega
      have h2 : w.getD j x = q := by simpa [gmix] using h
      refine Or.inl ⟨j, ?_⟩
      rw [List.getD_eq_getElem?_getD] at h2
      rw [List.getElem?_eq_getElem hj] at h2 ⊢
      simpa using h2
    | succ k =>
      have h2 : (gmix s w ws)[k]? = some q := by simpa [gmix] using h
      rcases gmix_get s is w ws (k0 + 1) k q hl hg.2 h2 with h3 | ⟨h3, h4⟩
      · exact Or.inl h3
      · exact Or.inr ⟨by rw [show k0 + (k + 1) = k0 + 1 + k by omega]; exact h3, by simpa using h4⟩
theorem gjoin2 {A : Nat → Prop} {D : va_G} {ws wc w ws2 : va_W} {H H1 : Heap} (hP : va_P D vwCl ws H) (hD : va_D A ws) (isC : List Nat) (hC : isC.map (fun i => ws[i]?) = wc.map some) (hw : w.map Prod.fst = wc.map Prod.fst)
    (hk : ∀ q : Nat, q < H.size → ¬ va_A wc H.size q → H1[q]? = H[q]?) (hP1 : va_P D vwCl w H1) (src : List (Option Nat)) (hs : gok src isC 0 = true) (hm : gmix src w ws = ws2) : va_P D vwCl ws2 H1 := by
  subst hm
  intro k q hq
  have hlen1 : isC.length = wc.length := by have h := congrArg List.length hC; simpa using h
  have hlen2 : w.length = wc.length := by have h := congrArg List.length hw; simpa using h
  rcases gmix_get src isC w ws 0 k q (by omega) hs hq with ⟨j, h2⟩ | ⟨h1, h2⟩
  · exact hP1 j q h2
  · rw [Nat.zero_add] at h1
    have hl := (hP k q h2).lt
    refine (hP k q h2).kept (hk q.1 hl ?_)
    rintro (⟨j, e, h3⟩ | h3)
    · obtain ⟨i, h5, h6⟩ := gplace hC h3
      have h7 := hD.1 k i q (q.1, e) h2 h6 rfl
      subst h7
      exact h1 (List.mem_of_getElem? h5)
    · omega
theorem gD_re {A : Nat → Prop} {ws ws' : va_W} (h : va_D A ws) (e : ws'.map Prod.fst = ws.map Prod.fst) : va_D A ws' := by
  have k : ∀ (i : Nat) (q : Nat × va_E), ws'[i]? = some q → ∃ q2 : Nat × va_E, ws[i]? = some q2 ∧ q2.1 = q.1 := by
    intro i q hq
    have h1 : (ws'.map Prod.fst)[i]? = some q.1 := by simp [hq]
    rw [e, List.getElem?_map] at h1
    cases h2 : ws[i]? with
    | none => simp [h2] at h1
    | some q2 => exact ⟨q2, rfl, by simpa [h2] using h1⟩
  refine ⟨fun i j x y hx hy hxy => ?_, fun i x hx => ?_⟩
  · obtain ⟨x2, a1, a2⟩ := k i x hx
    obtain ⟨y2, b1, b2⟩ := k j y hy
    exact h.1 i j x2 y2 a1 b1 (by rw [a2, b2]; exact hxy)
  · obtain ⟨x2, a1, a2⟩ := k i x hx
    rw [← a2]
    exact h.2 i x2 a1
/-! the words of calls -/
theorem gi_sub {ws : List Cond} (h : ∀ w ∈ ws, w ∈ tt) : GoodIn tt ws := fun w hw => ⟨h w hw, good_of_word (List.mem_filter.mp (h w hw)).2⟩
theorem gi_code {y : MethodName} {cc : ByteArray} {n : Nat} {ret : Option FieldType} (h : Cond.code y cc n ret ∈ tt) : GoodIn tt (Cond.code y cc n ret :: tt) := gi_sub (fun w hw => (List.mem_cons.mp hw).elim (fun e => e ▸ h) id)
theorem gi_V {own C : String} {idx : Nat} {y : MethodName} {cc : ByteArray} {n : Nat} {ret : Option FieldType} (h1 : Cond.methodLink own idx y ∈ tt) (h2 : Cond.instanceMethod y ∈ tt) (h3 : Cond.selects C y y ∈ tt) (h4 : Cond.initialized C ∈ tt) (h5 : Cond.code y cc n ret ∈ tt) : GoodIn tt (wsV own idx C y (Cond.code y cc n ret :: tt)) := by
  intro w hw
  unfold wsV at hw
  rcases List.mem_append.mp hw with h | h
  · refine gi_sub (ws := [.methodLink own idx y, .instanceMethod y, .selects C y y, .initialized C]) (fun w hw => ?_) w h
    simp only [List.mem_cons, List.not_mem_nil, or_false] at hw
    rcases hw with rfl | rfl | rfl | rfl <;> assumption
  · exact gi_code h5 w h
theorem gi_S {own : String} {idx : Nat} {y : MethodName} {cc : ByteArray} {n : Nat} {ret : Option FieldType} (h1 : Cond.methodLink own idx y ∈ tt) (h2 : Cond.static y ∈ tt) (h4 : Cond.initialized y.cls ∈ tt) (h5 : Cond.code y cc n ret ∈ tt) : GoodIn tt (va_wsS own idx y (Cond.code y cc n ret :: tt)) := by
  intro w hw
  unfold va_wsS at hw
  rcases List.mem_append.mp hw with h | h
  · refine gi_sub (ws := [.methodLink own idx y, .static y, .initialized y.cls]) (fun w hw => ?_) w h
    simp only [List.mem_cons, List.not_mem_nil, or_false] at hw
    rcases hw with rfl | rfl | rfl <;> assumption
  · exact gi_code h5 w h
/-! combinators of the printed conditions -/
def jn {α : Type} (K : α) (F : α → Prop) : Prop := F K
theorem jn_walk {α : Type} {K : α} {F : α → Prop} {G : Prop} (hw : jn K F) (S : α → Prop) (h1 : S K) (h2 : ∀ J : α, S J → F J → G) : G := h2 K h1 hw
theorem jn_in {α : Type} {K : α} {F : α → Prop} (h : F K) : jn K F := h
def wl {α : Type} (bot : α) (F : α → α) : Nat → α
  | 0 => bot
  | n + 1 => F (wl bot F n)
theorem wl_ind {α : Type} {bot : α} {F : α → α} (S : α → Prop) (h0 : S bot) (hs : ∀ r : α, S r → S (F r)) : ∀ n : Nat, S (wl bot F n)
  | 0 => h0
  | n + 1 => hs _ (wl_ind S h0 hs n)
def lo {α : Type} (bot : α) (F : α → α) (G : α → Prop) : Prop := ∃ n : Nat, G (wl bot F n)
theorem lo_walk {α : Type} {bot : α} {F : α → α} {G : α → Prop} {C : Prop} (hw : lo bot F G) (S : α → Prop) (h0 : S bot) (hs : ∀ r : α, S r → S (F r)) (h2 : ∀ r : α, S r → G r → C) : C := by
  obtain ⟨n, h⟩ := hw
  exact h2 _ (wl_ind S h0 hs n) h
theorem nz_b {v : Int32} (h : v = 0 ∨ v = 1) : narrow .boolean (.int v) = .int v := by rcases h with rfl | rfl <;> rfl
theorem nz_f {v : Int32} (h : v = 0 ∨ v = 1) : fits .boolean (.int v) = true := by rcases h with rfl | rfl <;> rfl
theorem sw_out {x : Int32} {lo hi : Int} (h : ∀ k : Int, lo ≤ k → k ≤ hi → ¬ x.toInt = k) : x.toInt < lo ∨ hi < x.toInt := by
  rcases Int.lt_or_le x.toInt lo with h1 | h1
  · exact Or.inl h1
  · rcases Int.lt_or_le hi x.toInt with h2 | h2
    · exact Or.inr h2
    · exact absurd rfl (h x.toInt h1 h2)
section GC
variable {p : Program} {l : Launch} {e : Env} {R : Room} {s : State} {m : MethodId} {args : Array Value} {below : List Frame} {meth : Method} {c : Code} {H : Heap} {locs : List Loc} {cells slots : Nat} {Q : State → Prop}
variable {pc : Nat} {ls : Array Slot} {rest st0 : List Value} {a : Array Value} {A : Nat → Prop} {D : va_G} {ci cz : ClassId} {tr : List (ClassId × FieldType)} {ws wc : va_W} {cc : ByteArray}
theorem gpre {av : List Value} (hK : gK D ci cz tr s) (hZ : gZ A s s.heap) (hP : va_P D vwCl ws H) (hD : va_D A ws) (hS : va_S A s.heap H locs) (hA : ∀ q : Nat, s.heap.size ≤ q → A q) (isC : List Nat) (hn : va_nd isC = true) (hC : isC.map (fun i => ws[i]?) = wc.map some) :
    FrameBlind (gP D ci cz tr wc H.size av) ∧ ∀ U : State, U.heap = H → s.WarmedH U.vm → gP D ci cz tr wc H.size av av.toArray U := by
  refine ⟨gP_blind, fun U hU hW => ⟨rfl, by rw [hU], ?_, hK.warm hW, (hD.sub isC hn hC).weaken (fun _ _ _ _ => trivial), hZ.go hS (va_free hD hS hA isC hC) hW.alike hU⟩⟩
  intro j q hq
  obtain ⟨i, -, h6⟩ := gplace hC hq
  rw [hU]
  exact hP i q h6
theorem gpreV {b : Addr} {As : List Value} {C : String} {q0 k : Nat} {q : vw_C} {fs : List Value} (hK : gK D ci cz tr s) (hZ : gZ A s s.heap) (hP : va_P D vwCl ws H) (hD : va_D A ws) (hS : va_S A s.heap H locs) (hA : ∀ q : Nat, s.heap.size ≤ q → A q) (isC : List Nat) (hn : va_nd isC = true) (hC : isC.map (fun i => ws[i]?) = wc.map some)
    (hc : vwCl[k]? = some q) (he : ws[q0]? = some (b, .inr (k, fs))) (hq : q.1 = C) : PreV s H C b (gP D ci cz tr wc H.size (.ref b :: As)) As := by
  obtain ⟨h1, h2⟩ := gpre (av := .ref b :: As) hK hZ hP hD hS hA isC hn hC
  subst hq
  exact ⟨h1, va_recv hK.1 hP hc he, h2⟩
theorem gcalli {PW : Int32 → va_W → Prop} (hr : va_Run p l e R s m args below meth c H locs cells slots 0 0 (F0 m pc ls st0) rest (gQi D wc H.size PW a) (va_A wc H.size)) (hD : va_D A ws) (hS : va_S A s.heap H locs) (hA : ∀ q : Nat, s.heap.size ≤ q → A q) (isC : List Nat) (hC : isC.map (fun i => ws[i]?) = wc.map some)
    (kk : ∀ (r : Int32) (w : va_W) (H1 : Heap) (locs1 : List Loc), PW r w → va_P D vwCl w H1 → (∀ q : Nat, q < H.size → ¬ va_A wc H.size q → H1[q]? = H[q]?) → va_S A s.heap H1 locs1 → W p l e R s m args below meth c H1 locs1 cells slots Q (F0 m (pc + 3) ls (.int r :: rest))) : W p l e R s m args below meth c H locs cells slots Q (F0 m pc ls st0) :=
  va_calli hr hS (fun q _ h => va_free hD hS hA isC hC q h) (va_free hD hS hA isC hC) (fun r w t H1 locs1 ht _ hp hB _ hk hS1 => kk r w H1 locs1 hp (ht ▸ hB) hk hS1)
theorem gcalll {PW : Int64 → va_W → Prop} (hr : va_Run p l e R s m args below meth c H locs cells slots 0 0 (F0 m pc ls st0) rest (gQl D wc H.size PW a) (va_A wc H.size)) (hD : va_D A ws) (hS : va_S A s.heap H locs) (hA : ∀ q : Nat, s.heap.size ≤ q → A q) (isC : List Nat) (hC : isC.map (fun i => ws[i]?) = wc.map some)
    (kk : ∀ (r : Int64) (w : va_W) (H1 : Heap) (locs1 : List Loc), PW r w → va_P D vwCl w H1 → (∀ q : Nat, q < H.size → ¬ va_A wc H.size q → H1[q]? = H[q]?) → va_S A s.heap H1 locs1 → W p l e R s m args below meth c H1 locs1 cells slots Q (F0 m (pc + 3) ls (.long r :: rest))) : W p l e R s m args below meth c H locs cells slots Q (F0 m pc ls st0) :=
  va_calll hr hS (fun q _ h => va_free hD hS hA isC hC q h) (va_free hD hS hA isC hC) (fun r w t H1 locs1 ht _ hp hB _ hk hS1 => kk r w H1 locs1 hp (ht ▸ hB) hk hS1)
theorem gcallv {PW : va_W → Prop} (hr : va_Run p l e R s m args below meth c H locs cells slots 0 0 (F0 m pc ls st0) rest (gQv D wc H.size PW a) (va_A wc H.size)) (hD : va_D A ws) (hS : va_S A s.heap H locs) (hA : ∀ q : Nat, s.heap.size ≤ q → A q) (isC : List Nat) (hC : isC.map (fun i => ws[i]?) = wc.map some)
    (kk : ∀ (w : va_W) (H1 : Heap) (locs1 : List Loc), PW w → va_P D vwCl w H1 → (∀ q : Nat, q < H.size → ¬ va_A wc H.size q → H1[q]? = H[q]?) → va_S A s.heap H1 locs1 → W p l e R s m args below meth c H1 locs1 cells slots Q (F0 m (pc + 3) ls rest)) : W p l e R s m args below meth c H locs cells slots Q (F0 m pc ls st0) :=
  va_callv hr hS (fun q _ h => va_free hD hS hA isC hC q h) (va_free hD hS hA isC hC) (fun w t H1 locs1 ht _ hp hB _ hk hS1 => kk w H1 locs1 hp (ht ▸ hB) hk hS1)
theorem gret_i {PW : Int32 → va_W → Prop} {w : va_W} {v : Int32} (hx : p.tables.exec = Jvm.exec) (hb : c.code = cc) (hr : meth.sig.returnType = some .int) (hlocks : meth.locks = false) (hP : va_P D vwCl w H) (hS : va_S A s.heap H locs) (hw : PW v w) (hdg : decode cc pc = .ok (.ireturn, 1)) :
    W p l e R s m args below meth c H locs cells slots (MQ below (va_Qi PW (fun w t => va_P D vwCl w t.heap) A) args s cells slots A) (F0 m pc ls [.int v]) :=
  W.iret hx hb hr (fun t ht _ => ⟨⟨v, w, rfl, hw, by show va_P D vwCl w t.heap; rw [ht]; exact hP⟩, hS.F ht⟩) hS.2.2 hdg hlocks
theorem gret_z {PW : Int32 → va_W → Prop} {w : va_W} {v : Int32} (hx : p.tables.exec = Jvm.exec) (hb : c.code = cc) (hr : meth.sig.returnType = some .boolean) (hlocks : meth.locks = false) (hn : v = 0 ∨ v = 1) (hP : va_P D vwCl w H) (hS : va_S A s.heap H locs) (hw : PW v w) (hdg : decode cc pc = .ok (.ireturn, 1)) :
    W p l e R s m args below meth c H locs cells slots (MQ below (va_Qi PW (fun w t => va_P D vwCl w t.heap) A) args s cells slots A) (F0 m pc ls [.int v]) :=
  W.zret hx hb hr (nz_b hn) (fun t ht _ => ⟨⟨v, w, rfl, hw, by show va_P D vwCl w t.heap; rw [ht]; exact hP⟩, hS.F ht⟩) hS.2.2 hdg hlocks
theorem gret_l {PW : Int64 → va_W → Prop} {w : va_W} {v : Int64} (hx : p.tables.exec = Jvm.exec) (hb : c.code = cc) (hr : meth.sig.returnType = some .long) (hlocks : meth.locks = false) (hP : va_P D vwCl w H) (hS : va_S A s.heap H locs) (hw : PW v w) (hdg : decode cc pc = .ok (.lreturn, 1)) :
    W p l e R s m args below meth c H locs cells slots (MQ below (va_Ql PW (fun w t => va_P D vwCl w t.heap) A) args s cells slots A) (F0 m pc ls [.long v]) :=
  W.lret hx hb hr (fun t ht _ => ⟨⟨v, w, rfl, hw, by show va_P D vwCl w t.heap; rw [ht]; exact hP⟩, hS.F ht⟩) hS.2.2 hdg hlocks
theorem gret_v {PW : va_W → Prop} {w : va_W} (hx : p.tables.exec = Jvm.exec) (hb : c.code = cc) (hr : meth.sig.returnType = none) (hlocks : meth.locks = false) (hP : va_P D vwCl w H) (hS : va_S A s.heap H locs) (hw : PW w) (hdg : decode cc pc = .ok (.return_, 1)) :
    W p l e R s m args below meth c H locs cells slots (MQ below (va_Qv PW (fun w t => va_P D vwCl w t.heap) A) args s cells slots A) (F0 m pc ls []) :=
  W.vret hx hb hr (fun t ht _ => ⟨⟨w, rfl, hw, by show va_P D vwCl w t.heap; rw [ht]; exact hP⟩, hS.F ht⟩) hS.2.2 hdg hlocks
end GC

/-- what holds all through a method's body -/
def gC (p : Program) (s : State) (m : MethodId) (args : Array Value) (c : Code) (cc : ByteArray) (own : String) (n : Nat) (D : va_G) (ci cz : ClassId) (tr : List (ClassId × FieldType)) (A : Nat → Prop) : Prop :=
  p.tables.exec = Jvm.exec ∧ c.code = cc ∧ c.maxLocals = n ∧ s.vm.findClass own = some m.cls ∧ (∀ w ∈ tt, w.before args s = true) ∧ gK D ci cz tr s ∧ gZ A s s.heap ∧ (∀ q : Nat, s.heap.size ≤ q → A q)

theorem gmet_i {l : Launch} {y : MethodName} {cc : ByteArray} {n fr lc : Nat} {D : va_G} {ci cz : ClassId} {tr : List (ClassId × FieldType)} {W0 : va_W} {sz : Nat} {av : List Value} {PW : Int32 → va_W → Prop} (own : String) (hy : plainName y.cls = true) (hown : y.cls = own) (hlen : (lg_sl av).length ≤ n)
    (body : ∀ (p : Program) (e : Env) (s : State) (m : MethodId) (args : Array Value) (below : List Frame) (meth : Method) (c : Code) (A : Nat → Prop) (R : Room) (Q : State → Prop), gC p s m args c cc own n D ci cz tr A → fr ≤ R.frames → lc ≤ R.locals → va_P D vwCl W0 s.heap → va_D A W0 →
      (∀ (r : Int32) (w : va_W) (H : Heap) (locs : List Loc) (pc : Nat) (ls : Array Slot), PW r w → va_P D vwCl w H → va_S A s.heap H locs → decode cc pc = .ok (.ireturn, 1) → W p l e R s m args below meth c H locs 0 0 Q (F0 m pc ls [.int r])) →
      ∀ ls : Array Slot, lv_has ls n (lv_args 0 av) → W p l e R s m args below meth c s.heap [] 0 0 Q (F0 m 0 ls [])) : gM l y cc n (some .int) fr lc D ci cz tr W0 sz av (gQi D W0 sz PW) := by
  refine Met.ofW (cc := cc) (maxL := n) (ret := some .int) hy rfl ?_
  intro p e s m args below meth c s₁ B hml hv
  obtain ⟨rfl, hsz, hP, hK, hD0, hZ⟩ := hv
  subst hsz
  have hts := atoms_spec (ws := Cond.code y cc n (some .int) :: tt) B.pre
  have hown' : s.vm.findClass y.cls = some m.cls := findClass_of_methodNamed B.named
  rw [hown] at hown'
  rw [lg_entry_eq]
  exact body p e s m _ below meth c (va_A W0 s.heap.size) _ _ ⟨B.exec, B.bytes, hml, hown', fun w h => hts w (List.mem_cons_of_mem _ h), hK, hZ, fun q h => Or.inr h⟩ (Nat.le_refl _) (Nat.le_refl _) hP hD0.self (fun r w H locs pc ls h1 h2 h3 h4 => gret_i B.exec B.bytes B.returns B.notSynchronized h2 h3 h1 h4) _ (lv_entry av hlen)

theorem gmet_z {l : Launch} {y : MethodName} {cc : ByteArray} {n fr lc : Nat} {D : va_G} {ci cz : ClassId} {tr : List (ClassId × FieldType)} {W0 : va_W} {sz : Nat} {av : List Value} {PW : Int32 → va_W → Prop} (own : String) (hy : plainName y.cls = true) (hown : y.cls = own) (hlen : (lg_sl av).length ≤ n)
    (body : ∀ (p : Program) (e : Env) (s : State) (m : MethodId) (args : Array Value) (below : List Frame) (meth : Method) (c : Code) (A : Nat → Prop) (R : Room) (Q : State → Prop), gC p s m args c cc own n D ci cz tr A → fr ≤ R.frames → lc ≤ R.locals → va_P D vwCl W0 s.heap → va_D A W0 →
      (∀ (r : Int32) (w : va_W) (H : Heap) (locs : List Loc) (pc : Nat) (ls : Array Slot), (r = 0 ∨ r = 1) → PW r w → va_P D vwCl w H → va_S A s.heap H locs → decode cc pc = .ok (.ireturn, 1) → W p l e R s m args below meth c H locs 0 0 Q (F0 m pc ls [.int r])) →
      ∀ ls : Array Slot, lv_has ls n (lv_args 0 av) → W p l e R s m args below meth c s.heap [] 0 0 Q (F0 m 0 ls [])) : gM l y cc n (some .boolean) fr lc D ci cz tr W0 sz av (gQi D W0 sz PW) := by
  refine Met.ofW (cc := cc) (maxL := n) (ret := some .boolean) hy rfl ?_
  intro p e s m args below meth c s₁ B hml hv
  obtain ⟨rfl, hsz, hP, hK, hD0, hZ⟩ := hv
  subst hsz
  have hts := atoms_spec (ws := Cond.code y cc n (some .boolean) :: tt) B.pre
  have hown' : s.vm.findClass y.cls = some m.cls := findClass_of_methodNamed B.named
  rw [hown] at hown'
  rw [lg_entry_eq]
  exact body p e s m _ below meth c (va_A W0 s.heap.size) _ _ ⟨B.exec, B.bytes, hml, hown', fun w h => hts w (List.mem_cons_of_mem _ h), hK, hZ, fun q h => Or.inr h⟩ (Nat.le_refl _) (Nat.le_refl _) hP hD0.self (fun r w H locs pc ls h0 h1 h2 h3 h4 => gret_z B.exec B.bytes B.returns B.notSynchronized h0 h2 h3 h1 h4) _ (lv_entry av hlen)

theorem gmet_l {l : Launch} {y : MethodName} {cc : ByteArray} {n fr lc : Nat} {D : va_G} {ci cz : ClassId} {tr : List (ClassId × FieldType)} {W0 : va_W} {sz : Nat} {av : List Value} {PW : Int64 → va_W → Prop} (own : String) (hy : plainName y.cls = true) (hown : y.cls = own) (hlen : (lg_sl av).length ≤ n)
    (body : ∀ (p : Program) (e : Env) (s : State) (m : MethodId) (args : Array Value) (below : List Frame) (meth : Method) (c : Code) (A : Nat → Prop) (R : Room) (Q : State → Prop), gC p s m args c cc own n D ci cz tr A → fr ≤ R.frames → lc ≤ R.locals → va_P D vwCl W0 s.heap → va_D A W0 →
      (∀ (r : Int64) (w : va_W) (H : Heap) (locs : List Loc) (pc : Nat) (ls : Array Slot), PW r w → va_P D vwCl w H → va_S A s.heap H locs → decode cc pc = .ok (.lreturn, 1) → W p l e R s m args below meth c H locs 0 0 Q (F0 m pc ls [.long r])) →
      ∀ ls : Array Slot, lv_has ls n (lv_args 0 av) → W p l e R s m args below meth c s.heap [] 0 0 Q (F0 m 0 ls [])) : gM l y cc n (some .long) fr lc D ci cz tr W0 sz av (gQl D W0 sz PW) := by
  refine Met.ofW (cc := cc) (maxL := n) (ret := some .long) hy rfl ?_
  intro p e s m args below meth c s₁ B hml hv
  obtain ⟨rfl, hsz, hP, hK, hD0, hZ⟩ := hv
  subst hsz
  have hts := atoms_spec (ws := Cond.code y cc n (some .long) :: tt) B.pre
  have hown' : s.vm.findClass y.cls = some m.cls := findClass_of_methodNamed B.named
  rw [hown] at hown'
  rw [lg_entry_eq]
  exact body p e s m _ below meth c (va_A W0 s.heap.size) _ _ ⟨B.exec, B.bytes, hml, hown', fun w h => hts w (List.mem_cons_of_mem _ h), hK, hZ, fun q h => Or.inr h⟩ (Nat.le_refl _) (Nat.le_refl _) hP hD0.self (fun r w H locs pc ls h1 h2 h3 h4 => gret_l B.exec B.bytes B.returns B.notSynchronized h2 h3 h1 h4) _ (lv_entry av hlen)

theorem gmet_v {l : Launch} {y : MethodName} {cc : ByteArray} {n fr lc : Nat} {D : va_G} {ci cz : ClassId} {tr : List (ClassId × FieldType)} {W0 : va_W} {sz : Nat} {av : List Value} {PW : va_W → Prop} (own : String) (hy : plainName y.cls = true) (hown : y.cls = own) (hlen : (lg_sl av).length ≤ n)
    (body : ∀ (p : Program) (e : Env) (s : State) (m : MethodId) (args : Array Value) (below : List Frame) (meth : Method) (c : Code) (A : Nat → Prop) (R : Room) (Q : State → Prop), gC p s m args c cc own n D ci cz tr A → fr ≤ R.frames → lc ≤ R.locals → va_P D vwCl W0 s.heap → va_D A W0 →
      (∀ (w : va_W) (H : Heap) (locs : List Loc) (pc : Nat) (ls : Array Slot), PW w → va_P D vwCl w H → va_S A s.heap H locs → decode cc pc = .ok (.return_, 1) → W p l e R s m args below meth c H locs 0 0 Q (F0 m pc ls [])) →
      ∀ ls : Array Slot, lv_has ls n (lv_args 0 av) → W p l e R s m args below meth c s.heap [] 0 0 Q (F0 m 0 ls [])) : gM l y cc n (none) fr lc D ci cz tr W0 sz av (gQv D W0 sz PW) := by
  refine Met.ofW (cc := cc) (maxL := n) (ret := none) hy rfl ?_
  intro p e s m args below meth c s₁ B hml hv
  obtain ⟨rfl, hsz, hP, hK, hD0, hZ⟩ := hv
  subst hsz
  have hts := atoms_spec (ws := Cond.code y cc n (none) :: tt) B.pre
  have hown' : s.vm.findClass y.cls = some m.cls := findClass_of_methodNamed B.named
  rw [hown] at hown'
  rw [lg_entry_eq]
  exact body p e s m _ below meth c (va_A W0 s.heap.size) _ _ ⟨B.exec, B.bytes, hml, hown', fun w h => hts w (List.mem_cons_of_mem _ h), hK, hZ, fun q h => Or.inr h⟩ (Nat.le_refl _) (Nat.le_refl _) hP hD0.self (fun w H locs pc ls h1 h2 h3 h4 => gret_v B.exec B.bytes B.returns B.notSynchronized h2 h3 h1 h4) _ (lv_entry av hlen)

theorem g_in {A : Nat → Prop} {D : va_G} {ws : va_W} {s : State} (G : Heap → List Loc → Prop) (h : ∀ (H : Heap) (locs : List Loc), va_S A s.heap H locs → va_P D vwCl ws H → G H locs) (hP : va_P D vwCl ws s.heap) (hS : va_S A s.heap s.heap []) : G s.heap [] := h _ _ hS hP
theorem mQ_X11_11 : (Jvm.Cond.methodLinkNest "DogVotes" (11 : Nat) ({ cls := "DogVotes$Pad", name := "<init>", desc := "()V" } : Jvm.MethodName) "DogVotes") ∈ lw_tbl := List.mem_append_right _ (List.mem_append_left _ (List.mem_of_getElem? (i := 27) rfl))
theorem mQ_X7_17 : (Jvm.Cond.methodLinkNest "DogVotes$Pad" (17 : Nat) ({ cls := "DogVotes$Roll", name := "<init>", desc := "()V" } : Jvm.MethodName) "DogVotes") ∈ lw_tbl := List.mem_append_right _ (List.mem_append_left _ (List.mem_of_getElem? (i := 33) rfl))
theorem mQ_X11_18 : (Jvm.Cond.methodLinkNest "DogVotes" (18 : Nat) ({ cls := "DogVotes$Parish", name := "<init>", desc := "()V" } : Jvm.MethodName) "DogVotes") ∈ lw_tbl := List.mem_append_right _ (List.mem_append_left _ (List.mem_of_getElem? (i := 100) rfl))
theorem mQ_X8_11 : (Jvm.Cond.methodLinkNest "DogVotes$Parish" (11 : Nat) ({ cls := "DogVotes$Roll", name := "<init>", desc := "()V" } : Jvm.MethodName) "DogVotes") ∈ lw_tbl := List.mem_append_right _ (List.mem_append_left _ (List.mem_of_getElem? (i := 105) rfl))
theorem mQ_X11_29 : (Jvm.Cond.methodLinkNest "DogVotes" (29 : Nat) ({ cls := "DogVotes$Ballot", name := "<init>", desc := "()V" } : Jvm.MethodName) "DogVotes") ∈ lw_tbl := List.mem_append_right _ (List.mem_append_left _ (List.mem_of_getElem? (i := 160) rfl))
theorem mQ_X11_36 : (Jvm.Cond.methodLinkNest "DogVotes" (36 : Nat) ({ cls := "DogVotes$Bargain", name := "<init>", desc := "()V" } : Jvm.MethodName) "DogVotes") ∈ lw_tbl := List.mem_append_right _ (List.mem_append_left _ (List.mem_of_getElem? (i := 185) rfl))
theorem mQ_X1_11 : (Jvm.Cond.methodLinkNest "DogVotes$Bargain" (11 : Nat) ({ cls := "DogVotes$Ballot", name := "<init>", desc := "()V" } : Jvm.MethodName) "DogVotes") ∈ lw_tbl := List.mem_append_right _ (List.mem_append_left _ (List.mem_of_getElem? (i := 190) rfl))
theorem mQ_X11_43 : (Jvm.Cond.methodLinkNest "DogVotes" (43 : Nat) ({ cls := "DogVotes$Gate", name := "<init>", desc := "()V" } : Jvm.MethodName) "DogVotes") ∈ lw_tbl := List.mem_append_right _ (List.mem_append_left _ (List.mem_of_getElem? (i := 200) rfl))
theorem mQ_X4_17 : (Jvm.Cond.methodLinkNest "DogVotes$Gate" (17 : Nat) ({ cls := "DogVotes$Orders", name := "<init>", desc := "()V" } : Jvm.MethodName) "DogVotes") ∈ lw_tbl := List.mem_append_right _ (List.mem_append_left _ (List.mem_of_getElem? (i := 206) rfl))
theorem mQ_X4_24 : (Jvm.Cond.methodLinkNest "DogVotes$Gate" (24 : Nat) ({ cls := "DogVotes$Ballot", name := "<init>", desc := "()V" } : Jvm.MethodName) "DogVotes") ∈ lw_tbl := List.mem_append_right _ (List.mem_append_left _ (List.mem_of_getElem? (i := 222) rfl))
theorem mQ_X11_50 : (Jvm.Cond.methodLinkNest "DogVotes" (50 : Nat) ({ cls := "DogVotes$Guesses", name := "<init>", desc := "()V" } : Jvm.MethodName) "DogVotes") ∈ lw_tbl := List.mem_append_right _ (List.mem_append_right _ (List.mem_append_left _ (List.mem_of_getElem? (i := 7) rfl)))
theorem mQ_X5_26 : (Jvm.Cond.methodLinkNest "DogVotes$Guesses" (26 : Nat) ({ cls := "DogVotes$Roll", name := "<init>", desc := "()V" } : Jvm.MethodName) "DogVotes") ∈ lw_tbl := List.mem_append_right _ (List.mem_append_right _ (List.mem_append_left _ (List.mem_of_getElem? (i := 12) rfl)))
theorem mQ_X5_33 : (Jvm.Cond.methodLinkNest "DogVotes$Guesses" (33 : Nat) ({ cls := "DogVotes$Ballot", name := "<init>", desc := "()V" } : Jvm.MethodName) "DogVotes") ∈ lw_tbl := List.mem_append_right _ (List.mem_append_right _ (List.mem_append_left _ (List.mem_of_getElem? (i := 14) rfl)))
theorem mQ_X11_57 : (Jvm.Cond.methodLinkNest "DogVotes" (57 : Nat) ({ cls := "DogVotes$Evenings", name := "<init>", desc := "()V" } : Jvm.MethodName) "DogVotes") ∈ lw_tbl := List.mem_append_right _ (List.mem_append_right _ (List.mem_append_left _ (List.mem_of_getElem? (i := 51) rfl)))
theorem mQ_X3_17 : (Jvm.Cond.methodLinkNest "DogVotes$Evenings" (17 : Nat) ({ cls := "DogVotes$Orders", name := "<init>", desc := "()V" } : Jvm.MethodName) "DogVotes") ∈ lw_tbl := List.mem_append_right _ (List.mem_append_right _ (List.mem_append_left _ (List.mem_of_getElem? (i := 56) rfl)))
theorem mQ_X3_24 : (Jvm.Cond.methodLinkNest "DogVotes$Evenings" (24 : Nat) ({ cls := "DogVotes$Ballot", name := "<init>", desc := "()V" } : Jvm.MethodName) "DogVotes") ∈ lw_tbl := List.mem_append_right _ (List.mem_append_right _ (List.mem_append_left _ (List.mem_of_getElem? (i := 58) rfl)))
theorem mQ_X6_28 : (Jvm.Cond.methodLinkNest "DogVotes$Orders" (28 : Nat) ({ cls := "DogVotes", name := "factorial", desc := "(I)I" } : Jvm.MethodName) "DogVotes") ∈ lw_tbl := List.mem_append_right _ (List.mem_append_right _ (List.mem_append_right _ (List.mem_append_left _ (List.mem_of_getElem? (i := 69) rfl))))
theorem mQ_X2_40 : (Jvm.Cond.methodLinkNest "DogVotes$Deciders" (40 : Nat) ({ cls := "DogVotes", name := "factorial", desc := "(I)I" } : Jvm.MethodName) "DogVotes") ∈ lw_tbl := List.mem_append_right _ (List.mem_append_right _ (List.mem_append_right _ (List.mem_append_left _ (List.mem_of_getElem? (i := 105) rfl))))
theorem wlp1 {A0 : Type} {bot : A0 → Prop} {F : (A0 → Prop) → A0 → Prop} (I : A0 → Prop) (μ : A0 → Nat) (hs : ∀ (a0 : A0) (again : A0 → Prop), I a0 → (∀ (b0 : A0), I b0 → μ b0 < μ a0 → again b0) → F again a0) : ∀ (a0 : A0), I a0 → ∃ n : Nat, wl bot F n a0 := by
  have key : ∀ (n : Nat) (a0 : A0), μ a0 < n → I a0 → wl bot F n a0 := by
    intro n
    induction n with
    | zero => intro a0 h; exact absurd h (Nat.not_lt_zero _)
    | succ n ih => intro a0 h hI; exact hs a0 _ hI (fun b0 hb h2 => ih b0 (Nat.lt_of_lt_of_le h2 (Nat.le_of_lt_succ h)) hb)
  intro a0 hI
  exact ⟨_, key _ a0 (Nat.lt_succ_self _) hI⟩
theorem lop1 {A0 : Type} {bot : A0 → Prop} {F : (A0 → Prop) → A0 → Prop} (I : A0 → Prop) (μ : A0 → Nat) (hs : ∀ (a0 : A0) (again : A0 → Prop), I a0 → (∀ (b0 : A0), I b0 → μ b0 < μ a0 → again b0) → F again a0) (a0 : A0) (hI : I a0) : lo bot F (fun r => r a0) := wlp1 I μ hs a0 hI
theorem wlp2 {A0 A1 : Type} {bot : A0 → A1 → Prop} {F : (A0 → A1 → Prop) → A0 → A1 → Prop} (I : A0 → A1 → Prop) (μ : A0 → A1 → Nat) (hs : ∀ (a0 : A0) (a1 : A1) (again : A0 → A1 → Prop), I a0 a1 → (∀ (b0 : A0) (b1 : A1), I b0 b1 → μ b0 b1 < μ a0 a1 → again b0 b1) → F again a0 a1) : ∀ (a0 : A0) (a1 : A1), I a0 a1 → ∃ n : Nat, wl bot F n a0 a1 := by
  have key : ∀ (n : Nat) (a0 : A0) (a1 : A1), μ a0 a1 < n → I a0 a1 → wl bot F n a0 a1 := by
    intro n
    induction n with
    | zero => intro a0 a1 h; exact absurd h (Nat.not_lt_zero _)
    | succ n ih => intro a0 a1 h hI; exact hs a0 a1 _ hI (fun b0 b1 hb h2 => ih b0 b1 (Nat.lt_of_lt_of_le h2 (Nat.le_of_lt_succ h)) hb)
  intro a0 a1 hI
  exact ⟨_, key _ a0 a1 (Nat.lt_succ_self _) hI⟩
theorem lop2 {A0 A1 : Type} {bot : A0 → A1 → Prop} {F : (A0 → A1 → Prop) → A0 → A1 → Prop} (I : A0 → A1 → Prop) (μ : A0 → A1 → Nat) (hs : ∀ (a0 : A0) (a1 : A1) (again : A0 → A1 → Prop), I a0 a1 → (∀ (b0 : A0) (b1 : A1), I b0 b1 → μ b0 b1 < μ a0 a1 → again b0 b1) → F again a0 a1) (a0 : A0) (a1 : A1) (hI : I a0 a1) : lo bot F (fun r => r a0 a1) := wlp2 I μ hs a0 a1 hI
theorem wlp3 {A0 A1 A2 : Type} {bot : A0 → A1 → A2 → Prop} {F : (A0 → A1 → A2 → Prop) → A0 → A1 → A2 → Prop} (I : A0 → A1 → A2 → Prop) (μ : A0 → A1 → A2 → Nat) (hs : ∀ (a0 : A0) (a1 : A1) (a2 : A2) (again : A0 → A1 → A2 → Prop), I a0 a1 a2 → (∀ (b0 : A0) (b1 : A1) (b2 : A2), I b0 b1 b2 → μ b0 b1 b2 < μ a0 a1 a2 → again b0 b1 b2) → F again a0 a1 a2) : ∀ (a0 : A0) (a1 : A1) (a2 : A2), I a0 a1 a2 → ∃ n : Nat, wl bot F n a0 a1 a2 := by
  have key : ∀ (n : Nat) (a0 : A0) (a1 : A1) (a2 : A2), μ a0 a1 a2 < n → I a0 a1 a2 → wl bot F n a0 a1 a2 := by
    intro n
    induction n with
    | zero => intro a0 a1 a2 h; exact absurd h (Nat.not_lt_zero _)
    | succ n ih => intro a0 a1 a2 h hI; exact hs a0 a1 a2 _ hI (fun b0 b1 b2 hb h2 => ih b0 b1 b2 (Nat.lt_of_lt_of_le h2 (Nat.le_of_lt_succ h)) hb)
  intro a0 a1 a2 hI
  exact ⟨_, key _ a0 a1 a2 (Nat.lt_succ_self _) hI⟩
theorem lop3 {A0 A1 A2 : Type} {bot : A0 → A1 → A2 → Prop} {F : (A0 → A1 → A2 → Prop) → A0 → A1 → A2 → Prop} (I : A0 → A1 → A2 → Prop) (μ : A0 → A1 → A2 → Nat) (hs : ∀ (a0 : A0) (a1 : A1) (a2 : A2) (again : A0 → A1 → A2 → Prop), I a0 a1 a2 → (∀ (b0 : A0) (b1 : A1) (b2 : A2), I b0 b1 b2 → μ b0 b1 b2 < μ a0 a1 a2 → again b0 b1 b2) → F again a0 a1 a2) (a0 : A0) (a1 : A1) (a2 : A2) (hI : I a0 a1 a2) : lo bot F (fun r => r a0 a1 a2) := wlp3 I μ hs a0 a1 a2 hI
theorem wlp4 {A0 A1 A2 A3 : Type} {bot : A0 → A1 → A2 → A3 → Prop} {F : (A0 → A1 → A2 → A3 → Prop) → A0 → A1 → A2 → A3 → Prop} (I : A0 → A1 → A2 → A3 → Prop) (μ : A0 → A1 → A2 → A3 → Nat) (hs : ∀ (a0 : A0) (a1 : A1) (a2 : A2) (a3 : A3) (again : A0 → A1 → A2 → A3 → Prop), I a0 a1 a2 a3 → (∀ (b0 : A0) (b1 : A1) (b2 : A2) (b3 : A3), I b0 b1 b2 b3 → μ b0 b1 b2 b3 < μ a0 a1 a2 a3 → again b0 b1 b2 b3) → F again a0 a1 a2 a3) : ∀ (a0 : A0) (a1 : A1) (a2 : A2) (a3 : A3), I a0 a1 a2 a3 → ∃ n : Nat, wl bot F n a0 a1 a2 a3 := by
  have key : ∀ (n : Nat) (a0 : A0) (a1 : A1) (a2 : A2) (a3 : A3), μ a0 a1 a2 a3 < n → I a0 a1 a2 a3 → wl bot F n a0 a1 a2 a3 := by
    intro n
    induction n with
    | zero => intro a0 a1 a2 a3 h; exact absurd h (Nat.not_lt_zero _)
    | succ n ih => intro a0 a1 a2 a3 h hI; exact hs a0 a1 a2 a3 _ hI (fun b0 b1 b2 b3 hb h2 => ih b0 b1 b2 b3 (Nat.lt_of_lt_of_le h2 (Nat.le_of_lt_succ h)) hb)
  intro a0 a1 a2 a3 hI
  exact ⟨_, key _ a0 a1 a2 a3 (Nat.lt_succ_self _) hI⟩
theorem lop4 {A0 A1 A2 A3 : Type} {bot : A0 → A1 → A2 → A3 → Prop} {F : (A0 → A1 → A2 → A3 → Prop) → A0 → A1 → A2 → A3 → Prop} (I : A0 → A1 → A2 → A3 → Prop) (μ : A0 → A1 → A2 → A3 → Nat) (hs : ∀ (a0 : A0) (a1 : A1) (a2 : A2) (a3 : A3) (again : A0 → A1 → A2 → A3 → Prop), I a0 a1 a2 a3 → (∀ (b0 : A0) (b1 : A1) (b2 : A2) (b3 : A3), I b0 b1 b2 b3 → μ b0 b1 b2 b3 < μ a0 a1 a2 a3 → again b0 b1 b2 b3) → F again a0 a1 a2 a3) (a0 : A0) (a1 : A1) (a2 : A2) (a3 : A3) (hI : I a0 a1 a2 a3) : lo bot F (fun r => r a0 a1 a2 a3) := wlp4 I μ hs a0 a1 a2 a3 hI
theorem wlp5 {A0 A1 A2 A3 A4 : Type} {bot : A0 → A1 → A2 → A3 → A4 → Prop} {F : (A0 → A1 → A2 → A3 → A4 → Prop) → A0 → A1 → A2 → A3 → A4 → Prop} (I : A0 → A1 → A2 → A3 → A4 → Prop) (μ : A0 → A1 → A2 → A3 → A4 → Nat) (hs : ∀ (a0 : A0) (a1 : A1) (a2 : A2) (a3 : A3) (a4 : A4) (again : A0 → A1 → A2 → A3 → A4 → Prop), I a0 a1 a2 a3 a4 → (∀ (b0 : A0) (b1 : A1) (b2 : A2) (b3 : A3) (b4 : A4), I b0 b1 b2 b3 b4 → μ b0 b1 b2 b3 b4 < μ a0 a1 a2 a3 a4 → again b0 b1 b2 b3 b4) → F again a0 a1 a2 a3 a4) : ∀ (a0 : A0) (a1 : A1) (a2 : A2) (a3 : A3) (a4 : A4), I a0 a1 a2 a3 a4 → ∃ n : Nat, wl bot F n a0 a1 a2 a3 a4 := by
  have key : ∀ (n : Nat) (a0 : A0) (a1 : A1) (a2 : A2) (a3 : A3) (a4 : A4), μ a0 a1 a2 a3 a4 < n → I a0 a1 a2 a3 a4 → wl bot F n a0 a1 a2 a3 a4 := by
    intro n
    induction n with
    | zero => intro a0 a1 a2 a3 a4 h; exact absurd h (Nat.not_lt_zero _)
    | succ n ih => intro a0 a1 a2 a3 a4 h hI; exact hs a0 a1 a2 a3 a4 _ hI (fun b0 b1 b2 b3 b4 hb h2 => ih b0 b1 b2 b3 b4 (Nat.lt_of_lt_of_le h2 (Nat.le_of_lt_succ h)) hb)
  intro a0 a1 a2 a3 a4 hI
  exact ⟨_, key _ a0 a1 a2 a3 a4 (Nat.lt_succ_self _) hI⟩
theorem lop5 {A0 A1 A2 A3 A4 : Type} {bot : A0 → A1 → A2 → A3 → A4 → Prop} {F : (A0 → A1 → A2 → A3 → A4 → Prop) → A0 → A1 → A2 → A3 → A4 → Prop} (I : A0 → A1 → A2 → A3 → A4 → Prop) (μ : A0 → A1 → A2 → A3 → A4 → Nat) (hs : ∀ (a0 : A0) (a1 : A1) (a2 : A2) (a3 : A3) (a4 : A4) (again : A0 → A1 → A2 → A3 → A4 → Prop), I a0 a1 a2 a3 a4 → (∀ (b0 : A0) (b1 : A1) (b2 : A2) (b3 : A3) (b4 : A4), I b0 b1 b2 b3 b4 → μ b0 b1 b2 b3 b4 < μ a0 a1 a2 a3 a4 → again b0 b1 b2 b3 b4) → F again a0 a1 a2 a3 a4) (a0 : A0) (a1 : A1) (a2 : A2) (a3 : A3) (a4 : A4) (hI : I a0 a1 a2 a3 a4) : lo bot F (fun r => r a0 a1 a2 a3 a4) := wlp5 I μ hs a0 a1 a2 a3 a4 hI
theorem wlp6 {A0 A1 A2 A3 A4 A5 : Type} {bot : A0 → A1 → A2 → A3 → A4 → A5 → Prop} {F : (A0 → A1 → A2 → A3 → A4 → A5 → Prop) → A0 → A1 → A2 → A3 → A4 → A5 → Prop} (I : A0 → A1 → A2 → A3 → A4 → A5 → Prop) (μ : A0 → A1 → A2 → A3 → A4 → A5 → Nat) (hs : ∀ (a0 : A0) (a1 : A1) (a2 : A2) (a3 : A3) (a4 : A4) (a5 : A5) (again : A0 → A1 → A2 → A3 → A4 → A5 → Prop), I a0 a1 a2 a3 a4 a5 → (∀ (b0 : A0) (b1 : A1) (b2 : A2) (b3 : A3) (b4 : A4) (b5 : A5), I b0 b1 b2 b3 b4 b5 → μ b0 b1 b2 b3 b4 b5 < μ a0 a1 a2 a3 a4 a5 → again b0 b1 b2 b3 b4 b5) → F again a0 a1 a2 a3 a4 a5) : ∀ (a0 : A0) (a1 : A1) (a2 : A2) (a3 : A3) (a4 : A4) (a5 : A5), I a0 a1 a2 a3 a4 a5 → ∃ n : Nat, wl bot F n a0 a1 a2 a3 a4 a5 := by
  have key : ∀ (n : Nat) (a0 : A0) (a1 : A1) (a2 : A2) (a3 : A3) (a4 : A4) (a5 : A5), μ a0 a1 a2 a3 a4 a5 < n → I a0 a1 a2 a3 a4 a5 → wl bot F n a0 a1 a2 a3 a4 a5 := by
    intro n
    induction n with
    | zero => intro a0 a1 a2 a3 a4 a5 h; exact absurd h (Nat.not_lt_zero _)
    | succ n ih => intro a0 a1 a2 a3 a4 a5 h hI; exact hs a0 a1 a2 a3 a4 a5 _ hI (fun b0 b1 b2 b3 b4 b5 hb h2 => ih b0 b1 b2 b3 b4 b5 (Nat.lt_of_lt_of_le h2 (Nat.le_of_lt_succ h)) hb)
  intro a0 a1 a2 a3 a4 a5 hI
  exact ⟨_, key _ a0 a1 a2 a3 a4 a5 (Nat.lt_succ_self _) hI⟩
theorem lop6 {A0 A1 A2 A3 A4 A5 : Type} {bot : A0 → A1 → A2 → A3 → A4 → A5 → Prop} {F : (A0 → A1 → A2 → A3 → A4 → A5 → Prop) → A0 → A1 → A2 → A3 → A4 → A5 → Prop} (I : A0 → A1 → A2 → A3 → A4 → A5 → Prop) (μ : A0 → A1 → A2 → A3 → A4 → A5 → Nat) (hs : ∀ (a0 : A0) (a1 : A1) (a2 : A2) (a3 : A3) (a4 : A4) (a5 : A5) (again : A0 → A1 → A2 → A3 → A4 → A5 → Prop), I a0 a1 a2 a3 a4 a5 → (∀ (b0 : A0) (b1 : A1) (b2 : A2) (b3 : A3) (b4 : A4) (b5 : A5), I b0 b1 b2 b3 b4 b5 → μ b0 b1 b2 b3 b4 b5 < μ a0 a1 a2 a3 a4 a5 → again b0 b1 b2 b3 b4 b5) → F again a0 a1 a2 a3 a4 a5) (a0 : A0) (a1 : A1) (a2 : A2) (a3 : A3) (a4 : A4) (a5 : A5) (hI : I a0 a1 a2 a3 a4 a5) : lo bot F (fun r => r a0 a1 a2 a3 a4 a5) := wlp6 I μ hs a0 a1 a2 a3 a4 a5 hI
theorem wlp7 {A0 A1 A2 A3 A4 A5 A6 : Type} {bot : A0 → A1 → A2 → A3 → A4 → A5 → A6 → Prop} {F : (A0 → A1 → A2 → A3 → A4 → A5 → A6 → Prop) → A0 → A1 → A2 → A3 → A4 → A5 → A6 → Prop} (I : A0 → A1 → A2 → A3 → A4 → A5 → A6 → Prop) (μ : A0 → A1 → A2 → A3 → A4 → A5 → A6 → Nat) (hs : ∀ (a0 : A0) (a1 : A1) (a2 : A2) (a3 : A3) (a4 : A4) (a5 : A5) (a6 : A6) (again : A0 → A1 → A2 → A3 → A4 → A5 → A6 → Prop), I a0 a1 a2 a3 a4 a5 a6 → (∀ (b0 : A0) (b1 : A1) (b2 : A2) (b3 : A3) (b4 : A4) (b5 : A5) (b6 : A6), I b0 b1 b2 b3 b4 b5 b6 → μ b0 b1 b2 b3 b4 b5 b6 < μ a0 a1 a2 a3 a4 a5 a6 → again b0 b1 b2 b3 b4 b5 b6) → F again a0 a1 a2 a3 a4 a5 a6) : ∀ (a0 : A0) (a1 : A1) (a2 : A2) (a3 : A3) (a4 : A4) (a5 : A5) (a6 : A6), I a0 a1 a2 a3 a4 a5 a6 → ∃ n : Nat, wl bot F n a0 a1 a2 a3 a4 a5 a6 := by
  have key : ∀ (n : Nat) (a0 : A0) (a1 : A1) (a2 : A2) (a3 : A3) (a4 : A4) (a5 : A5) (a6 : A6), μ a0 a1 a2 a3 a4 a5 a6 < n → I a0 a1 a2 a3 a4 a5 a6 → wl bot F n a0 a1 a2 a3 a4 a5 a6 := by
    intro n
    induction n with
    | zero => intro a0 a1 a2 a3 a4 a5 a6 h; exact absurd h (Nat.not_lt_zero _)
    | succ n ih => intro a0 a1 a2 a3 a4 a5 a6 h hI; exact hs a0 a1 a2 a3 a4 a5 a6 _ hI (fun b0 b1 b2 b3 b4 b5 b6 hb h2 => ih b0 b1 b2 b3 b4 b5 b6 (Nat.lt_of_lt_of_le h2 (Nat.le_of_lt_succ h)) hb)
  intro a0 a1 a2 a3 a4 a5 a6 hI
  exact ⟨_, key _ a0 a1 a2 a3 a4 a5 a6 (Nat.lt_succ_self _) hI⟩
theorem lop7 {A0 A1 A2 A3 A4 A5 A6 : Type} {bot : A0 → A1 → A2 → A3 → A4 → A5 → A6 → Prop} {F : (A0 → A1 → A2 → A3 → A4 → A5 → A6 → Prop) → A0 → A1 → A2 → A3 → A4 → A5 → A6 → Prop} (I : A0 → A1 → A2 → A3 → A4 → A5 → A6 → Prop) (μ : A0 → A1 → A2 → A3 → A4 → A5 → A6 → Nat) (hs : ∀ (a0 : A0) (a1 : A1) (a2 : A2) (a3 : A3) (a4 : A4) (a5 : A5) (a6 : A6) (again : A0 → A1 → A2 → A3 → A4 → A5 → A6 → Prop), I a0 a1 a2 a3 a4 a5 a6 → (∀ (b0 : A0) (b1 : A1) (b2 : A2) (b3 : A3) (b4 : A4) (b5 : A5) (b6 : A6), I b0 b1 b2 b3 b4 b5 b6 → μ b0 b1 b2 b3 b4 b5 b6 < μ a0 a1 a2 a3 a4 a5 a6 → again b0 b1 b2 b3 b4 b5 b6) → F again a0 a1 a2 a3 a4 a5 a6) (a0 : A0) (a1 : A1) (a2 : A2) (a3 : A3) (a4 : A4) (a5 : A5) (a6 : A6) (hI : I a0 a1 a2 a3 a4 a5 a6) : lo bot F (fun r => r a0 a1 a2 a3 a4 a5 a6) := wlp7 I μ hs a0 a1 a2 a3 a4 a5 a6 hI
theorem wlp8 {A0 A1 A2 A3 A4 A5 A6 A7 : Type} {bot : A0 → A1 → A2 → A3 → A4 → A5 → A6 → A7 → Prop} {F : (A0 → A1 → A2 → A3 → A4 → A5 → A6 → A7 → Prop) → A0 → A1 → A2 → A3 → A4 → A5 → A6 → A7 → Prop} (I : A0 → A1 → A2 → A3 → A4 → A5 → A6 → A7 → Prop) (μ : A0 → A1 → A2 → A3 → A4 → A5 → A6 → A7 → Nat) (hs : ∀ (a0 : A0) (a1 : A1) (a2 : A2) (a3 : A3) (a4 : A4) (a5 : A5) (a6 : A6) (a7 : A7) (again : A0 → A1 → A2 → A3 → A4 → A5 → A6 → A7 → Prop), I a0 a1 a2 a3 a4 a5 a6 a7 → (∀ (b0 : A0) (b1 : A1) (b2 : A2) (b3 : A3) (b4 : A4) (b5 : A5) (b6 : A6) (b7 : A7), I b0 b1 b2 b3 b4 b5 b6 b7 → μ b0 b1 b2 b3 b4 b5 b6 b7 < μ a0 a1 a2 a3 a4 a5 a6 a7 → again b0 b1 b2 b3 b4 b5 b6 b7) → F again a0 a1 a2 a3 a4 a5 a6 a7) : ∀ (a0 : A0) (a1 : A1) (a2 : A2) (a3 : A3) (a4 : A4) (a5 : A5) (a6 : A6) (a7 : A7), I a0 a1 a2 a3 a4 a5 a6 a7 → ∃ n : Nat, wl bot F n a0 a1 a2 a3 a4 a5 a6 a7 := by
  have key : ∀ (n : Nat) (a0 : A0) (a1 : A1) (a2 : A2) (a3 : A3) (a4 : A4) (a5 : A5) (a6 : A6) (a7 : A7), μ a0 a1 a2 a3 a4 a5 a6 a7 < n → I a0 a1 a2 a3 a4 a5 a6 a7 → wl bot F n a0 a1 a2 a3 a4 a5 a6 a7 := by
    intro n
    induction n with
    | zero => intro a0 a1 a2 a3 a4 a5 a6 a7 h; exact absurd h (Nat.not_lt_zero _)
    | succ n ih => intro a0 a1 a2 a3 a4 a5 a6 a7 h hI; exact hs a0 a1 a2 a3 a4 a5 a6 a7 _ hI (fun b0 b1 b2 b3 b4 b5 b6 b7 hb h2 => ih b0 b1 b2 b3 b4 b5 b6 b7 (Nat.lt_of_lt_of_le h2 (Nat.le_of_lt_succ h)) hb)
  intro a0 a1 a2 a3 a4 a5 a6 a7 hI
  exact ⟨_, key _ a0 a1 a2 a3 a4 a5 a6 a7 (Nat.lt_succ_self _) hI⟩
theorem lop8 {A0 A1 A2 A3 A4 A5 A6 A7 : Type} {bot : A0 → A1 → A2 → A3 → A4 → A5 → A6 → A7 → Prop} {F : (A0 → A1 → A2 → A3 → A4 → A5 → A6 → A7 → Prop) → A0 → A1 → A2 → A3 → A4 → A5 → A6 → A7 → Prop} (I : A0 → A1 → A2 → A3 → A4 → A5 → A6 → A7 → Prop) (μ : A0 → A1 → A2 → A3 → A4 → A5 → A6 → A7 → Nat) (hs : ∀ (a0 : A0) (a1 : A1) (a2 : A2) (a3 : A3) (a4 : A4) (a5 : A5) (a6 : A6) (a7 : A7) (again : A0 → A1 → A2 → A3 → A4 → A5 → A6 → A7 → Prop), I a0 a1 a2 a3 a4 a5 a6 a7 → (∀ (b0 : A0) (b1 : A1) (b2 : A2) (b3 : A3) (b4 : A4) (b5 : A5) (b6 : A6) (b7 : A7), I b0 b1 b2 b3 b4 b5 b6 b7 → μ b0 b1 b2 b3 b4 b5 b6 b7 < μ a0 a1 a2 a3 a4 a5 a6 a7 → again b0 b1 b2 b3 b4 b5 b6 b7) → F again a0 a1 a2 a3 a4 a5 a6 a7) (a0 : A0) (a1 : A1) (a2 : A2) (a3 : A3) (a4 : A4) (a5 : A5) (a6 : A6) (a7 : A7) (hI : I a0 a1 a2 a3 a4 a5 a6 a7) : lo bot F (fun r => r a0 a1 a2 a3 a4 a5 a6 a7) := wlp8 I μ hs a0 a1 a2 a3 a4 a5 a6 a7 hI
theorem wlp9 {A0 A1 A2 A3 A4 A5 A6 A7 A8 : Type} {bot : A0 → A1 → A2 → A3 → A4 → A5 → A6 → A7 → A8 → Prop} {F : (A0 → A1 → A2 → A3 → A4 → A5 → A6 → A7 → A8 → Prop) → A0 → A1 → A2 → A3 → A4 → A5 → A6 → A7 → A8 → Prop} (I : A0 → A1 → A2 → A3 → A4 → A5 → A6 → A7 → A8 → Prop) (μ : A0 → A1 → A2 → A3 → A4 → A5 → A6 → A7 → A8 → Nat) (hs : ∀ (a0 : A0) (a1 : A1) (a2 : A2) (a3 : A3) (a4 : A4) (a5 : A5) (a6 : A6) (a7 : A7) (a8 : A8) (again : A0 → A1 → A2 → A3 → A4 → A5 → A6 → A7 → A8 → Prop), I a0 a1 a2 a3 a4 a5 a6 a7 a8 → (∀ (b0 : A0) (b1 : A1) (b2 : A2) (b3 : A3) (b4 : A4) (b5 : A5) (b6 : A6) (b7 : A7) (b8 : A8), I b0 b1 b2 b3 b4 b5 b6 b7 b8 → μ b0 b1 b2 b3 b4 b5 b6 b7 b8 < μ a0 a1 a2 a3 a4 a5 a6 a7 a8 → again b0 b1 b2 b3 b4 b5 b6 b7 b8) → F again a0 a1 a2 a3 a4 a5 a6 a7 a8) : ∀ (a0 : A0) (a1 : A1) (a2 : A2) (a3 : A3) (a4 : A4) (a5 : A5) (a6 : A6) (a7 : A7) (a8 : A8), I a0 a1 a2 a3 a4 a5 a6 a7 a8 → ∃ n : Nat, wl bot F n a0 a1 a2 a3 a4 a5 a6 a7 a8 := by
  have key : ∀ (n : Nat) (a0 : A0) (a1 : A1) (a2 : A2) (a3 : A3) (a4 : A4) (a5 : A5) (a6 : A6) (a7 : A7) (a8 : A8), μ a0 a1 a2 a3 a4 a5 a6 a7 a8 < n → I a0 a1 a2 a3 a4 a5 a6 a7 a8 → wl bot F n a0 a1 a2 a3 a4 a5 a6 a7 a8 := by
    intro n
    induction n with
    | zero => intro a0 a1 a2 a3 a4 a5 a6 a7 a8 h; exact absurd h (Nat.not_lt_zero _)
    | succ n ih => intro a0 a1 a2 a3 a4 a5 a6 a7 a8 h hI; exact hs a0 a1 a2 a3 a4 a5 a6 a7 a8 _ hI (fun b0 b1 b2 b3 b4 b5 b6 b7 b8 hb h2 => ih b0 b1 b2 b3 b4 b5 b6 b7 b8 (Nat.lt_of_lt_of_le h2 (Nat.le_of_lt_succ h)) hb)
  intro a0 a1 a2 a3 a4 a5 a6 a7 a8 hI
  exact ⟨_, key _ a0 a1 a2 a3 a4 a5 a6 a7 a8 (Nat.lt_succ_self _) hI⟩
theorem lop9 {A0 A1 A2 A3 A4 A5 A6 A7 A8 : Type} {bot : A0 → A1 → A2 → A3 → A4 → A5 → A6 → A7 → A8 → Prop} {F : (A0 → A1 → A2 → A3 → A4 → A5 → A6 → A7 → A8 → Prop) → A0 → A1 → A2 → A3 → A4 → A5 → A6 → A7 → A8 → Prop} (I : A0 → A1 → A2 → A3 → A4 → A5 → A6 → A7 → A8 → Prop) (μ : A0 → A1 → A2 → A3 → A4 → A5 → A6 → A7 → A8 → Nat) (hs : ∀ (a0 : A0) (a1 : A1) (a2 : A2) (a3 : A3) (a4 : A4) (a5 : A5) (a6 : A6) (a7 : A7) (a8 : A8) (again : A0 → A1 → A2 → A3 → A4 → A5 → A6 → A7 → A8 → Prop), I a0 a1 a2 a3 a4 a5 a6 a7 a8 → (∀ (b0 : A0) (b1 : A1) (b2 : A2) (b3 : A3) (b4 : A4) (b5 : A5) (b6 : A6) (b7 : A7) (b8 : A8), I b0 b1 b2 b3 b4 b5 b6 b7 b8 → μ b0 b1 b2 b3 b4 b5 b6 b7 b8 < μ a0 a1 a2 a3 a4 a5 a6 a7 a8 → again b0 b1 b2 b3 b4 b5 b6 b7 b8) → F again a0 a1 a2 a3 a4 a5 a6 a7 a8) (a0 : A0) (a1 : A1) (a2 : A2) (a3 : A3) (a4 : A4) (a5 : A5) (a6 : A6) (a7 : A7) (a8 : A8) (hI : I a0 a1 a2 a3 a4 a5 a6 a7 a8) : lo bot F (fun r => r a0 a1 a2 a3 a4 a5 a6 a7 a8) := wlp9 I μ hs a0 a1 a2 a3 a4 a5 a6 a7 a8 hI
theorem wlp10 {A0 A1 A2 A3 A4 A5 A6 A7 A8 A9 : Type} {bot : A0 → A1 → A2 → A3 → A4 → A5 → A6 → A7 → A8 → A9 → Prop} {F : (A0 → A1 → A2 → A3 → A4 → A5 → A6 → A7 → A8 → A9 → Prop) → A0 → A1 → A2 → A3 → A4 → A5 → A6 → A7 → A8 → A9 → Prop} (I : A0 → A1 → A2 → A3 → A4 → A5 → A6 → A7 → A8 → A9 → Prop) (μ : A0 → A1 → A2 → A3 → A4 → A5 → A6 → A7 → A8 → A9 → Nat) (hs : ∀ (a0 : A0) (a1 : A1) (a2 : A2) (a3 : A3) (a4 : A4) (a5 : A5) (a6 : A6) (a7 : A7) (a8 : A8) (a9 : A9) (again : A0 → A1 → A2 → A3 → A4 → A5 → A6 → A7 → A8 → A9 → Prop), I a0 a1 a2 a3 a4 a5 a6 a7 a8 a9 → (∀ (b0 : A0) (b1 : A1) (b2 : A2) (b3 : A3) (b4 : A4) (b5 : A5) (b6 : A6) (b7 : A7) (b8 : A8) (b9 : A9), I b0 b1 b2 b3 b4 b5 b6 b7 b8 b9 → μ b0 b1 b2 b3 b4 b5 b6 b7 b8 b9 < μ a0 a1 a2 a3 a4 a5 a6 a7 a8 a9 → again b0 b1 b2 b3 b4 b5 b6 b7 b8 b9) → F again a0 a1 a2 a3 a4 a5 a6 a7 a8 a9) : ∀ (a0 : A0) (a1 : A1) (a2 : A2) (a3 : A3) (a4 : A4) (a5 : A5) (a6 : A6) (a7 : A7) (a8 : A8) (a9 : A9), I a0 a1 a2 a3 a4 a5 a6 a7 a8 a9 → ∃ n : Nat, wl bot F n a0 a1 a2 a3 a4 a5 a6 a7 a8 a9 := by
  have key : ∀ (n : Nat) (a0 : A0) (a1 : A1) (a2 : A2) (a3 : A3) (a4 : A4) (a5 : A5) (a6 : A6) (a7 : A7) (a8 : A8) (a9 : A9), μ a0 a1 a2 a3 a4 a5 a6 a7 a8 a9 < n → I a0 a1 a2 a3 a4 a5 a6 a7 a8 a9 → wl bot F n a0 a1 a2 a3 a4 a5 a6 a7 a8 a9 := by
    intro n
    induction n with
    | zero => intro a0 a1 a2 a3 a4 a5 a6 a7 a8 a9 h; exact absurd h (Nat.not_lt_zero _)
    | succ n ih => intro a0 a1 a2 a3 a4 a5 a6 a7 a8 a9 h hI; exact hs a0 a1 a2 a3 a4 a5 a6 a7 a8 a9 _ hI (fun b0 b1 b2 b3 b4 b5 b6 b7 b8 b9 hb h2 => ih b0 b1 b2 b3 b4 b5 b6 b7 b8 b9 (Nat.lt_of_lt_of_le h2 (Nat.le_of_lt_succ h)) hb)
  intro a0 a1 a2 a3 a4 a5 a6 a7 a8 a9 hI
  exact ⟨_, key _ a0 a1 a2 a3 a4 a5 a6 a7 a8 a9 (Nat.lt_succ_self _) hI⟩
theorem lop10 {A0 A1 A2 A3 A4 A5 A6 A7 A8 A9 : Type} {bot : A0 → A1 → A2 → A3 → A4 → A5 → A6 → A7 → A8 → A9 → Prop} {F : (A0 → A1 → A2 → A3 → A4 → A5 → A6 → A7 → A8 → A9 → Prop) → A0 → A1 → A2 → A3 → A4 → A5 → A6 → A7 → A8 → A9 → Prop} (I : A0 → A1 → A2 → A3 → A4 → A5 → A6 → A7 → A8 → A9 → Prop) (μ : A0 → A1 → A2 → A3 → A4 → A5 → A6 → A7 → A8 → A9 → Nat) (hs : ∀ (a0 : A0) (a1 : A1) (a2 : A2) (a3 : A3) (a4 : A4) (a5 : A5) (a6 : A6) (a7 : A7) (a8 : A8) (a9 : A9) (again : A0 → A1 → A2 → A3 → A4 → A5 → A6 → A7 → A8 → A9 → Prop), I a0 a1 a2 a3 a4 a5 a6 a7 a8 a9 → (∀ (b0 : A0) (b1 : A1) (b2 : A2) (b3 : A3) (b4 : A4) (b5 : A5) (b6 : A6) (b7 : A7) (b8 : A8) (b9 : A9), I b0 b1 b2 b3 b4 b5 b6 b7 b8 b9 → μ b0 b1 b2 b3 b4 b5 b6 b7 b8 b9 < μ a0 a1 a2 a3 a4 a5 a6 a7 a8 a9 → again b0 b1 b2 b3 b4 b5 b6 b7 b8 b9) → F again a0 a1 a2 a3 a4 a5 a6 a7 a8 a9) (a0 : A0) (a1 : A1) (a2 : A2) (a3 : A3) (a4 : A4) (a5 : A5) (a6 : A6) (a7 : A7) (a8 : A8) (a9 : A9) (hI : I a0 a1 a2 a3 a4 a5 a6 a7 a8 a9) : lo bot F (fun r => r a0 a1 a2 a3 a4 a5 a6 a7 a8 a9) := wlp10 I μ hs a0 a1 a2 a3 a4 a5 a6 a7 a8 a9 hI
theorem wlp11 {A0 A1 A2 A3 A4 A5 A6 A7 A8 A9 A10 : Type} {bot : A0 → A1 → A2 → A3 → A4 → A5 → A6 → A7 → A8 → A9 → A10 → Prop} {F : (A0 → A1 → A2 → A3 → A4 → A5 → A6 → A7 → A8 → A9 → A10 → Prop) → A0 → A1 → A2 → A3 → A4 → A5 → A6 → A7 → A8 → A9 → A10 → Prop} (I : A0 → A1 → A2 → A3 → A4 → A5 → A6 → A7 → A8 → A9 → A10 → Prop) (μ : A0 → A1 → A2 → A3 → A4 → A5 → A6 → A7 → A8 → A9 → A10 → Nat) (hs : ∀ (a0 : A0) (a1 : A1) (a2 : A2) (a3 : A3) (a4 : A4) (a5 : A5) (a6 : A6) (a7 : A7) (a8 : A8) (a9 : A9) (a10 : A10) (again : A0 → A1 → A2 → A3 → A4 → A5 → A6 → A7 → A8 → A9 → A10 → Prop), I a0 a1 a2 a3 a4 a5 a6 a7 a8 a9 a10 → (∀ (b0 : A0) (b1 : A1) (b2 : A2) (b3 : A3) (b4 : A4) (b5 : A5) (b6 : A6) (b7 : A7) (b8 : A8) (b9 : A9) (b10 : A10), I b0 b1 b2 b3 b4 b5 b6 b7 b8 b9 b10 → μ b0 b1 b2 b3 b4 b5 b6 b7 b8 b9 b10 < μ a0 a1 a2 a3 a4 a5 a6 a7 a8 a9 a10 → again b0 b1 b2 b3 b4 b5 b6 b7 b8 b9 b10) → F again a0 a1 a2 a3 a4 a5 a6 a7 a8 a9 a10) : ∀ (a0 : A0) (a1 : A1) (a2 : A2) (a3 : A3) (a4 : A4) (a5 : A5) (a6 : A6) (a7 : A7) (a8 : A8) (a9 : A9) (a10 : A10), I a0 a1 a2 a3 a4 a5 a6 a7 a8 a9 a10 → ∃ n : Nat, wl bot F n a0 a1 a2 a3 a4 a5 a6 a7 a8 a9 a10 := by
  have key : ∀ (n : Nat) (a0 : A0) (a1 : A1) (a2 : A2) (a3 : A3) (a4 : A4) (a5 : A5) (a6 : A6) (a7 : A7) (a8 : A8) (a9 : A9) (a10 : A10), μ a0 a1 a2 a3 a4 a5 a6 a7 a8 a9 a10 < n → I a0 a1 a2 a3 a4 a5 a6 a7 a8 a9 a10 → wl bot F n a0 a1 a2 a3 a4 a5 a6 a7 a8 a9 a10 := by
    intro n
    induction n with
    | zero => intro a0 a1 a2 a3 a4 a5 a6 a7 a8 a9 a10 h; exact absurd h (Nat.not_lt_zero _)
    | succ n ih => intro a0 a1 a2 a3 a4 a5 a6 a7 a8 a9 a10 h hI; exact hs a0 a1 a2 a3 a4 a5 a6 a7 a8 a9 a10 _ hI (fun b0 b1 b2 b3 b4 b5 b6 b7 b8 b9 b10 hb h2 => ih b0 b1 b2 b3 b4 b5 b6 b7 b8 b9 b10 (Nat.lt_of_lt_of_le h2 (Nat.le_of_lt_succ h)) hb)
  intro a0 a1 a2 a3 a4 a5 a6 a7 a8 a9 a10 hI
  exact ⟨_, key _ a0 a1 a2 a3 a4 a5 a6 a7 a8 a9 a10 (Nat.lt_succ_self _) hI⟩
theorem lop11 {A0 A1 A2 A3 A4 A5 A6 A7 A8 A9 A10 : Type} {bot : A0 → A1 → A2 → A3 → A4 → A5 → A6 → A7 → A8 → A9 → A10 → Prop} {F : (A0 → A1 → A2 → A3 → A4 → A5 → A6 → A7 → A8 → A9 → A10 → Prop) → A0 → A1 → A2 → A3 → A4 → A5 → A6 → A7 → A8 → A9 → A10 → Prop} (I : A0 → A1 → A2 → A3 → A4 → A5 → A6 → A7 → A8 → A9 → A10 → Prop) (μ : A0 → A1 → A2 → A3 → A4 → A5 → A6 → A7 → A8 → A9 → A10 → Nat) (hs : ∀ (a0 : A0) (a1 : A1) (a2 : A2) (a3 : A3) (a4 : A4) (a5 : A5) (a6 : A6) (a7 : A7) (a8 : A8) (a9 : A9) (a10 : A10) (again : A0 → A1 → A2 → A3 → A4 → A5 → A6 → A7 → A8 → A9 → A10 → Prop), I a0 a1 a2 a3 a4 a5 a6 a7 a8 a9 a10 → (∀ (b0 : A0) (b1 : A1) (b2 : A2) (b3 : A3) (b4 : A4) (b5 : A5) (b6 : A6) (b7 : A7) (b8 : A8) (b9 : A9) (b10 : A10), I b0 b1 b2 b3 b4 b5 b6 b7 b8 b9 b10 → μ b0 b1 b2 b3 b4 b5 b6 b7 b8 b9 b10 < μ a0 a1 a2 a3 a4 a5 a6 a7 a8 a9 a10 → again b0 b1 b2 b3 b4 b5 b6 b7 b8 b9 b10) → F again a0 a1 a2 a3 a4 a5 a6 a7 a8 a9 a10) (a0 : A0) (a1 : A1) (a2 : A2) (a3 : A3) (a4 : A4) (a5 : A5) (a6 : A6) (a7 : A7) (a8 : A8) (a9 : A9) (a10 : A10) (hI : I a0 a1 a2 a3 a4 a5 a6 a7 a8 a9 a10) : lo bot F (fun r => r a0 a1 a2 a3 a4 a5 a6 a7 a8 a9 a10) := wlp11 I μ hs a0 a1 a2 a3 a4 a5 a6 a7 a8 a9 a10 hI
theorem wlp12 {A0 A1 A2 A3 A4 A5 A6 A7 A8 A9 A10 A11 : Type} {bot : A0 → A1 → A2 → A3 → A4 → A5 → A6 → A7 → A8 → A9 → A10 → A11 → Prop} {F : (A0 → A1 → A2 → A3 → A4 → A5 → A6 → A7 → A8 → A9 → A10 → A11 → Prop) → A0 → A1 → A2 → A3 → A4 → A5 → A6 → A7 → A8 → A9 → A10 → A11 → Prop} (I : A0 → A1 → A2 → A3 → A4 → A5 → A6 → A7 → A8 → A9 → A10 → A11 → Prop) (μ : A0 → A1 → A2 → A3 → A4 → A5 → A6 → A7 → A8 → A9 → A10 → A11 → Nat) (hs : ∀ (a0 : A0) (a1 : A1) (a2 : A2) (a3 : A3) (a4 : A4) (a5 : A5) (a6 : A6) (a7 : A7) (a8 : A8) (a9 : A9) (a10 : A10) (a11 : A11) (again : A0 → A1 → A2 → A3 → A4 → A5 → A6 → A7 → A8 → A9 → A10 → A11 → Prop), I a0 a1 a2 a3 a4 a5 a6 a7 a8 a9 a10 a11 → (∀ (b0 : A0) (b1 : A1) (b2 : A2) (b3 : A3) (b4 : A4) (b5 : A5) (b6 : A6) (b7 : A7) (b8 : A8) (b9 : A9) (b10 : A10) (b11 : A11), I b0 b1 b2 b3 b4 b5 b6 b7 b8 b9 b10 b11 → μ b0 b1 b2 b3 b4 b5 b6 b7 b8 b9 b10 b11 < μ a0 a1 a2 a3 a4 a5 a6 a7 a8 a9 a10 a11 → again b0 b1 b2 b3 b4 b5 b6 b7 b8 b9 b10 b11) → F again a0 a1 a2 a3 a4 a5 a6 a7 a8 a9 a10 a11) : ∀ (a0 : A0) (a1 : A1) (a2 : A2) (a3 : A3) (a4 : A4) (a5 : A5) (a6 : A6) (a7 : A7) (a8 : A8) (a9 : A9) (a10 : A10) (a11 : A11), I a0 a1 a2 a3 a4 a5 a6 a7 a8 a9 a10 a11 → ∃ n : Nat, wl bot F n a0 a1 a2 a3 a4 a5 a6 a7 a8 a9 a10 a11 := by
  have key : ∀ (n : Nat) (a0 : A0) (a1 : A1) (a2 : A2) (a3 : A3) (a4 : A4) (a5 : A5) (a6 : A6) (a7 : A7) (a8 : A8) (a9 : A9) (a10 : A10) (a11 : A11), μ a0 a1 a2 a3 a4 a5 a6 a7 a8 a9 a10 a11 < n → I a0 a1 a2 a3 a4 a5 a6 a7 a8 a9 a10 a11 → wl bot F n a0 a1 a2 a3 a4 a5 a6 a7 a8 a9 a10 a11 := by
    intro n
    induction n with
    | zero => intro a0 a1 a2 a3 a4 a5 a6 a7 a8 a9 a10 a11 h; exact absurd h (Nat.not_lt_zero _)
    | succ n ih => intro a0 a1 a2 a3 a4 a5 a6 a7 a8 a9 a10 a11 h hI; exact hs a0 a1 a2 a3 a4 a5 a6 a7 a8 a9 a10 a11 _ hI (fun b0 b1 b2 b3 b4 b5 b6 b7 b8 b9 b10 b11 hb h2 => ih b0 b1 b2 b3 b4 b5 b6 b7 b8 b9 b10 b11 (Nat.lt_of_lt_of_le h2 (Nat.le_of_lt_succ h)) hb)
  intro a0 a1 a2 a3 a4 a5 a6 a7 a8 a9 a10 a11 hI
  exact ⟨_, key _ a0 a1 a2 a3 a4 a5 a6 a7 a8 a9 a10 a11 (Nat.lt_succ_self _) hI⟩
theorem lop12 {A0 A1 A2 A3 A4 A5 A6 A7 A8 A9 A10 A11 : Type} {bot : A0 → A1 → A2 → A3 → A4 → A5 → A6 → A7 → A8 → A9 → A10 → A11 → Prop} {F : (A0 → A1 → A2 → A3 → A4 → A5 → A6 → A7 → A8 → A9 → A10 → A11 → Prop) → A0 → A1 → A2 → A3 → A4 → A5 → A6 → A7 → A8 → A9 → A10 → A11 → Prop} (I : A0 → A1 → A2 → A3 → A4 → A5 → A6 → A7 → A8 → A9 → A10 → A11 → Prop) (μ : A0 → A1 → A2 → A3 → A4 → A5 → A6 → A7 → A8 → A9 → A10 → A11 → Nat) (hs : ∀ (a0 : A0) (a1 : A1) (a2 : A2) (a3 : A3) (a4 : A4) (a5 : A5) (a6 : A6) (a7 : A7) (a8 : A8) (a9 : A9) (a10 : A10) (a11 : A11) (again : A0 → A1 → A2 → A3 → A4 → A5 → A6 → A7 → A8 → A9 → A10 → A11 → Prop), I a0 a1 a2 a3 a4 a5 a6 a7 a8 a9 a10 a11 → (∀ (b0 : A0) (b1 : A1) (b2 : A2) (b3 : A3) (b4 : A4) (b5 : A5) (b6 : A6) (b7 : A7) (b8 : A8) (b9 : A9) (b10 : A10) (b11 : A11), I b0 b1 b2 b3 b4 b5 b6 b7 b8 b9 b10 b11 → μ b0 b1 b2 b3 b4 b5 b6 b7 b8 b9 b10 b11 < μ a0 a1 a2 a3 a4 a5 a6 a7 a8 a9 a10 a11 → again b0 b1 b2 b3 b4 b5 b6 b7 b8 b9 b10 b11) → F again a0 a1 a2 a3 a4 a5 a6 a7 a8 a9 a10 a11) (a0 : A0) (a1 : A1) (a2 : A2) (a3 : A3) (a4 : A4) (a5 : A5) (a6 : A6) (a7 : A7) (a8 : A8) (a9 : A9) (a10 : A10) (a11 : A11) (hI : I a0 a1 a2 a3 a4 a5 a6 a7 a8 a9 a10 a11) : lo bot F (fun r => r a0 a1 a2 a3 a4 a5 a6 a7 a8 a9 a10 a11) := wlp12 I μ hs a0 a1 a2 a3 a4 a5 a6 a7 a8 a9 a10 a11 hI
