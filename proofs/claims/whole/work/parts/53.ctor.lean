/-! what makes new cells -/
theorem g_newI {p : Program} {l : Launch} {e : Env} {R : Room} {s : State} {m : MethodId} {args : Array Value} {below : List Frame} {meth : Method} {c : Code} {H : Heap} {locs : List Loc} {cells slots : Nat} {Q : State → Prop} {pc : Nat} {ls : Array Slot} {rest : List Value} {A : Nat → Prop} {D : va_G} {ci cz : ClassId} {tr : List (ClassId × FieldType)} {ws : va_W} {cc : ByteArray} (hx : p.tables.exec = Jvm.exec) (hb : c.code = cc) (harr : (Cond.arrayClass .int).before args s = true) (hK : gK D ci cz tr s) (hP : va_P D vwCl ws H) (hD : va_D A ws) (hS : va_S A s.heap H locs) (hA : ∀ q : Nat, s.heap.size ≤ q → A q)
    {n : Int32} {N : Nat} (hn : ¬ n < 0) (hN : n.toNatClampNeg = N) (hbytes : N * componentBytes .int ≤ 536870912) (hcells : cells + 1 ≤ R.cells) (hslots : slots + N ≤ R.slots) (hdg : decode cc pc = .ok (.newarray .int, 2))
    (kk : ∀ (q : Nat) (H1 : Heap), va_P D vwCl (ws ++ [(q, .inl (ci, N, .inl (fun _ => 0)))]) H1 → va_D A (ws ++ [(q, .inl (ci, N, .inl (fun _ => 0)))]) → va_S A s.heap H1 locs → W p l e R s m args below meth c H1 locs (cells + 1) (slots + N) Q (F0 m (pc + 2) ls (.ref q :: rest))) : W p l e R s m args below meth c H locs cells slots Q (F0 m pc ls (.int n :: rest)) := by
  refine va_newaK (atype := ArrayType.int) hx hb (show (Cond.arrayClass (newarray.typeOf ArrayType.int)).before args s = true from harr) rfl hdg rfl hn hN hbytes hcells hslots rfl fun H1 cA e1 z1 o1 hAr hNm => ?_
  have hcA : cA = ci := Option.some.inj (Eq.trans (Eq.symm hNm) hK.2.2.1)
  subst hcA
  have hk : ∀ (k : Nat) (x : Nat × va_E), ws[k]? = some x → H1[x.1]? = H[x.1]? := fun k x hx => o1 x.1 ((hP k x hx).lt)
  refine kk H.size H1 ((hP.kept hk).app (fun k x hx => ?_)) (hD.push hP rfl (hA _ hS.1)) ⟨Nat.le_trans hS.1 (by omega), fun x h1 h2 => (o1 x (Nat.lt_of_lt_of_le h1 hS.1)).trans (hS.2.1 x h1 h2), hS.2.2⟩
  have hz : k < 1 := (List.getElem?_eq_some_iff.mp hx).1
  rw [show k = 0 by omega] at hx
  cases hx
  exact e1
theorem g_newZ {p : Program} {l : Launch} {e : Env} {R : Room} {s : State} {m : MethodId} {args : Array Value} {below : List Frame} {meth : Method} {c : Code} {H : Heap} {locs : List Loc} {cells slots : Nat} {Q : State → Prop} {pc : Nat} {ls : Array Slot} {rest : List Value} {A : Nat → Prop} {D : va_G} {ci cz : ClassId} {tr : List (ClassId × FieldType)} {ws : va_W} {cc : ByteArray} (hx : p.tables.exec = Jvm.exec) (hb : c.code = cc) (harr : (Cond.arrayClass .boolean).before args s = true) (hK : gK D ci cz tr s) (hP : va_P D vwCl ws H) (hD : va_D A ws) (hS : va_S A s.heap H locs) (hA : ∀ q : Nat, s.heap.size ≤ q → A q)
    {n : Int32} {N : Nat} (hn : ¬ n < 0) (hN : n.toNatClampNeg = N) (hbytes : N * componentBytes .boolean ≤ 536870912) (hcells : cells + 1 ≤ R.cells) (hslots : slots + N ≤ R.slots) (hdg : decode cc pc = .ok (.newarray .boolean, 2))
    (kk : ∀ (q : Nat) (H1 : Heap), va_P D vwCl (ws ++ [(q, .inl (cz, N, .inl (fun _ => 0)))]) H1 → va_D A (ws ++ [(q, .inl (cz, N, .inl (fun _ => 0)))]) → va_S A s.heap H1 locs → W p l e R s m args below meth c H1 locs (cells + 1) (slots + N) Q (F0 m (pc + 2) ls (.ref q :: rest))) : W p l e R s m args below meth c H locs cells slots Q (F0 m pc ls (.int n :: rest)) := by
  refine va_newaK (atype := ArrayType.boolean) hx hb (show (Cond.arrayClass (newarray.typeOf ArrayType.boolean)).before args s = true from harr) rfl hdg rfl hn hN hbytes hcells hslots rfl fun H1 cA e1 z1 o1 hAr hNm => ?_
  have hcA : cA = cz := Option.some.inj (Eq.trans (Eq.symm hNm) hK.2.2.2.1)
  subst hcA
  have hk : ∀ (k : Nat) (x : Nat × va_E), ws[k]? = some x → H1[x.1]? = H[x.1]? := fun k x hx => o1 x.1 ((hP k x hx).lt)
  refine kk H.size H1 ((hP.kept hk).app (fun k x hx => ?_)) (hD.push hP rfl (hA _ hS.1)) ⟨Nat.le_trans hS.1 (by omega), fun x h1 h2 => (o1 x (Nat.lt_of_lt_of_le h1 hS.1)).trans (hS.2.1 x h1 h2), hS.2.2⟩
  have hz : k < 1 := (List.getElem?_eq_some_iff.mp hx).1
  rw [show k = 0 by omega] at hx
  cases hx
  exact e1
abbrev gQI (D : va_G) (W0 : va_W) (sz : Nat) (PW : va_W → State → Prop) : Array Value → State → Outcome → State → Prop := va_Qv (S := va_W) (fun _ => True) (fun w t => va_P D vwCl w t.heap ∧ va_D (va_A W0 sz) w ∧ PW w t) (va_A W0 sz)
abbrev gMI (l : Launch) (y : MethodName) (cc : ByteArray) (n : Nat) (fr lc mc ms : Nat) (D : va_G) (ci cz : ClassId) (tr : List (ClassId × FieldType)) (W0 : va_W) (sz : Nat) (av : List Value) (Qc : Array Value → State → Outcome → State → Prop) : Prop :=
  Met l y (Cond.code y cc n none :: tt) { frames := fr, cells := mc, slots := ms, locals := lc } (gP D ci cz tr W0 sz av) Qc mc ms (va_A W0 sz)
theorem gmet_I {l : Launch} {y : MethodName} {cc : ByteArray} {n fr lc mc ms : Nat} {D : va_G} {ci cz : ClassId} {tr : List (ClassId × FieldType)} {W0 : va_W} {sz : Nat} {av : List Value} {PW : va_W → State → Prop} (own : String) (hy : plainName y.cls = true) (hown : y.cls = own) (hnm : y.name = "<init>") (hlen : (lg_sl av).length ≤ n)
    (body : ∀ (p : Program) (e : Env) (s : State) (m : MethodId) (args : Array Value) (below : List Frame) (meth : Method) (c : Code) (A : Nat → Prop) (R : Room) (Q : State → Prop), gC p s m args c cc own n D ci cz tr A → meth.name = "<init>" → fr ≤ R.frames → lc ≤ R.locals → mc ≤ R.cells → ms ≤ R.slots → va_P D vwCl W0 s.heap → va_D A W0 →
      (∀ (w : va_W) (H : Heap) (locs : List Loc) (pc : Nat) (ls : Array Slot), (∀ t : State, s.vm.Alike t.vm → PW w t) → va_P D vwCl w H → va_D A w → va_S A s.heap H locs → decode cc pc = .ok (.return_, 1) → W p l e R s m args below meth c H locs mc ms Q (F0 m pc ls [])) →
      ∀ ls : Array Slot, lv_has ls n (lv_args 0 av) → W p l e R s m args below meth c s.heap [] 0 0 Q (F0 m 0 ls [])) : gMI l y cc n fr lc mc ms D ci cz tr W0 sz av (gQI D W0 sz PW) := by
  refine Met.ofW (cc := cc) (maxL := n) (ret := none) hy rfl ?_
  intro p e s m args below meth c s₁ B hml hv
  obtain ⟨rfl, hsz, hP, hK, hD0, hZ⟩ := hv
  subst hsz
  have hts := atoms_spec (ws := Cond.code y cc n none :: tt) B.pre
  have hown' : s.vm.findClass y.cls = some m.cls := findClass_of_methodNamed B.named
  have hin : meth.name = "<init>" := ((name_of_methodNamed B.named B.method).1).trans hnm
  rw [hown] at hown'
  rw [lg_entry_eq]
  exact body p e s m _ below meth c (va_A W0 s.heap.size) _ _ ⟨B.exec, B.bytes, hml, hown', fun w h => hts w (List.mem_cons_of_mem _ h), hK, hZ, fun q h => Or.inr h⟩ hin (Nat.le_refl _) (Nat.le_refl _) (Nat.le_refl _) (Nat.le_refl _) hP hD0.self (fun w H locs pc ls h1 h2 h3 h4 h5 => W.vret B.exec B.bytes B.returns (fun t ht hW => ⟨⟨w, rfl, trivial, by rw [ht]; exact h2, h3, h1 t hW.alike⟩, h4.F ht⟩) h4.2.2 h5 B.notSynchronized) _ (lv_entry av hlen)
theorem gcallI {p : Program} {l : Launch} {e : Env} {R : Room} {s : State} {m : MethodId} {args : Array Value} {below : List Frame} {meth : Method} {c : Code} {H : Heap} {locs : List Loc} {cells slots mc ms : Nat} {Q : State → Prop} {pc : Nat} {ls : Array Slot} {rest st0 : List Value} {a : Array Value} {A : Nat → Prop} {D : va_G} {ws wc wr : va_W} {PW : va_W → State → Prop} (hr : va_Run p l e R s m args below meth c H locs cells slots mc ms (F0 m pc ls st0) rest (gQI D wc H.size PW a) (va_A wc H.size)) (hP : va_P D vwCl ws H) (hD : va_D A ws) (hS : va_S A s.heap H locs) (hA : ∀ q : Nat, s.heap.size ≤ q → A q) (isC isR : List Nat) (hC : isC.map (fun i => ws[i]?) = wc.map some) (hR : isR.map (fun i => ws[i]?) = wr.map some) (hn : va_nd isR = true) (hdis : ∀ i ∈ isR, i ∉ isC)
    (kk : ∀ (w : va_W) (H1 : Heap) (locs1 : List Loc), (∃ t : State, s.vm.Alike t.vm ∧ PW w t) → va_P D vwCl (wr ++ w) H1 → va_D A (wr ++ w) → va_S A s.heap H1 locs1 → W p l e R s m args below meth c H1 locs1 (cells + mc) (slots + ms) Q (F0 m (pc + 3) ls rest)) : W p l e R s m args below meth c H locs cells slots Q (F0 m pc ls st0) :=
  va_callv hr hS (fun q _ h => va_free hD hS hA isC hC q h) (va_free hD hS hA isC hC) (fun w t H1 locs1 ht hvm _ hB _ hk hS1 => by
    obtain ⟨b1, b2, b3⟩ := hB
    rw [ht] at b1
    obtain ⟨j1, j2⟩ := va_join (wr := wr) (w1 := w) hP hD isC isR hC hR hn hdis hk (va_free hD hS hA isC hC) b1 b2
    exact kk w H1 locs1 ⟨t, hvm, b3⟩ j1 j2 hS1)
theorem g_at2 {ci cz : ClassId} (tr : List (ClassId × FieldType)) (cr : ClassId) : ((ci, FieldType.int) :: (cz, FieldType.boolean) :: tr ++ [(cr, FieldType.object RX8)])[2 + tr.length]? = some (cr, FieldType.object RX8) := by
  rw [show 2 + tr.length = tr.length + 1 + 1 by omega]
  simp
