/-! contracts: a method's start and end as plain data -/
def gQ (D : va_G) (cA : Nat → ClassId) (ad : Nat → Nat) (A : Nat → Prop) (post : Option gV → gW → Prop) : Array Value → State → Outcome → State → Prop := fun _ st oc t =>
  (∃ (r : Option gV) (w : gW), oc = .returned (r.map (gv ad)) ∧ post r w ∧ va_P D vwCl (gw cA ad w) t.heap ∧ va_K D vwCl (gtys cA) t ∧ va_D A (gw cA ad w)) ∧ va_F A st t
def gPre (D : va_G) (cA : Nat → ClassId) (ad : Nat → Nat) (sz : Nat) (w : gW) : State → Prop := fun U => U.heap.size = sz ∧ va_P D vwCl (gw cA ad w) U.heap ∧ va_K D vwCl (gtys cA) U ∧ va_D (fun _ => True) (gw cA ad w)
/-- method y, with arguments av and cells w, returns, and 'post answer cells'; mc new cells of ms slots at most -/
def gC (l : Launch) (D : va_G) (cA : Nat → ClassId) (y : MethodName) (mm : gM) (ret : Option FieldType) (mc ms : Nat) (av : List gV) (w : gW) (post : Option gV → gW → Prop) : Prop :=
  ∀ (ad : Nat → Nat) (sz : Nat), Met l y (Cond.code y mm.1 mm.2.1 ret :: gtb) mm.2.2.2.2.2 (va_Pc (av.map (gv ad)) (gPre D cA ad sz w)) (gQ D cA ad (va_A (gw cA ad w) sz) post) mc ms (va_A (gw cA ad w) sz)
/-- what the end of a method is, seen from within -/
def gEnd (X : gX) (ad : Nat → Nat) (mc ms : Nat) (post : Option gV → gW → Prop) (ret : Option FieldType) : Prop := match X with
  | (_, _, _, _, s, _, args, below, meth, _, D, cA, A, H0, Q) => meth.sig.returnType = ret ∧ H0 = s.heap ∧ Q = MQ below (gQ D cA ad A post) args s mc ms A
theorem g_iret {X : gX} {mm : gM} {ad : Nat → Nat} {kc ks : Nat} {post : Option gV → gW → Prop} (hX : gOk X mm) (hE : gEnd X ad kc ks post (some .int)) {w : gW} {pc : Nat} {lv : List (Nat × gV)} {z : Int} (hi : gfet pc mm.2.2.2.1 = some (.ireturn, 1)) (h : post (some (.inl z)) w) : G X mm ad kc ks (w, pc, lv, [.inl z]) := by
  have hd := (hX.m.1 _ (gfet_mem hi)).1
  obtain ⟨p, l, e, R, s, m, args, below, meth, c, D, cA, A, H0, Q⟩ := X
  obtain ⟨hxc, hb, hml, hown, hts, hK, hlk, hA, hR, hM⟩ := hX
  obtain ⟨hr, rfl, rfl⟩ := hE
  intro H locs ls hP hD hS hl
  exact W.iret hxc hb hr (fun t ht hW => ⟨⟨some (.inl z), w, rfl, h, by rw [ht]; exact hP, va_K.moved hW.alike hK, hD⟩, hS.F ht⟩) hS.2.2 hd hlk
theorem g_zret {X : gX} {mm : gM} {ad : Nat → Nat} {kc ks : Nat} {post : Option gV → gW → Prop} (hX : gOk X mm) (hE : gEnd X ad kc ks post (some .boolean)) {w : gW} {pc : Nat} {lv : List (Nat × gV)} {z : Int} (hi : gfet pc mm.2.2.2.1 = some (.ireturn, 1)) (hz : z = 0 ∨ z = 1) (h : post (some (.inl z)) w) : G X mm ad kc ks (w, pc, lv, [.inl z]) := by
  have hd := (hX.m.1 _ (gfet_mem hi)).1
  obtain ⟨p, l, e, R, s, m, args, below, meth, c, D, cA, A, H0, Q⟩ := X
  obtain ⟨hxc, hb, hml, hown, hts, hK, hlk, hA, hR, hM⟩ := hX
  obtain ⟨hr, rfl, rfl⟩ := hE
  intro H locs ls hP hD hS hl
  exact W.zret hxc hb hr (gI_bool hz).1 (fun t ht hW => ⟨⟨some (.inl z), w, rfl, h, by rw [ht]; exact hP, va_K.moved hW.alike hK, hD⟩, hS.F ht⟩) hS.2.2 hd hlk
theorem g_vret {X : gX} {mm : gM} {ad : Nat → Nat} {kc ks : Nat} {post : Option gV → gW → Prop} (hX : gOk X mm) (hE : gEnd X ad kc ks post none) {w : gW} {pc : Nat} {lv : List (Nat × gV)} (hi : gfet pc mm.2.2.2.1 = some (.return_, 1)) (h : post none w) : G X mm ad kc ks (w, pc, lv, []) := by
  have hd := (hX.m.1 _ (gfet_mem hi)).1
  obtain ⟨p, l, e, R, s, m, args, below, meth, c, D, cA, A, H0, Q⟩ := X
  obtain ⟨hxc, hb, hml, hown, hts, hK, hlk, hA, hR, hM⟩ := hX
  obtain ⟨hr, rfl, rfl⟩ := hE
  intro H locs ls hP hD hS hl
  exact W.vret hxc hb hr (fun t ht hW => ⟨⟨none, w, rfl, h, by rw [ht]; exact hP, va_K.moved hW.alike hK, hD⟩, hS.F ht⟩) hS.2.2 hd hlk
theorem G.widen {X : gX} {mm : gM} {ad : Nat → Nat} {kc ks kc' ks' : Nat} {S : gS} (h1 : kc ≤ kc') (h2 : ks ≤ ks') (k : G X mm ad kc' ks' S) : G X mm ad kc ks S := by
  obtain ⟨p, l, e, R, s, m, args, below, meth, c, D, cA, A, H0, Q⟩ := X
  intro H locs ls hP hD hS hl
  exact W.widen h1 h2 (k H locs ls hP hD hS hl)
def gargs : Nat → List gV → List (Nat × gV)
  | _, [] => []
  | i, v :: t => (i, v) :: gargs (i + 1) t
def gnlv : List gV → Bool
  | [] => true
  | .inr (.inl _) :: _ => false
  | _ :: t => gnlv t
theorem gargs_ok {ad : Nat → Nat} : ∀ (av : List gV) (i : Nat), gnlv av = true → lv_args i (av.map (gv ad)) = (gargs i av).map (fun q => (q.1, gv ad q.2)) ∧ (lg_sl (av.map (gv ad))).length = av.length
  | [], _, _ => ⟨rfl, rfl⟩
  | v :: t, i, h => by
    have hc : (gv ad v).category = 1 ∧ gnlv t = true := by
      rcases v with z | z | _ | z
      · exact ⟨rfl, h⟩
      · cases h
      · exact ⟨rfl, h⟩
      · exact ⟨rfl, h⟩
    obtain ⟨h1, h2⟩ := gargs_ok (ad := ad) t (i + 1) hc.2
    have h9 : ¬ (gv ad v).category = 2 := by rw [hc.1]; decide
    refine ⟨?_, ?_⟩
    · show (i, gv ad v) :: lv_args (if (gv ad v).category = 2 then i + 2 else i + 1) (t.map (gv ad)) = (i, gv ad v) :: _
      rw [if_neg h9, h1]
    · have h3 : lg_sl ((v :: t).map (gv ad)) = [Slot.val (gv ad v)] ++ lg_sl (t.map (gv ad)) := by
        simp [lg_sl, hc.1]
      rw [h3, List.length_append, h2]
      simp [Nat.add_comm]
theorem gC_of {l : Launch} {D : va_G} {cA : Nat → ClassId} {y : MethodName} {mm : gM} {ret : Option FieldType} {mc ms : Nat} {av : List gV} {w : gW} {post : Option gV → gW → Prop} (hy : Jvm.plainName y.cls = true) (hM : gOkM mm) (hc : y.cls = mm.2.2.1) (hav : gnlv av = true) (hn : av.length ≤ mm.2.1)
    (body : ∀ (X : gX) (ad : Nat → Nat), gOk X mm → gEnd X ad mc ms post ret → G X mm ad 0 0 (w, 0, gargs 0 av, [])) : gC l D cA y mm ret mc ms av w post := by
  intro ad sz
  refine Met.ofW (cc := mm.1) (maxL := mm.2.1) (ret := ret) hy rfl ?_
  intro p e s m args below meth c s₁ B hml hv
  obtain ⟨rfl, hsz, hP, hK, hD0⟩ := hv
  have hts := atoms_spec (ws := Cond.code y mm.1 mm.2.1 ret :: gtb) B.pre
  have hown : s.vm.findClass y.cls = some m.cls := findClass_of_methodNamed B.named
  have hlocks := B.notSynchronized
  subst hsz
  have hD := hD0.self (sz := s.heap.size)
  have hl := lv_entry (av.map (gv ad)) (n := mm.2.1) (by rw [(gargs_ok av 0 hav).2]; exact hn)
  rw [(gargs_ok av 0 hav).1] at hl
  rw [lg_entry_eq]
  have k := body (p, l, e, mm.2.2.2.2.2, s, m, (av.map (gv ad)).toArray, below, meth, c, D, cA, va_A (gw cA ad w) s.heap.size, s.heap, MQ below (gQ D cA ad (va_A (gw cA ad w) s.heap.size) post) (av.map (gv ad)).toArray s mc ms (va_A (gw cA ad w) s.heap.size)) ad
    ⟨B.exec, B.bytes, hml, by rw [← hc]; exact hown, fun x hx => hts x (List.mem_cons_of_mem _ hx), hK, hlocks, fun q h => Or.inr h, rfl, hM⟩ ⟨B.returns, rfl, rfl⟩
  exact k s.heap [] _ hP hD va_S.rf hl
/-! calls -/
theorem gsel_fm {α : Type} {is : List Nat} {f : Nat → Option α} {l : List α} (h : is.map f = l.map some) : is.filterMap f = l := by
  induction is generalizing l with
  | nil =>
    cases l with
    | nil => rfl
    | cons a t => cases h
  | cons i t ih =>
    cases l with
    | nil => cases h
    | cons a l =>
      simp only [List.map_cons, List.cons.injEq] at h
      rw [List.filterMap_cons, h.1, ih h.2]
theorem gsel_gw {cA : Nat → ClassId} {ad : Nat → Nat} {w wc : gW} {is : List Nat} (h : is.map (fun i => w[i]?) = wc.map some) : is.map (fun i => (gw cA ad w)[i]?) = (gw cA ad wc).map some := by
  induction is generalizing wc with
  | nil =>
    cases wc with
    | nil => rfl
    | cons a t => cases h
  | cons i t ih =>
    cases wc with
    | nil => cases h
    | cons a l =>
      simp only [List.map_cons, List.cons.injEq] at h
      obtain ⟨k, e⟩ := a
      have h1 := gw_at (cA := cA) (ad := ad) h.1
      show (gw cA ad w)[i]? :: t.map (fun i => (gw cA ad w)[i]?) = some (ad k, ge cA ad e) :: (gw cA ad l).map some
      rw [h1, ih h.2]
theorem gw_app {cA : Nat → ClassId} {ad : Nat → Nat} (a b : gW) : gw cA ad (a ++ b) = gw cA ad a ++ gw cA ad b := by
  unfold gw
  rw [List.map_append]
/-- the cells in another order, or fewer of them -/
theorem G.perm {X : gX} {mm : gM} {ad : Nat → Nat} {kc ks : Nat} {w : gW} (w' : gW) (is : List Nat) {r : Nat × List (Nat × gV) × List gV} (hs : is.map (fun i => w[i]?) = w'.map some) (hn : va_nd is = true) (k : G X mm ad kc ks (w', r)) : G X mm ad kc ks (w, r) := by
  obtain ⟨p, l, e, R, s, m, args, below, meth, c, D, cA, A, H0, Q⟩ := X
  intro H locs ls hP hD hS hl
  exact k H locs ls (hP.sub is (gsel_fm (gsel_gw hs))) (hD.sub is hn (gsel_gw hs)) hS hl
/-- fewer locals -/
theorem G.locs {X : gX} {mm : gM} {ad : Nat → Nat} {kc ks : Nat} {w : gW} {pc : Nat} {lv : List (Nat × gV)} {st : List gV} (lv' : List (Nat × gV)) (is : List Nat) (hs : is.map (fun i => lv[i]?) = lv'.map some) (k : G X mm ad kc ks (w, pc, lv', st)) : G X mm ad kc ks (w, pc, lv, st) := by
  obtain ⟨p, l, e, R, s, m, args, below, meth, c, D, cA, A, H0, Q⟩ := X
  intro H locs ls hP hD hS hl
  refine k H locs ls hP hD hS ⟨hl.1, hl.2.1, fun q hq => ?_⟩
  obtain ⟨x, hx, rfl⟩ := List.mem_map.mp hq
  refine hl.2.2 _ (List.mem_map.mpr ⟨x, ?_, rfl⟩)
  rw [← gsel_fm hs] at hx
  obtain ⟨i, -, hi⟩ := List.mem_filterMap.mp hx
  exact List.mem_of_getElem? hi
section GAFTER
variable {p : Program} {l : Launch} {e : Env} {R : Room} {s : State} {m : MethodId} {args : Array Value} {below : List Frame} {meth : Method} {c : Code} {H : Heap} {locs : List Loc} {cells slots : Nat} {Q : State → Prop}
variable {pc : Nat} {ls : Array Slot} {rest st0 : List Value} {a : Array Value} {A0 A1 : Nat → Prop} {H0 : Heap} {mc ms : Nat} {free : Addr → Prop} {D : va_G} {cA : Nat → ClassId} {ad : Nat → Nat}
theorem g_after {post : Option gV → gW → Prop} (hr : va_Run p l e R s m args below meth c H locs cells slots mc ms (F0 m pc ls st0) rest (gQ D cA ad A1 post a) free) (hS : va_S A0 H0 H locs) (hA : ∀ q, q < H.size → A1 q → A0 q) (hf : ∀ q, free q → A0 q)
    (kk : ∀ (r : Option gV) (w : gW) (H1 : Heap) (locs1 : List Loc), post r w → va_P D vwCl (gw cA ad w) H1 → va_D A1 (gw cA ad w) → H.size ≤ H1.size → (∀ q : Nat, q < H.size → ¬ A1 q → H1[q]? = H[q]?) → va_S A0 H0 H1 locs1 → W p l e R s m args below meth c H1 locs1 (cells + mc) (slots + ms) Q (F0 m (pc + 3) ls ((r.map (gv ad)).toList ++ rest))) : W p l e R s m args below meth c H locs cells slots Q (F0 m pc ls st0) := by
  intro T hT X
  obtain ⟨v, st₀, t, T', L, h0, X', hL, e1, e2, ⟨⟨r, w, hv, hp, hP1, hK1, hD1⟩, hz, hk⟩, st⟩ := hr T hT X
  cases hv
  rw [h0] at hz hk
  obtain ⟨t2, a1, b1⟩ := kk r w T'.heap (locs ++ L) hp (by rw [e1]; exact hP1) hD1 (by rw [e1]; exact hz) (fun q h1 h2 => by rw [e1]; exact hk q h1 h2)
    ⟨Nat.le_trans hS.1 (by rw [e1]; exact hz), fun q h1 h2 => by rw [e1, hk q (Nat.lt_of_lt_of_le h1 hS.1) (fun z => h2 (hA q (Nat.lt_of_lt_of_le h1 hS.1) z))]; exact hS.2.1 q h1 h2, fun q hq => by
      rcases List.mem_append.mp hq with h | h
      · exact hS.2.2 q h
      · exact hf _ (hL q h)⟩ T' rfl X'
  exact ⟨t2, st t2 a1, b1⟩
end GAFTER
theorem lw_good : gtb.all goodWord = true := List.all_eq_true.mpr fun _ h => (List.mem_filter.mp h).2
theorem gGood {own C : String} {idx : Nat} {y : MethodName} {bytes : ByteArray} {maxL : Nat} {ret : Option FieldType} (h1 : Cond.methodLink own idx y ∈ gtb) (h2 : Cond.instanceMethod y ∈ gtb) (h3 : Cond.selects C y y ∈ gtb) (h4 : Cond.initialized C ∈ gtb) (h5 : Cond.code y bytes maxL ret ∈ gtb) : GoodIn gtb (wsV own idx C y (Cond.code y bytes maxL ret :: gtb)) := by
  refine goodIn_sub (fun w hw => ?_) ?_
  · rcases List.mem_append.mp hw with hw | hw
    · simp only [List.mem_cons, List.not_mem_nil, or_false] at hw
      rcases hw with rfl | rfl | rfl | rfl <;> assumption
    · rcases List.mem_cons.mp hw with rfl | hw
      · exact h5
      · exact hw
  · rw [List.all_eq_true]
    intro w hw
    refine List.all_eq_true.mp lw_good w ?_
    rcases List.mem_append.mp hw with hw | hw
    · simp only [List.mem_cons, List.not_mem_nil, or_false] at hw
      rcases hw with rfl | rfl | rfl | rfl <;> assumption
    · rcases List.mem_cons.mp hw with rfl | hw
      · exact h5
      · exact hw
theorem gGoodS {own : String} {idx : Nat} {y : MethodName} {bytes : ByteArray} {maxL : Nat} {ret : Option FieldType} (h1 : Cond.methodLink own idx y ∈ gtb) (h2 : Cond.static y ∈ gtb) (h4 : Cond.initialized y.cls ∈ gtb) (h5 : Cond.code y bytes maxL ret ∈ gtb) : GoodIn gtb (va_wsS own idx y (Cond.code y bytes maxL ret :: gtb)) := by
  have hm : ∀ w ∈ va_wsS own idx y (Cond.code y bytes maxL ret :: gtb), w ∈ gtb := fun w hw => by
    rcases List.mem_append.mp hw with hw | hw
    · simp only [List.mem_cons, List.not_mem_nil, or_false] at hw
      rcases hw with rfl | rfl | rfl <;> assumption
    · rcases List.mem_cons.mp hw with rfl | hw
      · exact h5
      · exact hw
  exact goodIn_sub hm (List.all_eq_true.mpr fun w hw => List.all_eq_true.mp lw_good w (hm w hw))
/-- what the tables say of a method that is called on an object -/
def gCalV (y : MethodName) (mm : gM) (ret : Option FieldType) (n : Nat) : Prop := Cond.code y mm.1 mm.2.1 ret ∈ gtb ∧ Cond.instanceMethod y ∈ gtb ∧ Cond.selects y.cls y y ∈ gtb ∧ Cond.initialized y.cls ∈ gtb ∧ y.cls ≠ "java/lang/invoke/MethodHandle" ∧ y.cls ≠ "java/lang/invoke/VarHandle" ∧ (parseMethodDescriptor y.desc).map (fun d => d.parameters.length) = some n
def gCalS (y : MethodName) (mm : gM) (ret : Option FieldType) (n : Nat) : Prop := Cond.code y mm.1 mm.2.1 ret ∈ gtb ∧ Cond.static y ∈ gtb ∧ Cond.initialized y.cls ∈ gtb ∧ y.cls ≠ "java/lang/invoke/MethodHandle" ∧ y.cls ≠ "java/lang/invoke/VarHandle" ∧ (parseMethodDescriptor y.desc).map (fun d => d.parameters.length) = some n
def gstk : List gV → Nat
  | [] => 0
  | .inr (.inl _) :: t => gstk t + 2
  | _ :: t => gstk t + 1
theorem gstk_ok {ad : Nat → Nat} : ∀ st : List gV, ((st.map (gv ad)).map fun v => v.category).sum = gstk st
  | [] => rfl
  | v :: t => by
    have ih := gstk_ok (ad := ad) t
    rw [List.map_cons, List.map_cons, List.sum_cons, ih]
    rcases v with z | z | _ | z <;> simp only [gstk, gv, Value.category] <;> omega
/-- a call on an object: its cells (places isC) go in, what it leaves comes back behind the others (places isR) -/
theorem G.callV {X : gX} {mm : gM} {ad : Nat → Nat} {kc ks : Nat} (hX : gOk X mm) {w : gW} {pc : Nat} {lv : List (Nat × gV)} {st : List gV} {idx : Nat} (hi : gfet pc mm.2.2.2.1 = some (.invokevirtual idx, 3)) {y : MethodName} {cm : gM} {ret : Option FieldType} {n mc ms : Nat} {o : Nat} {av : List gV} {wc : gW} {post : Option gV → gW → Prop}
    (hC : ∀ l D cA, gC l D cA y cm ret mc ms (gr o :: av) wc post) (hl1 : Cond.methodLink mm.2.2.1 idx y ∈ gtb) (hcal : gCalV y cm ret n) (hn : av.length = n) {ci : Nat} {fs : List gV} (ho : gwl o w = some (.inl (ci, fs))) (hci : (vwCl[ci]?).map (fun q => q.1) = some y.cls)
    (hrc : cm.2.2.2.2.2.cells = mc ∧ cm.2.2.2.2.2.slots = ms) (hroom : (cm.2.2.2.2.2.frames + 1 ≤ mm.2.2.2.2.2.frames ∧ 8 + (cm.2.1 + 11) + cm.2.2.2.2.2.locals ≤ mm.2.2.2.2.2.locals) ∧ kc + mc ≤ mm.2.2.2.2.2.cells ∧ ks + ms ≤ mm.2.2.2.2.2.slots) (hst : gstk st ≤ 8)
    (isC isR : List Nat) (wr : gW) (hwc : isC.map (fun i => w[i]?) = wc.map some) (hwr : isR.map (fun i => w[i]?) = wr.map some) (hnd : (va_nd isC && va_nd isR && isR.all (fun i => !isC.contains i)) = true)
    (k : ∀ (r : Option gV) (w' : gW), post r w' → G X mm ad (kc + mc) (ks + ms) (wr ++ w', pc + 3, lv, r.toList ++ st)) : G X mm ad kc ks (w, pc, lv, av.reverse ++ gr o :: st) := by
  have hd := (hX.m.1 _ (gfet_mem hi)).1
  obtain ⟨p, l, e, R, s, m, args, below, meth, c, D, cA, A, H0, Q⟩ := X
  obtain ⟨hxc, hb, hml, hown, hts, hK, hlk, hA, hR, hM⟩ := hX
  simp only [Bool.and_eq_true] at hnd
  obtain ⟨⟨hn1, hn2⟩, hn3⟩ := hnd
  have hdis : ∀ i ∈ isR, i ∉ isC := fun i hi h => by
    have := List.all_eq_true.mp hn3 i hi
    simp [h] at this
  intro H locs ls hP hD hS hl
  have hPc := hP.sub isC (gsel_fm (gsel_gw (cA := cA) (ad := ad) hwc))
  have hDc := hD.sub isC hn1 (gsel_gw hwc)
  have hFc := va_free hD hS hA isC (gsel_gw hwc)
  obtain ⟨q0, hq, -⟩ := gwl_ix ho
  cases hcl : vwCl[ci]? with
  | none => rw [hcl] at hci; cases hci
  | some q9 =>
    rw [hcl] at hci
    have hci2 : q9.1 = y.cls := Option.some.inj hci
    obtain ⟨c1, c2, c3, c4, c5, c6, c7⟩ := hcal
    have hrecv := va_recv hK hP hcl (gw_at (cA := cA) (ad := ad) hq)
    rw [hci2] at hrecv
    refine g_after (D := D) (cA := cA) (ad := ad) (va_runV (As := av.map (gv ad)) (rest := st.map (gv ad)) (b := ad o) ⟨hxc, hb, hml, hown, hts⟩ (hC l D cA ad H.size) (cwV (C := y.cls) n hts (gGood hl1 c2 c3 c4 c1) rfl hrc.1 hrc.2 ⟨rfl, c5, c6, c7⟩ (by rw [hR]; exact hroom.1))
      ⟨fun a U g mk q => ⟨q.1, q.2.1, q.2.2.1, va_K.moved (u := U) (U := U.calling g mk a) (Vm.Alike.refl U.vm) q.2.2.2.1, q.2.2.2.2⟩, hrecv, fun U hU hW => ⟨rfl, by rw [hU], by rw [hU]; exact hPc, va_K.moved hW.alike hK, hDc.weaken (fun _ _ _ _ => trivial)⟩⟩ rfl (by rw [List.length_map]; exact hn) hl.1 ?_ (by show 2 * 0 + _ ≤ 8; rw [gstk_ok]; omega) hd ⟨by rw [hR]; exact hroom.2.1, by rw [hR]; exact hroom.2.2⟩) hS (fun q _ h => hFc q h) hFc (fun r w' H1 locs1 hp hP1 hD1 hz hk hS1 => ?_)
    · show ((av.reverse ++ gr o :: st).map (gv ad)) = _
      rw [List.map_append, List.map_reverse]
      rfl
    · obtain ⟨hP2, hD2⟩ := va_join hP hD isC isR (gsel_gw hwc) (gsel_gw (cA := cA) (ad := ad) hwr) hn2 hdis hk hFc hP1 hD1
      have k9 := k r w' hp H1 locs1 ls (by rw [gw_app]; exact hP2) (by rw [gw_app]; exact hD2) hS1 hl
      rw [List.map_append] at k9
      cases r <;> exact k9
theorem G.callS {X : gX} {mm : gM} {ad : Nat → Nat} {kc ks : Nat} (hX : gOk X mm) {w : gW} {pc : Nat} {lv : List (Nat × gV)} {st : List gV} {idx : Nat} (hi : gfet pc mm.2.2.2.1 = some (.invokestatic idx, 3)) {y : MethodName} {cm : gM} {ret : Option FieldType} {n mc ms : Nat} {av : List gV} {wc : gW} {post : Option gV → gW → Prop}
    (hC : ∀ l D cA, gC l D cA y cm ret mc ms av wc post) (hl1 : Cond.methodLink mm.2.2.1 idx y ∈ gtb) (hcal : gCalS y cm ret n) (hn : av.length = n)
    (hrc : cm.2.2.2.2.2.cells = mc ∧ cm.2.2.2.2.2.slots = ms) (hroom : (cm.2.2.2.2.2.frames + 1 ≤ mm.2.2.2.2.2.frames ∧ 8 + (cm.2.1 + 11) + cm.2.2.2.2.2.locals ≤ mm.2.2.2.2.2.locals) ∧ kc + mc ≤ mm.2.2.2.2.2.cells ∧ ks + ms ≤ mm.2.2.2.2.2.slots) (hst : gstk st ≤ 8)
    (isC isR : List Nat) (wr : gW) (hwc : isC.map (fun i => w[i]?) = wc.map some) (hwr : isR.map (fun i => w[i]?) = wr.map some) (hnd : (va_nd isC && va_nd isR && isR.all (fun i => !isC.contains i)) = true)
    (k : ∀ (r : Option gV) (w' : gW), post r w' → G X mm ad (kc + mc) (ks + ms) (wr ++ w', pc + 3, lv, r.toList ++ st)) : G X mm ad kc ks (w, pc, lv, av.reverse ++ st) := by
  have hd := (hX.m.1 _ (gfet_mem hi)).1
  obtain ⟨p, l, e, R, s, m, args, below, meth, c, D, cA, A, H0, Q⟩ := X
  obtain ⟨hxc, hb, hml, hown, hts, hK, hlk, hA, hR, hM⟩ := hX
  simp only [Bool.and_eq_true] at hnd
  obtain ⟨⟨hn1, hn2⟩, hn3⟩ := hnd
  have hdis : ∀ i ∈ isR, i ∉ isC := fun i hi h => by
    have := List.all_eq_true.mp hn3 i hi
    simp [h] at this
  intro H locs ls hP hD hS hl
  have hPc := hP.sub isC (gsel_fm (gsel_gw (cA := cA) (ad := ad) hwc))
  have hDc := hD.sub isC hn1 (gsel_gw hwc)
  have hFc := va_free hD hS hA isC (gsel_gw hwc)
  obtain ⟨c1, c2, c4, c5, c6, c7⟩ := hcal
  refine g_after (D := D) (cA := cA) (ad := ad) (va_runS (As := av.map (gv ad)) (rest := st.map (gv ad)) ⟨hxc, hb, hml, hown, hts⟩ (hC l D cA ad H.size) (va_cwS n hts (gGoodS hl1 c2 c4 c1) rfl hrc.1 hrc.2 ⟨c5, c6, c7⟩ (by rw [hR]; exact hroom.1))
      ⟨fun a U g mk q => ⟨q.1, q.2.1, q.2.2.1, va_K.moved (u := U) (U := U.calling g mk a) (Vm.Alike.refl U.vm) q.2.2.2.1, q.2.2.2.2⟩, fun U hU hW => ⟨rfl, by rw [hU], by rw [hU]; exact hPc, va_K.moved hW.alike hK, hDc.weaken (fun _ _ _ _ => trivial)⟩⟩ rfl (by rw [List.length_map]; exact hn) hl.1 ?_ (by show 2 * 0 + _ ≤ 8; rw [gstk_ok]; omega) hd ⟨by rw [hR]; exact hroom.2.1, by rw [hR]; exact hroom.2.2⟩) hS (fun q _ h => hFc q h) hFc (fun r w' H1 locs1 hp hP1 hD1 hz hk hS1 => ?_)
  · show ((av.reverse ++ st).map (gv ad)) = _
    rw [List.map_append, List.map_reverse]
  · obtain ⟨hP2, hD2⟩ := va_join hP hD isC isR (gsel_gw hwc) (gsel_gw (cA := cA) (ad := ad) hwr) hn2 hdis hk hFc hP1 hD1
    have k9 := k r w' hp H1 locs1 ls (by rw [gw_app]; exact hP2) (by rw [gw_app]; exact hD2) hS1 hl
    rw [List.map_append] at k9
    cases r <;> exact k9
