def gxb (w : Cond) : Bool := match w with
  | .castable _ _ => true
  | .declares _ => true
  | _ => false
theorem gxw_b : gxw.all gxb = true := by decide +kernel
theorem gxw_k {w : Cond} (h : w ∈ gxw) : (∃ a b : String, w = .castable a b) ∨ ∃ x : MethodName, w = .declares x := by
  have h1 := List.all_eq_true.mp gxw_b w h
  unfold gxb at h1
  split at h1
  next a b => exact Or.inl ⟨a, b, rfl⟩
  next x => exact Or.inr ⟨x, rfl⟩
  next => cases h1
theorem gET.same {A : Nat → Prop} {s U : State} (hv : s.vm = U.vm) (hh : s.heap = U.heap) (h : gET A s) : gET A U := by
  obtain ⟨h1, h2, h3, h4, h5⟩ := h
  have hal : s.vm.Alike U.vm := hv ▸ Vm.Alike.refl s.vm
  refine ⟨fun w hw => ?_, fun q hq => ?_, fun q hq => va_Nc.moved hal (h3 q hq), ?_, ?_⟩
  · rcases gxw_k hw with ⟨a, b, rfl⟩ | ⟨x, rfl⟩
    · exact va_Nw.same rfl hv (h1 _ hw)
    · exact va_Nw.same rfl hv (h1 _ hw)
  · obtain ⟨sa, h9⟩ := h2 q hq
    exact ⟨sa, vk_R.same hv.symm h9⟩
  · rw [← hh]; exact vx_Zq.moved hal h4
  · rw [← hh]; exact vx_Zq.moved hal h5
theorem gET.move {A B : Nat → Prop} {s U : State} (hW : s.WarmedH U.vm) (hB : ∀ q, B q → A q) (hk : ∀ a : Nat, a < s.heap.size → ¬ A a → U.heap[a]? = s.heap[a]?) (h : gET A s) : gET B U := by
  obtain ⟨h1, h2, h3, h4, h5⟩ := h
  refine ⟨fun w hw => ?_, fun q hq => ?_, fun q hq => va_Nc.moved hW.alike (h3 q hq), ?_, ?_⟩
  · rcases gxw_k hw with ⟨a, b, rfl⟩ | ⟨x, rfl⟩
    · exact va_Nw.warmC hW (h1 _ hw)
    · exact va_Nw.warmD hW (h1 _ hw)
  · obtain ⟨sa, h9⟩ := h2 q hq
    exact ⟨sa, vk_R.warm hW h9⟩
  · exact vx_Zq.narrow (vx_Zq.moved hW.alike (h4.kept hk)) hB
  · exact vx_Zq.narrow (vx_Zq.moved hW.alike (h5.kept hk)) hB
/-! the law's wrappers: a call that may throw, caught in the caller -/
def gTX (X : gX) : Prop := match X with
  | (_, l, _, _, s, _, _, _, _, _, _, _, A, H0, _) => gET A s ∧ l.stackTraces = false ∧ H0 = s.heap
/-- from a throw of E over this frame the machine comes to its goal -/
def gCat (X : gX) (mm : gM) (ad : Nat → Nat) (kc ks : Nat) (E : String) (S : gS) : Prop := match X with
  | (p, l, e, R, s, m, args, below, meth, c, D, cA, A, H0, Q) => ∀ (H : Heap) (locs : List Loc) (ls : Array Slot) (q : Addr) (ce : Cell), va_P D vwCl (gw cA ad S.1) H → va_D A (gw cA ad S.1) → va_S A H0 H locs → lv_has ls mm.2.1 (S.2.2.1.map (fun q => (q.1, gv ad q.2))) → H[q]? = some ce → ce.vm = .none → s.vm.findClass E = some ce.cls → vx_W p l e R s m args below meth c H locs kc ks Q (F0 m S.2.1 ls (S.2.2.2.map (gv ad))) q
theorem gtl {α : Type} (x : α) (wc : List α) : ((List.range wc.length).map (· + 1)).map (fun i => (x :: wc)[i]?) = wc.map some := by
  rw [List.map_map]
  apply List.ext_getElem
  · simp
  · intro i h1 h2
    simp
theorem va_D_tail {A : Nat → Prop} {x : Nat × va_E} {ws : va_W} (h : va_D A (x :: ws)) : va_D A ws := ⟨fun i j p q hi hj e => by
    have := h.1 (i + 1) (j + 1) p q (by simpa using hi) (by simpa using hj) e
    omega, fun k q hk => h.2 (k + 1) q (by simpa using hk)⟩
theorem gw_len {cA : Nat → ClassId} {ad : Nat → Nat} (w : gW) : (gw cA ad w).length = w.length := List.length_map _
section GAFTERT
variable {p : Program} {l : Launch} {e : Env} {R : Room} {s : State} {m : MethodId} {args : Array Value} {below : List Frame} {meth : Method} {c : Code} {H : Heap} {locs : List Loc} {cells slots : Nat} {Q : State → Prop}
variable {pc : Nat} {ls : Array Slot} {rest st0 : List Value} {a : Array Value} {A0 A1 : Nat → Prop} {H0 : Heap} {mc ms : Nat} {free : Addr → Prop} {D : va_G} {cA : Nat → ClassId} {ad : Nat → Nat}
theorem g_afterT {post : Option gV → gW → Prop} {thr : String → gW → Prop} (hr : vx_Run p l e R s m args below meth c H locs cells slots mc ms (F0 m pc ls st0) rest (gQ D cA ad A1 post a) (gXC D cA ad A1 thr) free) (hS : va_S A0 H0 H locs) (hA : ∀ q, q < H.size → A1 q → A0 q) (hf : ∀ q, free q → A0 q)
    (kx : ∀ (E : String) (w : gW) (H1 : Heap) (locs1 : List Loc) (q9 : Addr) (ce : Cell), thr E w → va_P D vwCl (gw cA ad w) H1 → va_D A1 (gw cA ad w) → H.size ≤ H1.size → (∀ q : Nat, q < H.size → ¬ A1 q → H1[q]? = H[q]?) → va_S A0 H0 H1 locs1 → H1[q9]? = some ce → ce.vm = .none → s.vm.findClass E = some ce.cls → vx_W p l e R s m args below meth c H1 locs1 (cells + mc) (slots + ms) Q (F0 m pc ls rest) q9)
    (kk : ∀ (r : Option gV) (w : gW) (H1 : Heap) (locs1 : List Loc), post r w → va_P D vwCl (gw cA ad w) H1 → va_D A1 (gw cA ad w) → H.size ≤ H1.size → (∀ q : Nat, q < H.size → ¬ A1 q → H1[q]? = H[q]?) → va_S A0 H0 H1 locs1 → W p l e R s m args below meth c H1 locs1 (cells + mc) (slots + ms) Q (F0 m (pc + 3) ls ((r.map (gv ad)).toList ++ rest))) : W p l e R s m args below meth c H locs cells slots Q (F0 m pc ls st0) := by
  intro T hT X
  rcases hr T hT X with ⟨v, st₀, t, T', L, h0, X', hL, e1, e2, ⟨⟨r, w, hv, hp, hP1, hK1, hD1⟩, hF⟩, st⟩ | ⟨q, st₀, t, T', L, E, ce, h0, X', hL, e1, e2, ⟨w, hp, hP1, hK1, hD1, hF⟩, hce, hcv, hcl, st⟩
  · cases hv
    obtain ⟨k1, k2, k3⟩ := vx_keep h0 e1 hS hA hf hL hF
    obtain ⟨t2, a1, b1⟩ := kk r w T'.heap (locs ++ L) hp (by rw [e1]; exact hP1) hD1 k1 k2 k3 T' rfl X'
    exact ⟨t2, st t2 a1, b1⟩
  · obtain ⟨k1, k2, k3⟩ := vx_keep h0 e1 hS hA hf hL hF
    obtain ⟨t2, a1, b1⟩ := kx E w T'.heap (locs ++ L) q ce hp (by rw [e1]; exact hP1) hD1 k1 k2 k3 (by rw [e1]; exact hce) hcv hcl T' rfl X'
    exact ⟨t2, st.trans a1, b1⟩
end GAFTERT
theorem G.callT {X : gX} {mm : gM} {ad : Nat → Nat} {kc ks : Nat} (hX : gOk X mm) (hT : gTX X) {x : Nat × gE} {wc : gW} {pc : Nat} {lv : List (Nat × gV)} {st : List gV} {idx : Nat} (hi : gfet pc mm.2.2.2.1 = some (.invokevirtual idx, 3)) {y : MethodName} {cm : gM} {ret : Option FieldType} {n mc ms : Nat} {o : Nat} {av : List gV} {post : Option gV → gW → Prop} {thr : String → gW → Prop}
    (hC : ∀ l D cA, l.stackTraces = false → gCT l D cA y cm ret mc ms (gr o :: av) wc post thr) (hl1 : Cond.methodLink mm.2.2.1 idx y ∈ gtb) (hcal : gCalV y cm ret n) (hn : av.length = n) {ci : Nat} {fs : List gV} (ho : gwl o wc = some (.inl (ci, fs))) (hci : (vwCl[ci]?).map (fun q => q.1) = some y.cls)
    (hrc : cm.2.2.2.2.2.cells = mc ∧ cm.2.2.2.2.2.slots = ms) (hroom : (cm.2.2.2.2.2.frames + 1 ≤ mm.2.2.2.2.2.frames ∧ 8 + (cm.2.1 + 11) + cm.2.2.2.2.2.locals ≤ mm.2.2.2.2.2.locals) ∧ kc + mc ≤ mm.2.2.2.2.2.cells ∧ ks + ms ≤ mm.2.2.2.2.2.slots) (hst : gstk st ≤ 8)
    (kx : ∀ (E : String) (w' : gW), thr E w' → gCat X mm ad (kc + mc) (ks + ms) E (x :: w', pc, lv, st))
    (k : ∀ (r : Option gV) (w' : gW), post r w' → G X mm ad (kc + mc) (ks + ms) (x :: w', pc + 3, lv, r.toList ++ st)) : G X mm ad kc ks (x :: wc, pc, lv, av.reverse ++ gr o :: st) := by
  have hd := (hX.m.1 _ (gfet_mem hi)).1
  obtain ⟨p, l, e, R, s, m, args, below, meth, c, D, cA, A, H0, Q⟩ := X
  obtain ⟨hxc, hb, hml, hown, hts, hK, hlk, hA, hR, hM⟩ := hX
  obtain ⟨hET, hst9, hH0⟩ := hT
  intro H locs ls hP hD hS hl
  have hC9 : ((List.range wc.length).map (· + 1)).map (fun i => (gw cA ad (x :: wc))[i]?) = (gw cA ad wc).map some := by
    have h9 := gtl (ad x.1, ge cA ad x.2) (gw cA ad wc)
    rw [gw_len] at h9
    exact h9
  have hR9 : [0].map (fun i => (gw cA ad (x :: wc))[i]?) = (gw cA ad [x]).map some := rfl
  have hPc : va_P D vwCl (gw cA ad wc) H := fun k9 q9 h9 => hP (k9 + 1) q9 (by
    show ((ad x.1, ge cA ad x.2) :: gw cA ad wc)[k9 + 1]? = some q9
    simpa using h9)
  have hDc : va_D A (gw cA ad wc) := va_D_tail (x := (ad x.1, ge cA ad x.2)) hD
  have hFc := va_free hD hS hA _ hC9
  obtain ⟨q0, hq, -⟩ := gwl_ix ho
  cases hcl : vwCl[ci]? with
  | none => rw [hcl] at hci; cases hci
  | some q9 =>
    rw [hcl] at hci
    have hci2 : q9.1 = y.cls := Option.some.inj hci
    obtain ⟨c1, c2, c3, c4, c5, c6, c7⟩ := hcal
    have hrecv := va_recv hK hPc hcl (gw_at (cA := cA) (ad := ad) hq)
    rw [hci2] at hrecv
    refine g_afterT (D := D) (cA := cA) (ad := ad) (vx_runV (As := av.map (gv ad)) (rest := st.map (gv ad)) (b := ad o) ⟨hxc, hb, hml, hown, hts⟩ (hC l D cA hst9 ad H.size) (cwV (C := y.cls) n hts (gGood hl1 c2 c3 c4 c1) rfl hrc.1 hrc.2 ⟨rfl, c5, c6, c7⟩ (by rw [hR]; exact hroom.1))
      ⟨fun a U g mk q => ⟨q.1, ⟨q.2.1.1, q.2.1.2.1, va_K.moved (u := U) (U := U.calling g mk a) (Vm.Alike.refl U.vm) q.2.1.2.2.1, q.2.1.2.2.2⟩, gET.same (s := U) (U := U.calling g mk a) rfl rfl q.2.2⟩, hrecv, fun U hU hW => ⟨rfl, ⟨by rw [hU], by rw [hU]; exact hPc, va_K.moved hW.alike hK, hDc.weaken (fun _ _ _ _ => trivial)⟩, gET.move hW (fun q h => hFc q h) (fun a h1 h2 => by rw [hU]; rw [hH0] at hS; exact hS.2.1 a h1 h2) hET⟩⟩ rfl (by rw [List.length_map]; exact hn) hl.1 ?_ (by show 2 * 0 + _ ≤ 8; rw [gstk_ok]; omega) hd ⟨by rw [hR]; exact hroom.2.1, by rw [hR]; exact hroom.2.2⟩) hS (fun q _ h => hFc q h) hFc (fun E w' H1 locs1 q9 ce hp hP1 hD1 hz hk hS1 hce hcv hclE => ?_) (fun r w' H1 locs1 hp hP1 hD1 hz hk hS1 => ?_)
    · show ((av.reverse ++ gr o :: st).map (gv ad)) = _
      rw [List.map_append, List.map_reverse]
      rfl
    · obtain ⟨hP2, hD2⟩ := va_join hP hD _ [0] hC9 hR9 rfl (fun i hi h => by
        rw [List.mem_singleton] at hi
        subst hi
        obtain ⟨j, -, hj⟩ := List.mem_map.mp h
        omega) hk hFc hP1 hD1
      exact kx E w' hp H1 locs1 ls q9 ce hP2 hD2 hS1 hl hce hcv hclE
    · obtain ⟨hP2, hD2⟩ := va_join hP hD _ [0] hC9 hR9 rfl (fun i hi h => by
        rw [List.mem_singleton] at hi
        subst hi
        obtain ⟨j, -, hj⟩ := List.mem_map.mp h
        omega) hk hFc hP1 hD1
      have k9 := k r w' hp H1 locs1 ls hP2 hD2 hS1 hl
      rw [List.map_append] at k9
      cases r <;> exact k9
/-- a method with handlers that returns -/
def gCW (l : Launch) (D : va_G) (cA : Nat → ClassId) (y : MethodName) (mm : gM) (hh : List (Nat × Nat × Nat × Nat)) (ret : Option FieldType) (mc ms : Nat) (av : List gV) (w : gW) (post : Option gV → gW → Prop) : Prop :=
  ∀ (ad : Nat → Nat) (sz : Nat), Met l y (Cond.codeWith y mm.1 mm.2.1 ret hh :: gtb) mm.2.2.2.2.2 (va_Pc (av.map (gv ad)) (fun U => gPre D cA ad sz w U ∧ gET (va_A (gw cA ad w) sz) U)) (gQ D cA ad (va_A (gw cA ad w) sz) post) mc ms (va_A (gw cA ad w) sz)
def gTab (X : gX) (hh : List (Nat × Nat × Nat × Nat)) : Prop := match X with
  | (_, _, _, _, _, _, _, _, _, c, _, _, _, _, _) => c.exceptionTable.toList = tableOf hh
theorem gCW_of {l : Launch} {D : va_G} {cA : Nat → ClassId} {y : MethodName} {mm : gM} {hh : List (Nat × Nat × Nat × Nat)} {ret : Option FieldType} {mc ms : Nat} {av : List gV} {w : gW} {post : Option gV → gW → Prop} (hst : l.stackTraces = false) (hy : Jvm.plainName y.cls = true) (hM : gOkM mm) (hc : y.cls = mm.2.2.1) (hav : gnlv av = true) (hn : av.length ≤ mm.2.1)
    (body : ∀ (X : gX) (ad : Nat → Nat), gOk X mm → gEnd X ad mc ms post ret → gTab X hh → gTX X → G X mm ad 0 0 (w, 0, gargs 0 av, [])) : gCW l D cA y mm hh ret mc ms av w post := by
  intro ad sz
  refine va_MetW (cc := mm.1) (maxL := mm.2.1) (ret := ret) (hh := hh) hy rfl ?_
  intro p e s m args below meth c s₁ B hml hv
  obtain ⟨rfl, ⟨hsz, hP, hK, hD0⟩, hEN⟩ := hv
  have hts := atoms_spec (ws := Cond.codeWith y mm.1 mm.2.1 ret hh :: gtb) B.pre
  have hown : s.vm.findClass y.cls = some m.cls := findClass_of_methodNamed B.named
  have hlocks := B.notSynchronized
  have htab := vx_table (x := y) B (hts _ List.mem_cons_self)
  subst hsz
  have hD := hD0.self (sz := s.heap.size)
  have hl := lv_entry (av.map (gv ad)) (n := mm.2.1) (by rw [(gargs_ok av 0 hav).2]; exact hn)
  rw [(gargs_ok av 0 hav).1] at hl
  rw [lg_entry_eq]
  have k := body (p, l, e, mm.2.2.2.2.2, s, m, (av.map (gv ad)).toArray, below, meth, c, D, cA, va_A (gw cA ad w) s.heap.size, s.heap, MQ below (gQ D cA ad (va_A (gw cA ad w) s.heap.size) post) (av.map (gv ad)).toArray s mc ms (va_A (gw cA ad w) s.heap.size)) ad
    ⟨B.exec, B.bytes, hml, by rw [← hc]; exact hown, fun x hx => hts x (List.mem_cons_of_mem _ hx), hK, hlocks, fun q h => Or.inr h, rfl, hM⟩ ⟨B.returns, rfl, rfl⟩ htab ⟨hEN, hst, rfl⟩
  exact k s.heap [] _ hP hD va_S.rf hl
/-- the handler 'store; number; return', for a throw of E that the rows ahead don't take -/
theorem g_cat {X : gX} {mm : gM} {ad : Nat → Nat} {kc ks : Nat} {post : Option gV → gW → Prop} {hh : List (Nat × Nat × Nat × Nat)} (hX : gOk X mm) (hE : gEnd X ad kc ks post (some .int)) (htab : gTab X hh) (hT : gTX X) {w : gW} {pc : Nat} {lv : List (Nat × gV)} {st : List gV} {E name : String} (pre : List ExceptionTableEntry) (x : ExceptionTableEntry) (suf : List ExceptionTableEntry) (hsp : tableOf hh = pre ++ x :: suf)
    (hpass : ∀ z ∈ pre, z.catchType ≠ 0 ∧ ∃ nm : String, Cond.classLink mm.2.2.1 z.catchType nm ∈ gtb ∧ (E, nm) ∈ gxn) (hcov : covers x pc = true) (h0 : x.catchType ≠ 0) (hlink : Cond.classLink mm.2.2.1 x.catchType name ∈ gtb) (hcast : Cond.castable E name ∈ gxw) {ka : Nat} {z : Int} (hk : ka < mm.2.1) (hs : (gfet x.handlerPc mm.2.2.2.1 = some (.astore ka, 2) ∧ gfet (x.handlerPc + 2) mm.2.2.2.1 = some (.iconst z, 1) ∧ gfet (x.handlerPc + 3) mm.2.2.2.1 = some (.ireturn, 1)) ∨ (∃ k4 : Fin 4, k4.val = ka ∧ gfet x.handlerPc mm.2.2.2.1 = some (.astore_n k4, 1) ∧ gfet (x.handlerPc + 1) mm.2.2.2.1 = some (.iconst z, 1) ∧ gfet (x.handlerPc + 2) mm.2.2.2.1 = some (.ireturn, 1))) (h : post (some (gi z)) w) : gCat X mm ad kc ks E (w, pc, lv, st) := by
  have hMm := hX.m
  obtain ⟨p, l, e, R, s, m, args, below, meth, c, D, cA, A, H0, Q⟩ := X
  obtain ⟨hxc, hb, hml, hown, hts, hK, hlk, hA, hR, hM⟩ := hX
  obtain ⟨hr, rfl, rfl⟩ := hE
  obtain ⟨⟨hxw, hxs, hxn, hZ1, hZ2⟩, -, -⟩ := hT
  intro H locs ls q ce hP hD hS hl hce hcv hcl
  refine vx_catch hown pre x suf (htab.trans hsp) (fun z9 hz9 => ?_) hcov h0 (hts _ hlink) (va_Nw.use rfl (hxw _ hcast)) hce hcv hcl ?_
  · obtain ⟨h1, nm, h2, h3⟩ := hpass z9 hz9
    exact Or.inr ⟨h1, nm, hts _ h2, hxn _ h3⟩
  · rcases hs with ⟨s1, s2, s3⟩ | ⟨k4, e4, s1, s2, s3⟩
    · have d1 := (hMm.1 _ (gfet_mem s1)).1
      have d2 := (hMm.1 _ (gfet_mem s2)).1
      have d3 := (hMm.1 _ (gfet_mem s3)).1
      refine lv_astore hxc hb d1 hl hk rfl (fun ls' hl' => ?_)
      refine lv_iconst hxc hb d2 rfl ?_
      exact W.iret hxc hb hr (fun t ht hW => ⟨⟨some (gi z), w, rfl, h, by rw [ht]; exact hP, va_K.moved hW.alike hK, hD⟩, hS.F ht⟩) hS.2.2 d3 hlk
    · have d1 := (hMm.1 _ (gfet_mem s1)).1
      have d2 := (hMm.1 _ (gfet_mem s2)).1
      have d3 := (hMm.1 _ (gfet_mem s3)).1
      refine lv_astore_n hxc hb d1 e4 hl hk rfl (fun ls' hl' => ?_)
      refine lv_iconst hxc hb d2 rfl ?_
      exact W.iret hxc hb hr (fun t ht hW => ⟨⟨some (gi z), w, rfl, h, by rw [ht]; exact hP, va_K.moved hW.alike hK, hD⟩, hS.F ht⟩) hS.2.2 d3 hlk
/-- what a wrapper answers, of a method that returns or throws; cs: which throw gives which number -/
def gWp (cs : List (String × Int)) (f : Int → Int) (post : Option gV → gW → Prop) (thr : String → gW → Prop) : Option gV → gW → Prop := fun r w =>
  (∃ (z : Int) (w' : gW), post (some (gi z)) w' ∧ r = some (gi 0) ∧ w = (82, gal 3 1 (gu f 0 z)) :: w') ∨ ∃ (E : String) (k : Int) (w' : gW), thr E w' ∧ (E, k) ∈ cs ∧ r = some (gi k) ∧ w = (82, gal 3 1 f) :: w'
set_option maxHeartbeats 4000000 in
set_option maxRecDepth 100000 in
theorem cw_point (l : Launch) (D : va_G) (cA : Nat → ClassId) (hst : l.stackTraces = false) (a1 : Int) (a2 : Int) (a3 : Int) (a4 : Int) (f : Int → Int) {wc : gW} {post : Option gV → gW → Prop} {thr : String → gW → Prop} (hC : ∀ l D cA, l.stackTraces = false → gCT l D cA yX7_point mX7_point (some .int) 1 6 [gr 0, gi a1, gi a2, gi a3, gi a4] wc post thr) {fs : List gV} (h0 : gwl 0 wc = some (.inl (8, fs))) (hz : ∀ r w', post r w' → ∃ z : Int, r = some (gi z) ∧ inR z) (ht : ∀ E w', thr E w' → E = xA) :
    gCW l D cA yL_point mL_point [(0, 14, 17, 13)] (some .int) 1 6 [gr 0, gi a1, gi a2, gi a3, gi a4, gr 82] ((82, gal 3 1 f) :: wc) (gWp [(xA, 1)] f post thr) := by
  refine gCW_of hst rfl kL_point rfl rfl (Nat.le_of_ble_eq_true rfl) (fun X ad hX hE hB hT => ?_)
  refine G.go hX 7 ((82, gal 3 1 f) :: wc, 9, [(0, gr 0), (1, gi a1), (2, gi a2), (3, gi a3), (4, gi a4), (5, gr 82)], [gi a4, gi a3, gi a2, gi a1, gr 0, gi 0, gr 82]) rfl trivial ?_
  refine G.callT (av := [gi a1, gi a2, gi a3, gi a4]) (o := 0) (st := [gi 0, gr 82]) hX hT rfl hC (by decide +kernel) aX7_point rfl h0 rfl ⟨rfl, rfl⟩ (by decide) (Nat.le_of_ble_eq_true rfl) (fun E w' hx => ?_) (fun r w' hp => ?_)
  · have ht9 := ht E w' hx
    subst ht9
    · exact g_cat (E := xA) hX hE hB hT [] ⟨0, 14, 17, 13⟩ [] rfl (fun z hz => nomatch hz) rfl (by decide) (name := xA) (by decide +kernel) (by decide +kernel) (ka := 6) (z := 1) (Nat.le_of_ble_eq_true rfl) (Or.inl ⟨rfl, rfl, rfl⟩) (Or.inr ⟨_, 1, w', hx, by decide, rfl, rfl⟩)
  · obtain ⟨z, rfl, hz9⟩ := hz r w' hp
    show G X mL_point ad 1 6 ((82, gal 3 1 f) :: w', 12, [(0, gr 0), (1, gi a1), (2, gi a2), (3, gi a3), (4, gi a4), (5, gr 82)], [gi z, gi 0, gr 82])
    refine g_i2l hX rfl hz9 ?_
    refine g_last hX (o := 82) (n := 1) (f := f) rfl rfl (by omega) ?_
    refine G.go hX 2 ((82, gal 3 1 (gu f 0 z)) :: w', 22, [(0, gr 0), (1, gi a1), (2, gi a2), (3, gi a3), (4, gi a4), (5, gr 82)], [gi 0]) rfl trivial ?_
    exact g_iret hX hE rfl (Or.inl ⟨z, w', hp, rfl, rfl⟩)
set_option maxHeartbeats 4000000 in
set_option maxRecDepth 100000 in
theorem cw_bound (l : Launch) (D : va_G) (cA : Nat → ClassId) (hst : l.stackTraces = false) (a1 : Int) (a2 : Int) (f : Int → Int) {wc : gW} {post : Option gV → gW → Prop} {thr : String → gW → Prop} (hC : ∀ l D cA, l.stackTraces = false → gCT l D cA yX7_bound mX7_bound (some .int) 1 6 [gr 0, gi a1, gi a2] wc post thr) {fs : List gV} (h0 : gwl 0 wc = some (.inl (8, fs))) (hz : ∀ r w', post r w' → ∃ z : Int, r = some (gi z) ∧ inR z) (ht : ∀ E w', thr E w' → E = xI) :
    gCW l D cA yL_bound mL_bound [(0, 10, 13, 19)] (some .int) 1 6 [gr 0, gi a1, gi a2, gr 82] ((82, gal 3 1 f) :: wc) (gWp [(xI, 1)] f post thr) := by
  refine gCW_of hst rfl kL_bound rfl rfl (Nat.le_of_ble_eq_true rfl) (fun X ad hX hE hB hT => ?_)
  refine G.go hX 5 ((82, gal 3 1 f) :: wc, 5, [(0, gr 0), (1, gi a1), (2, gi a2), (3, gr 82)], [gi a2, gi a1, gr 0, gi 0, gr 82]) rfl trivial ?_
  refine G.callT (av := [gi a1, gi a2]) (o := 0) (st := [gi 0, gr 82]) hX hT rfl hC (by decide +kernel) aX7_bound rfl h0 rfl ⟨rfl, rfl⟩ (by decide) (Nat.le_of_ble_eq_true rfl) (fun E w' hx => ?_) (fun r w' hp => ?_)
  · have ht9 := ht E w' hx
    subst ht9
    · exact g_cat (E := xI) hX hE hB hT [] ⟨0, 10, 13, 19⟩ [] rfl (fun z hz => nomatch hz) rfl (by decide) (name := xI) (by decide +kernel) (by decide +kernel) (ka := 4) (z := 1) (Nat.le_of_ble_eq_true rfl) (Or.inl ⟨rfl, rfl, rfl⟩) (Or.inr ⟨_, 1, w', hx, by decide, rfl, rfl⟩)
  · obtain ⟨z, rfl, hz9⟩ := hz r w' hp
    show G X mL_bound ad 1 6 ((82, gal 3 1 f) :: w', 8, [(0, gr 0), (1, gi a1), (2, gi a2), (3, gr 82)], [gi z, gi 0, gr 82])
    refine g_i2l hX rfl hz9 ?_
    refine g_last hX (o := 82) (n := 1) (f := f) rfl rfl (by omega) ?_
    refine G.go hX 2 ((82, gal 3 1 (gu f 0 z)) :: w', 18, [(0, gr 0), (1, gi a1), (2, gi a2), (3, gr 82)], [gi 0]) rfl trivial ?_
    exact g_iret hX hE rfl (Or.inl ⟨z, w', hp, rfl, rfl⟩)
set_option maxHeartbeats 4000000 in
set_option maxRecDepth 100000 in
theorem cw_box (l : Launch) (D : va_G) (cA : Nat → ClassId) (hst : l.stackTraces = false) (a1 : Int) (a2 : Int) (f : Int → Int) {wc : gW} {post : Option gV → gW → Prop} {thr : String → gW → Prop} (hC : ∀ l D cA, l.stackTraces = false → gCT l D cA yX7_box mX7_box (some .int) 1 6 [gr 0, gi a1, gi a2] wc post thr) {fs : List gV} (h0 : gwl 0 wc = some (.inl (8, fs))) (hz : ∀ r w', post r w' → ∃ z : Int, r = some (gi z) ∧ inR z) (ht : ∀ E w', thr E w' → E = xX) :
    gCW l D cA yL_box mL_box [(0, 10, 13, 24)] (some .int) 1 6 [gr 0, gi a1, gi a2, gr 82] ((82, gal 3 1 f) :: wc) (gWp [(xX, 1)] f post thr) := by
  refine gCW_of hst rfl kL_box rfl rfl (Nat.le_of_ble_eq_true rfl) (fun X ad hX hE hB hT => ?_)
  refine G.go hX 5 ((82, gal 3 1 f) :: wc, 5, [(0, gr 0), (1, gi a1), (2, gi a2), (3, gr 82)], [gi a2, gi a1, gr 0, gi 0, gr 82]) rfl trivial ?_
  refine G.callT (av := [gi a1, gi a2]) (o := 0) (st := [gi 0, gr 82]) hX hT rfl hC (by decide +kernel) aX7_box rfl h0 rfl ⟨rfl, rfl⟩ (by decide) (Nat.le_of_ble_eq_true rfl) (fun E w' hx => ?_) (fun r w' hp => ?_)
  · have ht9 := ht E w' hx
    subst ht9
    · exact g_cat (E := xX) hX hE hB hT [] ⟨0, 10, 13, 24⟩ [] rfl (fun z hz => nomatch hz) rfl (by decide) (name := xX) (by decide +kernel) (by decide +kernel) (ka := 4) (z := 1) (Nat.le_of_ble_eq_true rfl) (Or.inl ⟨rfl, rfl, rfl⟩) (Or.inr ⟨_, 1, w', hx, by decide, rfl, rfl⟩)
  · obtain ⟨z, rfl, hz9⟩ := hz r w' hp
    show G X mL_box ad 1 6 ((82, gal 3 1 f) :: w', 8, [(0, gr 0), (1, gi a1), (2, gi a2), (3, gr 82)], [gi z, gi 0, gr 82])
    refine g_i2l hX rfl hz9 ?_
    refine g_last hX (o := 82) (n := 1) (f := f) rfl rfl (by omega) ?_
    refine G.go hX 2 ((82, gal 3 1 (gu f 0 z)) :: w', 18, [(0, gr 0), (1, gi a1), (2, gi a2), (3, gr 82)], [gi 0]) rfl trivial ?_
    exact g_iret hX hE rfl (Or.inl ⟨z, w', hp, rfl, rfl⟩)
set_option maxHeartbeats 4000000 in
set_option maxRecDepth 100000 in
theorem cw_word (l : Launch) (D : va_G) (cA : Nat → ClassId) (hst : l.stackTraces = false) (a1 : Int) (a2 : Int) (a3 : Int) (a4 : Int) (f : Int → Int) {wc : gW} {post : Option gV → gW → Prop} {thr : String → gW → Prop} (hC : ∀ l D cA, l.stackTraces = false → gCT l D cA yX7_word mX7_word (some .int) 1 6 [gr 0, gi a1, gi a2, gi a3, gi a4] wc post thr) {fs : List gV} (h0 : gwl 0 wc = some (.inl (8, fs))) (hz : ∀ r w', post r w' → ∃ z : Int, r = some (gi z) ∧ inR z) (ht : ∀ E w', thr E w' → E = xA ∨ E = xI ∨ E = xU) :
    gCW l D cA yL_word mL_word [(0, 14, 17, 13), (0, 14, 21, 19), (0, 14, 25, 29)] (some .int) 1 6 [gr 0, gi a1, gi a2, gi a3, gi a4, gr 82] ((82, gal 3 1 f) :: wc) (gWp [(xA, 1), (xI, 2), (xU, 3)] f post thr) := by
  refine gCW_of hst rfl kL_word rfl rfl (Nat.le_of_ble_eq_true rfl) (fun X ad hX hE hB hT => ?_)
  refine G.go hX 7 ((82, gal 3 1 f) :: wc, 9, [(0, gr 0), (1, gi a1), (2, gi a2), (3, gi a3), (4, gi a4), (5, gr 82)], [gi a4, gi a3, gi a2, gi a1, gr 0, gi 0, gr 82]) rfl trivial ?_
  refine G.callT (av := [gi a1, gi a2, gi a3, gi a4]) (o := 0) (st := [gi 0, gr 82]) hX hT rfl hC (by decide +kernel) aX7_word rfl h0 rfl ⟨rfl, rfl⟩ (by decide) (Nat.le_of_ble_eq_true rfl) (fun E w' hx => ?_) (fun r w' hp => ?_)
  · have ht9 := ht E w' hx
    rcases ht9 with rfl | rfl | rfl
    · exact g_cat (E := xA) hX hE hB hT [] ⟨0, 14, 17, 13⟩ [⟨0, 14, 21, 19⟩, ⟨0, 14, 25, 29⟩] rfl (fun z hz => nomatch hz) rfl (by decide) (name := xA) (by decide +kernel) (by decide +kernel) (ka := 6) (z := 1) (Nat.le_of_ble_eq_true rfl) (Or.inl ⟨rfl, rfl, rfl⟩) (Or.inr ⟨_, 1, w', hx, by decide, rfl, rfl⟩)
    · exact g_cat (E := xI) hX hE hB hT [⟨0, 14, 17, 13⟩] ⟨0, 14, 21, 19⟩ [⟨0, 14, 25, 29⟩] rfl (List.forall_mem_cons.mpr ⟨⟨by decide, xA, by decide +kernel, by decide⟩, (fun z hz => nomatch hz)⟩) rfl (by decide) (name := xI) (by decide +kernel) (by decide +kernel) (ka := 6) (z := 2) (Nat.le_of_ble_eq_true rfl) (Or.inl ⟨rfl, rfl, rfl⟩) (Or.inr ⟨_, 2, w', hx, by decide, rfl, rfl⟩)
    · exact g_cat (E := xU) hX hE hB hT [⟨0, 14, 17, 13⟩, ⟨0, 14, 21, 19⟩] ⟨0, 14, 25, 29⟩ [] rfl (List.forall_mem_cons.mpr ⟨⟨by decide, xA, by decide +kernel, by decide⟩, (List.forall_mem_cons.mpr ⟨⟨by decide, xI, by decide +kernel, by decide⟩, (fun z hz => nomatch hz)⟩)⟩) rfl (by decide) (name := xU) (by decide +kernel) (by decide +kernel) (ka := 6) (z := 3) (Nat.le_of_ble_eq_true rfl) (Or.inl ⟨rfl, rfl, rfl⟩) (Or.inr ⟨_, 3, w', hx, by decide, rfl, rfl⟩)
  · obtain ⟨z, rfl, hz9⟩ := hz r w' hp
    show G X mL_word ad 1 6 ((82, gal 3 1 f) :: w', 12, [(0, gr 0), (1, gi a1), (2, gi a2), (3, gi a3), (4, gi a4), (5, gr 82)], [gi z, gi 0, gr 82])
    refine g_i2l hX rfl hz9 ?_
    refine g_last hX (o := 82) (n := 1) (f := f) rfl rfl (by omega) ?_
    refine G.go hX 2 ((82, gal 3 1 (gu f 0 z)) :: w', 30, [(0, gr 0), (1, gi a1), (2, gi a2), (3, gi a3), (4, gi a4), (5, gr 82)], [gi 0]) rfl trivial ?_
    exact g_iret hX hE rfl (Or.inl ⟨z, w', hp, rfl, rfl⟩)
set_option maxHeartbeats 4000000 in
set_option maxRecDepth 100000 in
theorem cw_words (l : Launch) (D : va_G) (cA : Nat → ClassId) (hst : l.stackTraces = false) (a1 : Int) (a2 : Int) (f : Int → Int) {wc : gW} {post : Option gV → gW → Prop} {thr : String → gW → Prop} (hC : ∀ l D cA, l.stackTraces = false → gCT l D cA yX7_words mX7_words (some .int) 1 6 [gr 0, gi a1, gi a2] wc post thr) {fs : List gV} (h0 : gwl 0 wc = some (.inl (8, fs))) (hz : ∀ r w', post r w' → ∃ z : Int, r = some (gi z) ∧ inR z) (ht : ∀ E w', thr E w' → E = xX) :
    gCW l D cA yL_words mL_words [(0, 10, 13, 24)] (some .int) 1 6 [gr 0, gi a1, gi a2, gr 82] ((82, gal 3 1 f) :: wc) (gWp [(xX, 1)] f post thr) := by
  refine gCW_of hst rfl kL_words rfl rfl (Nat.le_of_ble_eq_true rfl) (fun X ad hX hE hB hT => ?_)
  refine G.go hX 5 ((82, gal 3 1 f) :: wc, 5, [(0, gr 0), (1, gi a1), (2, gi a2), (3, gr 82)], [gi a2, gi a1, gr 0, gi 0, gr 82]) rfl trivial ?_
  refine G.callT (av := [gi a1, gi a2]) (o := 0) (st := [gi 0, gr 82]) hX hT rfl hC (by decide +kernel) aX7_words rfl h0 rfl ⟨rfl, rfl⟩ (by decide) (Nat.le_of_ble_eq_true rfl) (fun E w' hx => ?_) (fun r w' hp => ?_)
  · have ht9 := ht E w' hx
    subst ht9
    · exact g_cat (E := xX) hX hE hB hT [] ⟨0, 10, 13, 24⟩ [] rfl (fun z hz => nomatch hz) rfl (by decide) (name := xX) (by decide +kernel) (by decide +kernel) (ka := 4) (z := 1) (Nat.le_of_ble_eq_true rfl) (Or.inl ⟨rfl, rfl, rfl⟩) (Or.inr ⟨_, 1, w', hx, by decide, rfl, rfl⟩)
  · obtain ⟨z, rfl, hz9⟩ := hz r w' hp
    show G X mL_words ad 1 6 ((82, gal 3 1 f) :: w', 8, [(0, gr 0), (1, gi a1), (2, gi a2), (3, gr 82)], [gi z, gi 0, gr 82])
    refine g_i2l hX rfl hz9 ?_
    refine g_last hX (o := 82) (n := 1) (f := f) rfl rfl (by omega) ?_
    refine G.go hX 2 ((82, gal 3 1 (gu f 0 z)) :: w', 18, [(0, gr 0), (1, gi a1), (2, gi a2), (3, gr 82)], [gi 0]) rfl trivial ?_
    exact g_iret hX hE rfl (Or.inl ⟨z, w', hp, rfl, rfl⟩)
set_option maxHeartbeats 4000000 in
set_option maxRecDepth 100000 in
theorem cw_size (l : Launch) (D : va_G) (cA : Nat → ClassId) (hst : l.stackTraces = false) (a1 : Int) (a2 : Int) (a3 : Int) (a4 : Int) (f : Int → Int) {wc : gW} {post : Option gV → gW → Prop} {thr : String → gW → Prop} (hC : ∀ l D cA, l.stackTraces = false → gCT l D cA yX7_size mX7_size (some .int) 1 6 [gr 0, gi a1, gi a2, gi a3, gi a4] wc post thr) {fs : List gV} (h0 : gwl 0 wc = some (.inl (8, fs))) (hz : ∀ r w', post r w' → ∃ z : Int, r = some (gi z) ∧ inR z) (ht : ∀ E w', thr E w' → E = xA ∨ E = xI) :
    gCW l D cA yL_size mL_size [(0, 14, 17, 13), (0, 14, 21, 19)] (some .int) 1 6 [gr 0, gi a1, gi a2, gi a3, gi a4, gr 82] ((82, gal 3 1 f) :: wc) (gWp [(xA, 1), (xI, 2)] f post thr) := by
  refine gCW_of hst rfl kL_size rfl rfl (Nat.le_of_ble_eq_true rfl) (fun X ad hX hE hB hT => ?_)
  refine G.go hX 7 ((82, gal 3 1 f) :: wc, 9, [(0, gr 0), (1, gi a1), (2, gi a2), (3, gi a3), (4, gi a4), (5, gr 82)], [gi a4, gi a3, gi a2, gi a1, gr 0, gi 0, gr 82]) rfl trivial ?_
  refine G.callT (av := [gi a1, gi a2, gi a3, gi a4]) (o := 0) (st := [gi 0, gr 82]) hX hT rfl hC (by decide +kernel) aX7_size rfl h0 rfl ⟨rfl, rfl⟩ (by decide) (Nat.le_of_ble_eq_true rfl) (fun E w' hx => ?_) (fun r w' hp => ?_)
  · have ht9 := ht E w' hx
    rcases ht9 with rfl | rfl
    · exact g_cat (E := xA) hX hE hB hT [] ⟨0, 14, 17, 13⟩ [⟨0, 14, 21, 19⟩] rfl (fun z hz => nomatch hz) rfl (by decide) (name := xA) (by decide +kernel) (by decide +kernel) (ka := 6) (z := 1) (Nat.le_of_ble_eq_true rfl) (Or.inl ⟨rfl, rfl, rfl⟩) (Or.inr ⟨_, 1, w', hx, by decide, rfl, rfl⟩)
    · exact g_cat (E := xI) hX hE hB hT [⟨0, 14, 17, 13⟩] ⟨0, 14, 21, 19⟩ [] rfl (List.forall_mem_cons.mpr ⟨⟨by decide, xA, by decide +kernel, by decide⟩, (fun z hz => nomatch hz)⟩) rfl (by decide) (name := xI) (by decide +kernel) (by decide +kernel) (ka := 6) (z := 2) (Nat.le_of_ble_eq_true rfl) (Or.inl ⟨rfl, rfl, rfl⟩) (Or.inr ⟨_, 2, w', hx, by decide, rfl, rfl⟩)
  · obtain ⟨z, rfl, hz9⟩ := hz r w' hp
    show G X mL_size ad 1 6 ((82, gal 3 1 f) :: w', 12, [(0, gr 0), (1, gi a1), (2, gi a2), (3, gi a3), (4, gi a4), (5, gr 82)], [gi z, gi 0, gr 82])
    refine g_i2l hX rfl hz9 ?_
    refine g_last hX (o := 82) (n := 1) (f := f) rfl rfl (by omega) ?_
    refine G.go hX 2 ((82, gal 3 1 (gu f 0 z)) :: w', 26, [(0, gr 0), (1, gi a1), (2, gi a2), (3, gi a3), (4, gi a4), (5, gr 82)], [gi 0]) rfl trivial ?_
    exact g_iret hX hE rfl (Or.inl ⟨z, w', hp, rfl, rfl⟩)
set_option maxHeartbeats 4000000 in
set_option maxRecDepth 100000 in
theorem cw_missing (l : Launch) (D : va_G) (cA : Nat → ClassId) (hst : l.stackTraces = false) (a1 : Int) (f : Int → Int) {wc : gW} {post : Option gV → gW → Prop} {thr : String → gW → Prop} (hC : ∀ l D cA, l.stackTraces = false → gCT l D cA yX7_missing mX7_missing (some .int) 1 6 [gr 0, gi a1] wc post thr) {fs : List gV} (h0 : gwl 0 wc = some (.inl (8, fs))) (hz : ∀ r w', post r w' → ∃ z : Int, r = some (gi z) ∧ inR z) (ht : ∀ E w', thr E w' → E = xX) :
    gCW l D cA yL_missing mL_missing [(0, 9, 12, 24)] (some .int) 1 6 [gr 0, gi a1, gr 82] ((82, gal 3 1 f) :: wc) (gWp [(xX, 1)] f post thr) := by
  refine gCW_of hst rfl kL_missing rfl rfl (Nat.le_of_ble_eq_true rfl) (fun X ad hX hE hB hT => ?_)
  refine G.go hX 4 ((82, gal 3 1 f) :: wc, 4, [(0, gr 0), (1, gi a1), (2, gr 82)], [gi a1, gr 0, gi 0, gr 82]) rfl trivial ?_
  refine G.callT (av := [gi a1]) (o := 0) (st := [gi 0, gr 82]) hX hT rfl hC (by decide +kernel) aX7_missing rfl h0 rfl ⟨rfl, rfl⟩ (by decide) (Nat.le_of_ble_eq_true rfl) (fun E w' hx => ?_) (fun r w' hp => ?_)
  · have ht9 := ht E w' hx
    subst ht9
    · exact g_cat (E := xX) hX hE hB hT [] ⟨0, 9, 12, 24⟩ [] rfl (fun z hz => nomatch hz) rfl (by decide) (name := xX) (by decide +kernel) (by decide +kernel) (ka := 3) (z := 1) (Nat.le_of_ble_eq_true rfl) (Or.inr ⟨3, rfl, rfl, rfl, rfl⟩) (Or.inr ⟨_, 1, w', hx, by decide, rfl, rfl⟩)
  · obtain ⟨z, rfl, hz9⟩ := hz r w' hp
    show G X mL_missing ad 1 6 ((82, gal 3 1 f) :: w', 7, [(0, gr 0), (1, gi a1), (2, gr 82)], [gi z, gi 0, gr 82])
    refine g_i2l hX rfl hz9 ?_
    refine g_last hX (o := 82) (n := 1) (f := f) rfl rfl (by omega) ?_
    refine G.go hX 2 ((82, gal 3 1 (gu f 0 z)) :: w', 16, [(0, gr 0), (1, gi a1), (2, gr 82)], [gi 0]) rfl trivial ?_
    exact g_iret hX hE rfl (Or.inl ⟨z, w', hp, rfl, rfl⟩)
set_option maxHeartbeats 4000000 in
set_option maxRecDepth 100000 in
theorem cw_rule (l : Launch) (D : va_G) (cA : Nat → ClassId) (hst : l.stackTraces = false) (a1 : Int) (a2 : Int) (a3 : Int) (f : Int → Int) {wc : gW} {post : Option gV → gW → Prop} {thr : String → gW → Prop} (hC : ∀ l D cA, l.stackTraces = false → gCT l D cA yX7_rule mX7_rule (some .int) 1 6 [gr 0, gi a1, gi a2, gi a3] wc post thr) {fs : List gV} (h0 : gwl 0 wc = some (.inl (8, fs))) (hz : ∀ r w', post r w' → ∃ z : Int, r = some (gi z) ∧ inR z) (ht : ∀ E w', thr E w' → E = xI ∨ E = xU) :
    gCW l D cA yL_rule mL_rule [(0, 12, 15, 19), (0, 12, 19, 29)] (some .int) 1 6 [gr 0, gi a1, gi a2, gi a3, gr 82] ((82, gal 3 1 f) :: wc) (gWp [(xI, 1), (xU, 2)] f post thr) := by
  refine gCW_of hst rfl kL_rule rfl rfl (Nat.le_of_ble_eq_true rfl) (fun X ad hX hE hB hT => ?_)
  refine G.go hX 6 ((82, gal 3 1 f) :: wc, 7, [(0, gr 0), (1, gi a1), (2, gi a2), (3, gi a3), (4, gr 82)], [gi a3, gi a2, gi a1, gr 0, gi 0, gr 82]) rfl trivial ?_
  refine G.callT (av := [gi a1, gi a2, gi a3]) (o := 0) (st := [gi 0, gr 82]) hX hT rfl hC (by decide +kernel) aX7_rule rfl h0 rfl ⟨rfl, rfl⟩ (by decide) (Nat.le_of_ble_eq_true rfl) (fun E w' hx => ?_) (fun r w' hp => ?_)
  · have ht9 := ht E w' hx
    rcases ht9 with rfl | rfl
    · exact g_cat (E := xI) hX hE hB hT [] ⟨0, 12, 15, 19⟩ [⟨0, 12, 19, 29⟩] rfl (fun z hz => nomatch hz) rfl (by decide) (name := xI) (by decide +kernel) (by decide +kernel) (ka := 5) (z := 1) (Nat.le_of_ble_eq_true rfl) (Or.inl ⟨rfl, rfl, rfl⟩) (Or.inr ⟨_, 1, w', hx, by decide, rfl, rfl⟩)
    · exact g_cat (E := xU) hX hE hB hT [⟨0, 12, 15, 19⟩] ⟨0, 12, 19, 29⟩ [] rfl (List.forall_mem_cons.mpr ⟨⟨by decide, xI, by decide +kernel, by decide⟩, (fun z hz => nomatch hz)⟩) rfl (by decide) (name := xU) (by decide +kernel) (by decide +kernel) (ka := 5) (z := 2) (Nat.le_of_ble_eq_true rfl) (Or.inl ⟨rfl, rfl, rfl⟩) (Or.inr ⟨_, 2, w', hx, by decide, rfl, rfl⟩)
  · obtain ⟨z, rfl, hz9⟩ := hz r w' hp
    show G X mL_rule ad 1 6 ((82, gal 3 1 f) :: w', 10, [(0, gr 0), (1, gi a1), (2, gi a2), (3, gi a3), (4, gr 82)], [gi z, gi 0, gr 82])
    refine g_i2l hX rfl hz9 ?_
    refine g_last hX (o := 82) (n := 1) (f := f) rfl rfl (by omega) ?_
    refine G.go hX 2 ((82, gal 3 1 (gu f 0 z)) :: w', 24, [(0, gr 0), (1, gi a1), (2, gi a2), (3, gi a3), (4, gr 82)], [gi 0]) rfl trivial ?_
    exact g_iret hX hE rfl (Or.inl ⟨z, w', hp, rfl, rfl⟩)
set_option maxHeartbeats 4000000 in
set_option maxRecDepth 100000 in
theorem cw_fault (l : Launch) (D : va_G) (cA : Nat → ClassId) (hst : l.stackTraces = false) (a1 : Int) (a2 : Int) (f : Int → Int) {wc : gW} {post : Option gV → gW → Prop} {thr : String → gW → Prop} (hC : ∀ l D cA, l.stackTraces = false → gCT l D cA yX7_fault mX7_fault (some .int) 1 6 [gr 0, gi a1, gi a2] wc post thr) {fs : List gV} (h0 : gwl 0 wc = some (.inl (8, fs))) (hz : ∀ r w', post r w' → ∃ z : Int, r = some (gi z) ∧ inR z) (ht : ∀ E w', thr E w' → E = xX) :
    gCW l D cA yL_fault mL_fault [(0, 10, 13, 24)] (some .int) 1 6 [gr 0, gi a1, gi a2, gr 82] ((82, gal 3 1 f) :: wc) (gWp [(xX, 1)] f post thr) := by
  refine gCW_of hst rfl kL_fault rfl rfl (Nat.le_of_ble_eq_true rfl) (fun X ad hX hE hB hT => ?_)
  refine G.go hX 5 ((82, gal 3 1 f) :: wc, 5, [(0, gr 0), (1, gi a1), (2, gi a2), (3, gr 82)], [gi a2, gi a1, gr 0, gi 0, gr 82]) rfl trivial ?_
  refine G.callT (av := [gi a1, gi a2]) (o := 0) (st := [gi 0, gr 82]) hX hT rfl hC (by decide +kernel) aX7_fault rfl h0 rfl ⟨rfl, rfl⟩ (by decide) (Nat.le_of_ble_eq_true rfl) (fun E w' hx => ?_) (fun r w' hp => ?_)
  · have ht9 := ht E w' hx
    subst ht9
    · exact g_cat (E := xX) hX hE hB hT [] ⟨0, 10, 13, 24⟩ [] rfl (fun z hz => nomatch hz) rfl (by decide) (name := xX) (by decide +kernel) (by decide +kernel) (ka := 4) (z := 1) (Nat.le_of_ble_eq_true rfl) (Or.inl ⟨rfl, rfl, rfl⟩) (Or.inr ⟨_, 1, w', hx, by decide, rfl, rfl⟩)
  · obtain ⟨z, rfl, hz9⟩ := hz r w' hp
    show G X mL_fault ad 1 6 ((82, gal 3 1 f) :: w', 8, [(0, gr 0), (1, gi a1), (2, gi a2), (3, gr 82)], [gi z, gi 0, gr 82])
    refine g_i2l hX rfl hz9 ?_
    refine g_last hX (o := 82) (n := 1) (f := f) rfl rfl (by omega) ?_
    refine G.go hX 2 ((82, gal 3 1 (gu f 0 z)) :: w', 18, [(0, gr 0), (1, gi a1), (2, gi a2), (3, gr 82)], [gi 0]) rfl trivial ?_
    exact g_iret hX hE rfl (Or.inl ⟨z, w', hp, rfl, rfl⟩)
set_option maxHeartbeats 4000000 in
set_option maxRecDepth 100000 in
theorem cw_approve (l : Launch) (D : va_G) (cA : Nat → ClassId) (hst : l.stackTraces = false) (a1 : Int) (a2 : Int) (a3 : Int) (f : Int → Int) {wc : gW} {post : Option gV → gW → Prop} {thr : String → gW → Prop} (hC : ∀ l D cA, l.stackTraces = false → gCT l D cA yX7_approve mX7_approve (some .int) 1 6 [gr 0, gi a1, gi a2, gi a3] wc post thr) {fs : List gV} (h0 : gwl 0 wc = some (.inl (8, fs))) (hz : ∀ r w', post r w' → ∃ z : Int, r = some (gi z) ∧ inR z) (ht : ∀ E w', thr E w' → E = xA ∨ E = xI ∨ E = xU) :
    gCW l D cA yL_approve mL_approve [(0, 12, 15, 13), (0, 12, 19, 19), (0, 12, 23, 29)] (some .int) 1 6 [gr 0, gi a1, gi a2, gi a3, gr 82] ((82, gal 3 1 f) :: wc) (gWp [(xA, 1), (xI, 2), (xU, 3)] f post thr) := by
  refine gCW_of hst rfl kL_approve rfl rfl (Nat.le_of_ble_eq_true rfl) (fun X ad hX hE hB hT => ?_)
  refine G.go hX 6 ((82, gal 3 1 f) :: wc, 7, [(0, gr 0), (1, gi a1), (2, gi a2), (3, gi a3), (4, gr 82)], [gi a3, gi a2, gi a1, gr 0, gi 0, gr 82]) rfl trivial ?_
  refine G.callT (av := [gi a1, gi a2, gi a3]) (o := 0) (st := [gi 0, gr 82]) hX hT rfl hC (by decide +kernel) aX7_approve rfl h0 rfl ⟨rfl, rfl⟩ (by decide) (Nat.le_of_ble_eq_true rfl) (fun E w' hx => ?_) (fun r w' hp => ?_)
  · have ht9 := ht E w' hx
    rcases ht9 with rfl | rfl | rfl
    · exact g_cat (E := xA) hX hE hB hT [] ⟨0, 12, 15, 13⟩ [⟨0, 12, 19, 19⟩, ⟨0, 12, 23, 29⟩] rfl (fun z hz => nomatch hz) rfl (by decide) (name := xA) (by decide +kernel) (by decide +kernel) (ka := 5) (z := 1) (Nat.le_of_ble_eq_true rfl) (Or.inl ⟨rfl, rfl, rfl⟩) (Or.inr ⟨_, 1, w', hx, by decide, rfl, rfl⟩)
    · exact g_cat (E := xI) hX hE hB hT [⟨0, 12, 15, 13⟩] ⟨0, 12, 19, 19⟩ [⟨0, 12, 23, 29⟩] rfl (List.forall_mem_cons.mpr ⟨⟨by decide, xA, by decide +kernel, by decide⟩, (fun z hz => nomatch hz)⟩) rfl (by decide) (name := xI) (by decide +kernel) (by decide +kernel) (ka := 5) (z := 2) (Nat.le_of_ble_eq_true rfl) (Or.inl ⟨rfl, rfl, rfl⟩) (Or.inr ⟨_, 2, w', hx, by decide, rfl, rfl⟩)
    · exact g_cat (E := xU) hX hE hB hT [⟨0, 12, 15, 13⟩, ⟨0, 12, 19, 19⟩] ⟨0, 12, 23, 29⟩ [] rfl (List.forall_mem_cons.mpr ⟨⟨by decide, xA, by decide +kernel, by decide⟩, (List.forall_mem_cons.mpr ⟨⟨by decide, xI, by decide +kernel, by decide⟩, (fun z hz => nomatch hz)⟩)⟩) rfl (by decide) (name := xU) (by decide +kernel) (by decide +kernel) (ka := 5) (z := 3) (Nat.le_of_ble_eq_true rfl) (Or.inl ⟨rfl, rfl, rfl⟩) (Or.inr ⟨_, 3, w', hx, by decide, rfl, rfl⟩)
  · obtain ⟨z, rfl, hz9⟩ := hz r w' hp
    show G X mL_approve ad 1 6 ((82, gal 3 1 f) :: w', 10, [(0, gr 0), (1, gi a1), (2, gi a2), (3, gi a3), (4, gr 82)], [gi z, gi 0, gr 82])
    refine g_i2l hX rfl hz9 ?_
    refine g_last hX (o := 82) (n := 1) (f := f) rfl rfl (by omega) ?_
    refine G.go hX 2 ((82, gal 3 1 (gu f 0 z)) :: w', 28, [(0, gr 0), (1, gi a1), (2, gi a2), (3, gi a3), (4, gr 82)], [gi 0]) rfl trivial ?_
    exact g_iret hX hE rfl (Or.inl ⟨z, w', hp, rfl, rfl⟩)
set_option maxHeartbeats 4000000 in
set_option maxRecDepth 100000 in
theorem cw_approved (l : Launch) (D : va_G) (cA : Nat → ClassId) (hst : l.stackTraces = false) (a1 : Int) (f : Int → Int) {wc : gW} {post : Option gV → gW → Prop} {thr : String → gW → Prop} (hC : ∀ l D cA, l.stackTraces = false → gCT l D cA yX7_approved mX7_approved (some .boolean) 1 6 [gr 0, gi a1] wc post thr) {fs : List gV} (h0 : gwl 0 wc = some (.inl (8, fs))) (hz : ∀ r w', post r w' → ∃ z : Int, r = some (gi z) ∧ (z = 0 ∨ z = 1)) (ht : ∀ E w', thr E w' → E = xA) :
    gCW l D cA yL_approved mL_approved [(0, 16, 19, 13)] (some .int) 1 6 [gr 0, gi a1, gr 82] ((82, gal 3 1 f) :: wc) (gWp [(xA, 1)] f post thr) := by
  refine gCW_of hst rfl kL_approved rfl rfl (Nat.le_of_ble_eq_true rfl) (fun X ad hX hE hB hT => ?_)
  refine G.go hX 4 ((82, gal 3 1 f) :: wc, 4, [(0, gr 0), (1, gi a1), (2, gr 82)], [gi a1, gr 0, gi 0, gr 82]) rfl trivial ?_
  refine G.callT (av := [gi a1]) (o := 0) (st := [gi 0, gr 82]) hX hT rfl hC (by decide +kernel) aX7_approved rfl h0 rfl ⟨rfl, rfl⟩ (by decide) (Nat.le_of_ble_eq_true rfl) (fun E w' hx => ?_) (fun r w' hp => ?_)
  · have ht9 := ht E w' hx
    subst ht9
    · exact g_cat (E := xA) hX hE hB hT [] ⟨0, 16, 19, 13⟩ [] rfl (fun z hz => nomatch hz) rfl (by decide) (name := xA) (by decide +kernel) (by decide +kernel) (ka := 3) (z := 1) (Nat.le_of_ble_eq_true rfl) (Or.inr ⟨3, rfl, rfl, rfl, rfl⟩) (Or.inr ⟨_, 1, w', hx, by decide, rfl, rfl⟩)
  · obtain ⟨z, rfl, hz9⟩ := hz r w' hp
    show G X mL_approved ad 1 6 ((82, gal 3 1 f) :: w', 7, [(0, gr 0), (1, gi a1), (2, gr 82)], [gi z, gi 0, gr 82])
    refine g_if_eq hX 14 rfl rfl ⟨by omega, by omega⟩ (fun b7 => ?_) (fun b7 => ?_)
    · have hz8 : z = 0 := by omega
      subst hz8
      refine g_lconst hX 0 rfl (by decide) ?_
      refine g_last hX (o := 82) (n := 1) (f := f) rfl rfl (by omega) ?_
      refine G.go hX 2 ((82, gal 3 1 (gu f 0 0)) :: w', 23, [(0, gr 0), (1, gi a1), (2, gr 82)], [gi 0]) rfl trivial ?_
      exact g_iret hX hE rfl (Or.inl ⟨0, w', hp, rfl, rfl⟩)
    · have hz8 : z = 1 := by omega
      subst hz8
      refine g_lconst hX 1 rfl (by decide) ?_
      refine G.go hX 1 ((82, gal 3 1 f) :: w', 15, [(0, gr 0), (1, gi a1), (2, gr 82)], [gl 1, gi 0, gr 82]) rfl trivial ?_
      refine g_last hX (o := 82) (n := 1) (f := f) rfl rfl (by omega) ?_
      refine G.go hX 2 ((82, gal 3 1 (gu f 0 1)) :: w', 23, [(0, gr 0), (1, gi a1), (2, gr 82)], [gi 0]) rfl trivial ?_
      exact g_iret hX hE rfl (Or.inl ⟨1, w', hp, rfl, rfl⟩)
