/-! throws over G -/
def xA : String := "java/lang/ArrayIndexOutOfBoundsException"
def xI : String := "java/lang/IllegalArgumentException"
def xX : String := "java/lang/IndexOutOfBoundsException"
def xU : String := "java/lang/UnsupportedOperationException"
def xRE : List String := ["java/lang/RuntimeException", "java/lang/Exception"]
/-- the words of throws that aren't good words -/
def gxw : List Cond := (vx_atS RX7 70 xA (xX :: xRE) ++ (vx_atS RX7 81 xI xRE ++ (vx_atS RX7 106 xX xRE ++ (vx_atS RX7 119 xU xRE ++ [Cond.castable xA xX])))).filter (fun w => !goodWord w)
def gxs : List (Nat × String) := [(68, "no such side or point"), (79, "bound or near is out of range"), (104, "no such box, or nothing to tell of it"), (110, "no such side"), (112, "a word is 0 or more"), (117, "the side is full"), (130, "no such row, or nothing to tell of it"), (136, "no such side or page"), (138, "a size is 1 or more"), (150, "no such missing page"), (156, "no such kind, or the bound is below 0"), (159, "there are as many rules as there may be"), (188, "no such fault, or nothing to tell of it"), (193, "no such page"), (195, "an edition is 0 or more"), (207, "the edition has as many approvals as it may have")]
def gxn : List (String × String) := [(xI, xA), (xU, xA), (xU, xI)]
def gET (A : Nat → Prop) (U : State) : Prop := (∀ w ∈ gxw, va_Nw w U) ∧ (∀ q ∈ gxs, ∃ sa, vk_R RX7 q.1 q.2 sa U) ∧ (∀ q ∈ gxn, va_Nc q.1 q.2 U) ∧ vx_Zq Bundle.tN "UNASSIGNED_STACK" Bundle.steD A U U.heap ∧ vx_Zq Bundle.tN "SUPPRESSED_SENTINEL" Bundle.listD A U U.heap
def gXC (D : va_G) (cA : Nat → ClassId) (ad : Nat → Nat) (A : Nat → Prop) (thr : String → gW → Prop) : String → State → State → Prop := fun E st t => ∃ w : gW, thr E w ∧ va_P D vwCl (gw cA ad w) t.heap ∧ va_K D vwCl (gtys cA) t ∧ va_D A (gw cA ad w) ∧ va_F A st t
/-- a method that returns ('post') or throws ('thr': which, and its cells then) -/
def gCT (l : Launch) (D : va_G) (cA : Nat → ClassId) (y : MethodName) (mm : gM) (ret : Option FieldType) (mc ms : Nat) (av : List gV) (w : gW) (post : Option gV → gW → Prop) (thr : String → gW → Prop) : Prop :=
  ∀ (ad : Nat → Nat) (sz : Nat), vx_Met l y (Cond.code y mm.1 mm.2.1 ret :: gtb) mm.2.2.2.2.2 (va_Pc (av.map (gv ad)) (fun U => gPre D cA ad sz w U ∧ gET (va_A (gw cA ad w) sz) U)) (gQ D cA ad (va_A (gw cA ad w) sz) post) (gXC D cA ad (va_A (gw cA ad w) sz) thr) mc ms (va_A (gw cA ad w) sz)
def gEndT (X : gX) (ad : Nat → Nat) (mc ms : Nat) (post : Option gV → gW → Prop) (thr : String → gW → Prop) (ret : Option FieldType) : Prop := match X with
  | (_, l, _, _, s, _, args, below, meth, c, D, cA, A, H0, Q) => (meth.sig.returnType = ret ∧ H0 = s.heap ∧ Q = vx_MQ below (gQ D cA ad A post) (gXC D cA ad A thr) args s mc ms A) ∧ (∀ x ∈ c.exceptionTable.toList, False) ∧ gET A s ∧ l.stackTraces = false
theorem gCT_of {l : Launch} {D : va_G} {cA : Nat → ClassId} {y : MethodName} {mm : gM} {ret : Option FieldType} {mc ms : Nat} {av : List gV} {w : gW} {post : Option gV → gW → Prop} {thr : String → gW → Prop} (hst : l.stackTraces = false) (hy : Jvm.plainName y.cls = true) (hM : gOkM mm) (hc : y.cls = mm.2.2.1) (hav : gnlv av = true) (hn : av.length ≤ mm.2.1)
    (body : ∀ (X : gX) (ad : Nat → Nat), gOk X mm → gEndT X ad mc ms post thr ret → G X mm ad 0 0 (w, 0, gargs 0 av, [])) : gCT l D cA y mm ret mc ms av w post thr := by
  intro ad sz
  refine vx_ofW (cc := mm.1) (maxL := mm.2.1) (ret := ret) hy rfl ?_
  intro p e s m args below meth c s₁ B hml hnt hv
  obtain ⟨rfl, ⟨hsz, hP, hK, hD0⟩, hEN⟩ := hv
  have hts := atoms_spec (ws := Cond.code y mm.1 mm.2.1 ret :: gtb) B.pre
  have hown : s.vm.findClass y.cls = some m.cls := findClass_of_methodNamed B.named
  have hlocks := B.notSynchronized
  subst hsz
  have hD := hD0.self (sz := s.heap.size)
  have hl := lv_entry (av.map (gv ad)) (n := mm.2.1) (by rw [(gargs_ok av 0 hav).2]; exact hn)
  rw [(gargs_ok av 0 hav).1] at hl
  rw [lg_entry_eq]
  have k := body (p, l, e, mm.2.2.2.2.2, s, m, (av.map (gv ad)).toArray, below, meth, c, D, cA, va_A (gw cA ad w) s.heap.size, s.heap, vx_MQ below (gQ D cA ad (va_A (gw cA ad w) s.heap.size) post) (gXC D cA ad (va_A (gw cA ad w) s.heap.size) thr) (av.map (gv ad)).toArray s mc ms (va_A (gw cA ad w) s.heap.size)) ad
    ⟨B.exec, B.bytes, hml, by rw [← hc]; exact hown, fun x hx => hts x (List.mem_cons_of_mem _ hx), hK, hlocks, fun q h => Or.inr h, rfl, hM⟩ ⟨⟨B.returns, rfl, rfl⟩, hnt, hEN, hst⟩
  exact k s.heap [] _ hP hD va_S.rf hl
/-- the end by a return -/
theorem g_toR {X : gX} {mm : gM} {ad : Nat → Nat} {kc ks mc ms : Nat} {post : Option gV → gW → Prop} {thr : String → gW → Prop} {ret : Option FieldType} (hX : gOk X mm) (hE : gEndT X ad mc ms post thr ret) {S : gS} (k : ∀ X', gOk X' mm → gEnd X' ad mc ms post ret → G X' mm ad kc ks S) : G X mm ad kc ks S := by
  obtain ⟨p, l, e, R, s, m, args, below, meth, c, D, cA, A, H0, Q⟩ := X
  obtain ⟨hxc, hb, hml, hown, hts, hK, hlk, hA, hR, hM⟩ := hX
  obtain ⟨⟨hr, rfl, rfl⟩, -⟩ := hE
  intro H locs ls hP hD hS hl
  have k9 := k (p, l, e, R, s, m, args, below, meth, c, D, cA, A, s.heap, MQ below (gQ D cA ad A post) args s mc ms A) ⟨hxc, hb, hml, hown, hts, hK, hlk, hA, hR, hM⟩ ⟨hr, rfl, rfl⟩ H locs ls hP hD hS hl
  exact vx_ret k9
/-- throw new E("text") -/
theorem g_thr {X : gX} {mm : gM} {ad : Nat → Nat} {kc ks mc ms : Nat} {post : Option gV → gW → Prop} {thr : String → gW → Prop} {ret : Option FieldType} (hX : gOk X mm) (hE : gEndT X ad mc ms post thr ret) {w : gW} {pc : Nat} {lv : List (Nat × gV)} {st : List gV} {cls text : String} {names : List String} {ik is ic : Nat} (h0 : gfet pc mm.2.2.2.1 = some (.new ik, 3)) (h3 : gfet (pc + 3) mm.2.2.2.1 = some (.dup, 1)) (h4 : gfet (pc + 4) mm.2.2.2.1 = some (.ldc is, 2)) (h6 : gfet (pc + 6) mm.2.2.2.1 = some (.invokespecial ic, 3)) (h9 : gfet (pc + 9) mm.2.2.2.1 = some (.athrow, 1))
    (hcls : Bundle.fit cls = true ∧ ∀ n ∈ names, Bundle.fit n = true) (hown9 : mm.2.2.1 = RX7) (hk : Cond.classLink RX7 ik cls ∈ gtb) (hini : Cond.initialized cls ∈ gtb) (hs : (is, text) ∈ gxs) (hat : ∀ w ∈ vx_atS RX7 ic cls names, w ∈ gtb ∨ w ∈ gxw) (hot : ∀ w ∈ vx_atS RX7 ic cls names, vx_ot w = true)
    (hroom : (names.length + 3 < mm.2.2.2.2.2.frames ∧ gstk st + (13 * (names.length + 1) + 43) ≤ mm.2.2.2.2.2.locals) ∧ kc + 1 ≤ mm.2.2.2.2.2.cells ∧ ks + 6 ≤ mm.2.2.2.2.2.slots) (hm : kc + 1 ≤ mc ∧ ks + 6 ≤ ms) (h : thr cls w) : G X mm ad kc ks (w, pc, lv, st) := by
  have d0 := (hX.m.1 _ (gfet_mem h0)).1
  have d3 := (hX.m.1 _ (gfet_mem h3)).1
  have d4 := (hX.m.1 _ (gfet_mem h4)).1
  have d6 := (hX.m.1 _ (gfet_mem h6)).1
  have d9 := (hX.m.1 _ (gfet_mem h9)).1
  obtain ⟨p, l, e, R, s, m, args, below, meth, c, D, cA, A, H0, Q⟩ := X
  obtain ⟨hxc, hb, hml, hown, hts, hK, hlk, hA, hR, hM⟩ := hX
  obtain ⟨⟨hr, rfl, rfl⟩, hnt, ⟨hxw, hxs, hxn, hZ1, hZ2⟩, hst9⟩ := hE
  intro H locs ls hP hD hS hl
  rw [hown9] at hown
  obtain ⟨sa, hsa⟩ := hxs _ hs
  have hat9 : ∀ w ∈ vx_atS RX7 ic cls names, w.before args s = true := fun w hw => by
    rcases hat w hw with h1 | h1
    · exact hts w h1
    · refine va_Nw.use ?_ (hxw w h1)
      have h2 := hot w hw
      have h5 := (List.mem_filter.mp h1).2
      unfold vx_ot at h2
      cases hg : goodWord w with
      | true => rw [hg] at h5; cases h5
      | false =>
        rw [hg] at h2
        simpa using h2
  refine vx_throwS hxc hb hst9 (A := A) hown hcls.1 hcls.2 (hts _ hk) (hts _ hini) hsa hat9 (fun w hw => ?_) hZ1 hZ2 hS (by rw [hml]; exact hl.1) d0 d3 d4 d6 d9 (fun x hx => (hnt x hx).elim) (by rw [hR]; exact hroom.1.1) (by rw [gstk_ok, hR]; exact hroom.1.2) (by rw [hR]; exact hroom.2.1) (by rw [hR]; exact hroom.2.2) hlk
    (fun t hal hz hk9 => ⟨w, h, hP.kept (fun k9 x hx => hk9 x.1 ((hP k9 x hx).lt)), va_K.moved hal hK, hD, Nat.le_trans hS.1 hz, fun q h1 h2 => (hk9 q (Nat.lt_of_lt_of_le h1 hS.1)).trans (hS.2.1 q h1 h2)⟩) hS.2.2 hm.1 hm.2
  rcases List.mem_cons.mp hw with rfl | hw
  · unfold vx_ot
    rw [List.all_eq_true.mp lw_good _ hk, Bool.or_true]
  · rcases List.mem_cons.mp hw with rfl | hw
    · unfold vx_ot
      rw [List.all_eq_true.mp lw_good _ hini, Bool.or_true]
    · exact hot w hw
/-! longs -/
theorem gI_64 {z : Int} (h : inR z) : (Int32.ofInt z).toInt64 = Int64.ofInt z := by
  apply Int64.toInt_inj.mp
  rw [Int32.toInt_toInt64, gI_toInt h, Int64.toInt_ofInt_of_le (by omega) (by omega)]
theorem g_i2l {X : gX} {mm : gM} {ad : Nat → Nat} {kc ks : Nat} (hX : gOk X mm) {w : gW} {pc : Nat} {lv : List (Nat × gV)} {st : List gV} {z : Int} (hi : gfet pc mm.2.2.2.1 = some (.i2l, 1)) (hz : inR z) (k : G X mm ad kc ks (w, pc + 1, lv, gl z :: st)) : G X mm ad kc ks (w, pc, lv, gi z :: st) := by
  have hd := (hX.m.1 _ (gfet_mem hi)).1
  obtain ⟨p, l, e, R, s, m, args, below, meth, c, D, cA, A, H0, Q⟩ := X
  obtain ⟨hxc, hb, hml, hown, hts, hK, hlk, hA, hR, hM⟩ := hX
  intro H locs ls hP hD hS hl
  exact lv_i2l hxc hb hd (gI_64 hz) (k H locs ls hP hD hS hl)
theorem g_lconst {X : gX} {mm : gM} {ad : Nat → Nat} {kc ks : Nat} (hX : gOk X mm) {w : gW} {pc : Nat} {lv : List (Nat × gV)} {st : List gV} {n : Fin 2} (z : Int) (hi : gfet pc mm.2.2.2.1 = some (.lconst n, 1)) (hz : Int64.ofNat n.val = Int64.ofInt z) (k : G X mm ad kc ks (w, pc + 1, lv, gl z :: st)) : G X mm ad kc ks (w, pc, lv, st) := by
  have hd := (hX.m.1 _ (gfet_mem hi)).1
  obtain ⟨p, l, e, R, s, m, args, below, meth, c, D, cA, A, H0, Q⟩ := X
  obtain ⟨hxc, hb, hml, hown, hts, hK, hlk, hA, hR, hM⟩ := hX
  intro H locs ls hP hD hS hl
  exact lv_lconst hxc hb hd hz (k H locs ls hP hD hS hl)
theorem g_lcmp {X : gX} {mm : gM} {ad : Nat → Nat} {kc ks : Nat} (hX : gOk X mm) {w : gW} {pc : Nat} {lv : List (Nat × gV)} {st : List gV} {x y : Int} (hi : gfet pc mm.2.2.2.1 = some (.lcmp, 1)) (h : x = y) (k : G X mm ad kc ks (w, pc + 1, lv, gi 0 :: st)) : G X mm ad kc ks (w, pc, lv, gl y :: gl x :: st) := by
  have hd := (hX.m.1 _ (gfet_mem hi)).1
  obtain ⟨p, l, e, R, s, m, args, below, meth, c, D, cA, A, H0, Q⟩ := X
  obtain ⟨hxc, hb, hml, hown, hts, hK, hlk, hA, hR, hM⟩ := hX
  subst h
  intro H locs ls hP hD hS hl
  refine W.lcmp hxc hb hd ?_
  rw [show lg_cmp (Int64.ofInt x) (Int64.ofInt x) = 0 by simp [lg_cmp]]
  exact k H locs ls hP hD hS hl
theorem g_lret {X : gX} {mm : gM} {ad : Nat → Nat} {kc ks : Nat} {post : Option gV → gW → Prop} (hX : gOk X mm) (hE : gEnd X ad kc ks post (some .long)) {w : gW} {pc : Nat} {lv : List (Nat × gV)} {z : Int} (hi : gfet pc mm.2.2.2.1 = some (.lreturn, 1)) (h : post (some (gl z)) w) : G X mm ad kc ks (w, pc, lv, [gl z]) := by
  have hd := (hX.m.1 _ (gfet_mem hi)).1
  obtain ⟨p, l, e, R, s, m, args, below, meth, c, D, cA, A, H0, Q⟩ := X
  obtain ⟨hxc, hb, hml, hown, hts, hK, hlk, hA, hR, hM⟩ := hX
  obtain ⟨hr, rfl, rfl⟩ := hE
  intro H locs ls hP hD hS hl
  exact W.lret hxc hb hr (fun t ht hW => ⟨⟨some (gl z), w, rfl, h, by rw [ht]; exact hP, va_K.moved hW.alike hK, hD⟩, hS.F ht⟩) hS.2.2 hd hlk
theorem gI_wl {z v : Int} {n : Nat} (f : Int → Int) (h : 0 ≤ z ∧ z < (n : Int) ∧ (n : Int) ≤ 2147483647) : vp_updL (fun j : Nat => Int64.ofInt (f (j : Int))) (Int32.ofInt z).toNatClampNeg (Int64.ofInt v) = (fun j : Nat => Int64.ofInt (gu f z v (j : Int))) := by
  funext j
  rw [gI_cl h.1 (by omega)]
  simp only [vp_updL, gu]
  by_cases hj : (j : Int) = z
  · have h2 : j = z.toNat := by omega
    rw [if_pos h2, if_pos hj]
  · have h2 : ¬ j = z.toNat := by omega
    rw [if_neg h2, if_neg hj]
theorem g_last {X : gX} {mm : gM} {ad : Nat → Nat} {kc ks : Nat} (hX : gOk X mm) {w : gW} {pc o n : Nat} {lv : List (Nat × gV)} {st : List gV} {z v : Int} {f : Int → Int} (hi : gfet pc mm.2.2.2.1 = some (.lastore, 1)) (h0 : gwl o w = some (gal 3 n f)) (hz : 0 ≤ z ∧ z < (n : Int) ∧ (n : Int) ≤ 2147483647) (k : G X mm ad kc ks (gws o (gal 3 n (gu f z v)) w, pc + 1, lv, st)) : G X mm ad kc ks (w, pc, lv, gl v :: gi z :: gr o :: st) := by
  have hd := (hX.m.1 _ (gfet_mem hi)).1
  obtain ⟨p, l, e, R, s, m, args, below, meth, c, D, cA, A, H0, Q⟩ := X
  obtain ⟨hxc, hb, hml, hown, hts, hK, hlk, hA, hR, hM⟩ := hX
  intro H locs ls hP hD hS hl
  obtain ⟨q0, hq, hset⟩ := gwl_ix h0
  refine va_last (D := D) hxc hb hK hP hD hS q0 3 (gw_at hq) rfl (gI_in hz) hd (fun H1 locs1 hP1 hD1 hS1 => ?_)
  rw [gI_wl f hz] at hP1 hD1
  refine k H1 locs1 ls ?_ ?_ hS1 hl
  · show va_P D vwCl (gw cA ad (gws o _ w)) H1
    rw [hset, gw_set]
    exact hP1
  · show va_D A (gw cA ad (gws o _ w))
    rw [hset, gw_set]
    exact hD1
theorem g_lald {X : gX} {mm : gM} {ad : Nat → Nat} {kc ks : Nat} (hX : gOk X mm) {w : gW} {pc o n : Nat} {lv : List (Nat × gV)} {st : List gV} {z : Int} {f : Int → Int} (hi : gfet pc mm.2.2.2.1 = some (.laload, 1)) (h0 : gwl o w = some (gal 3 n f)) (hz : 0 ≤ z ∧ z < (n : Int) ∧ (n : Int) ≤ 2147483647) (k : G X mm ad kc ks (w, pc + 1, lv, gl (f z) :: st)) : G X mm ad kc ks (w, pc, lv, gi z :: gr o :: st) := by
  have hd := (hX.m.1 _ (gfet_mem hi)).1
  obtain ⟨p, l, e, R, s, m, args, below, meth, c, D, cA, A, H0, Q⟩ := X
  obtain ⟨hxc, hb, hml, hown, hts, hK, hlk, hA, hR, hM⟩ := hX
  intro H locs ls hP hD hS hl
  obtain ⟨q0, hq, hset⟩ := gwl_ix h0
  refine va_lald (D := D) hxc hb hK hP q0 3 (gw_at hq) rfl (gI_in hz) hd ?_
  have h9 : Int64.ofInt (f (((Int32.ofInt z).toNatClampNeg : Nat) : Int)) = Int64.ofInt (f z) := by rw [gI_cl hz.1 (by omega), Int.toNat_of_nonneg hz.1]
  rw [h9]
  exact k H locs ls hP hD hS hl
