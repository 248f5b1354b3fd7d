/-! THE CLAIM OUT OF ONE WALK OF THE LAW'S BODY. Your part is whole_start (and what it stands on); all else here is the same for every law, but numbers. -/
def R_law : String := "ProofCompareLaw"
def lw_P (b : Addr) (xs : List Int32) (args : Array Value) (s : State) : Prop := args = #[.ref b] ∧ s.IntsAt b xs ∧ xs.length ≤ 2562 ∧ (Jvm.Cond.and given_1 narrow_1).before args s = true
def lw_Q (_ : Array Value) (s : State) (o : Outcome) (t : State) : Prop := o = .returned (some (.int 1)) ∧ Framed s o t [] 601024 7293000
def lw_Z (below : List Frame) (a : Array Value) (s : State) : State → Prop := fun t => ∃ o, t.status = .running ∧ Ended t below o ∧ lw_Q a s o t
/-- the law's own end, with 1 on the stack, nothing written that was there before, its room as the claim has it -/
theorem lw_ret {p : Program} {l : Launch} {e : Env} {s : State} {m : MethodId} {below : List Frame} {meth : Method} {c : Code} {b : Nat} (hx : p.tables.exec = Jvm.exec) (hb : c.code = code) (hr : meth.sig.returnType = ret) (hlocks : meth.locks = false) {pc : Nat} {H : Heap} {ls : Array Slot} (hdg : decode code pc = .ok (.ireturn, 1)) : W p l e room_1 s m #[Value.ref b] below meth c H [] 601024 7293000 (lw_Z below #[Value.ref b] s) (F0 m pc ls [.int 1]) := by
  intro T hT X
  obtain ⟨fs, hret, hrun, hended, hW, hframe⟩ := X.leave (v := some (.int 1)) (hlocks := hlocks) (fun h => by rw [hr] at h; cases h)
  have hmeth' : T.vm.method? m = some meth := X.method'
  refine ⟨T.setFrames fs, ?_, .returned (some (.int 1)), hrun, hended, rfl, ⟨_, rfl⟩, hW, hframe⟩
  jvm_step X.here [X.here.top, hx, hb, hdg, hmeth', hr, ret, narrow_b1]
  (try refine ⟨rfl, ?_⟩); (try refine ⟨rfl, ?_⟩)
  first | (intro acts; rw [hret _ acts rfl rfl rfl]) | rw [hret _ _ rfl rfl rfl]
  exact Steps.refl _
/-- what holds at the law's entry: the machine, the code, the tables' words (any of lw_tbl by 'hts w (by decide +kernel)'), the script of L ints xs at the cell b, what the Statement gives of the start (any of its parts by flat_of_before) -/
def lw_At (p : Program) (s : State) (m : MethodId) (meth : Method) (c : Code) (b L : Nat) (xs : Nat → Int32) : Prop :=
  p.tables.exec = Jvm.exec ∧ c.code = code ∧ meth.sig.returnType = ret ∧ c.maxLocals = 7 ∧ s.vm.findClass R_law = some m.cls ∧ (∀ w ∈ lw_tbl, w.before #[Value.ref b] s = true) ∧ va_X b L xs s s.heap ∧ b < s.heap.size ∧ meth.locks = false ∧ (Jvm.Cond.and given_1 narrow_1).before #[Value.ref b] s = true
theorem lw_arr {s : State} {A : Array Value} {ty : FieldType} (h : (Cond.arrayClass ty).before A s = true) : ∃ cA : ClassId, ArrOfT s cA ty ∧ s.vm.findClass ("[" ++ ty.toString) = some cA := by
  obtain ⟨c, k, comp, h1, h2, h3⟩ := Cond.arrayClass_spec h
  exact ⟨c, fun N z => ⟨(fun k h => by cases h), k, h2, comp, h3⟩, h1⟩
theorem lw_arr2 {s : State} {A : Array Value} (h : (Cond.arrayOver (.array .int)).before A s = true) : ∃ cA : ClassId, ArrOfT s cA (.array .int) ∧ s.vm.findClass ("[" ++ (FieldType.array .int).toString) = some cA := by
  obtain ⟨comp, c, k, h1, h2, h3, h4⟩ := Cond.arrayOver_specA h
  exact ⟨c, fun N z => ⟨(fun k h => by cases h), k, h2, comp, h3⟩, h4⟩
theorem lw_inst : ∀ q ∈ vwCl, Cond.instantiable q.1 q.2.2 ∈ gtb := by decide +kernel
theorem lw_xw : ∀ w ∈ gxw, w ∈ lw_tbl := by decide +kernel
theorem lw_xs : ∀ q ∈ gxs, Cond.stringRef RX7 q.1 q.2 ∈ lw_tbl := by decide +kernel
theorem lw_xe : ∀ q ∈ gxs, Cond.exactly (.string RX7 q.1) "java/lang/String" ∈ flatC (Jvm.Cond.and given_1 narrow_1) := by decide +kernel
theorem lw_xn : ∀ q ∈ gxn, Cond.not (.castable q.1 q.2) ∈ flatC (Jvm.Cond.and given_1 narrow_1) := by decide +kernel
theorem lw_xr : Cond.isRef (.static Bundle.tN "UNASSIGNED_STACK" Bundle.steD) ∈ flatC (Jvm.Cond.and given_1 narrow_1) ∧ Cond.isRef (.static Bundle.tN "SUPPRESSED_SENTINEL" Bundle.listD) ∈ flatC (Jvm.Cond.and given_1 narrow_1) := by decide +kernel
theorem lw_xl : Cond.laysStatic Bundle.tN "UNASSIGNED_STACK" Bundle.steD ∈ lw_tbl ∧ Cond.laysStatic Bundle.tN "SUPPRESSED_SENTINEL" Bundle.listD ∈ lw_tbl ∧ Cond.initialized Bundle.tN ∈ lw_tbl := by decide +kernel
theorem lw_en : Cond.arrayOver (.array .int) ∈ lw_tbl ∧ Cond.methodLinkNest RX7 20 yX6_init RX7 ∈ lw_tbl ∧ Cond.methodLinkNest RX7 39 yX2_init RX7 ∈ lw_tbl ∧ Cond.methodLinkNest RX7 46 yX3_init RX7 ∈ lw_tbl ∧ Cond.methodLinkNest RX7 53 yX0_init RX7 ∈ lw_tbl := by decide +kernel
theorem lw_at : Cond.arrayClass .int ∈ lw_tbl ∧ Cond.arrayClass .boolean ∈ lw_tbl ∧ Cond.arrayClass .long ∈ lw_tbl := by decide +kernel
theorem lw_ET {s : State} {b : Nat} (hts : ∀ w ∈ lw_tbl, w.before #[Value.ref b] s = true) (hgv : (Jvm.Cond.and given_1 narrow_1).before #[Value.ref b] s = true) : gET (fun q => s.heap.size ≤ q) s := by
  have hf := flat_of_before _ hgv
  have hA : ∀ a : Nat, a < s.heap.size → ¬ (fun q : Nat => s.heap.size ≤ q) a := fun a ha h => absurd ha (Nat.not_lt.mpr h)
  refine ⟨fun w hw => ?_, fun q hq => ?_, fun q hq => va_Nc.of (hf _ (lw_xn q hq)), vx_Zqof (hts _ lw_xl.1) (hts _ lw_xl.2.2) (hf _ lw_xr.1) hA, vx_Zqof (hts _ lw_xl.2.1) (hts _ lw_xl.2.2) (hf _ lw_xr.2) hA⟩
  · have h := hts w (lw_xw w hw)
    rcases gxw_k hw with ⟨a, b9, rfl⟩ | ⟨x, rfl⟩
    · exact va_Nw.of rfl h
    · exact va_Nw.of rfl h
  · obtain ⟨a, c9, cell, k9, h1, -⟩ := Cond.exactly_spec (hf _ (lw_xe q hq))
    exact ⟨a, vk_R.of (hts _ (lw_xs q hq)) h1⟩
theorem lw_EN {s : State} {b : Nat} (hts : ∀ w ∈ lw_tbl, w.before #[Value.ref b] s = true) : gEN s := ⟨gAO rfl (hts _ lw_en.1), va_Nw.of rfl (hts _ lw_en.2.1), va_Nw.of rfl (hts _ lw_en.2.2.1), va_Nw.of rfl (hts _ lw_en.2.2.2.1), va_Nw.of rfl (hts _ lw_en.2.2.2.2)⟩
theorem lw_K {s : State} {b : Nat} (c9 : ClassId) (hts : ∀ w ∈ lw_tbl, w.before #[Value.ref b] s = true) : ∃ (D : va_G) (cA : Nat → ClassId), va_K D vwCl (gtys cA) s := by
  have h1 : ∀ k : Nat, ∃ r : ClassId × (Nat → Nat), ∀ q : vw_C, vwCl[k]? = some q → u_Kn s q.1 q.2.1 q.2.2 r.1 r.2 := fun k => by
    cases hk : vwCl[k]? with
    | none => exact ⟨(c9, fun _ => 0), fun q hq => by cases hq⟩
    | some q =>
      obtain ⟨C, T, N⟩ := q
      obtain ⟨cC, iS, h⟩ := u_known (C := C) (T := T) (N := N) (n := N) hts (fun w hw => (List.mem_filter.mp (gcl_in hk w hw)).1) (hts _ (List.mem_filter.mp (lw_inst _ (List.mem_of_getElem? hk))).1)
      exact ⟨(cC, iS), fun q hq => by cases hq; exact h⟩
  obtain ⟨c0, a0, b0⟩ := lw_arr (hts _ lw_at.1)
  obtain ⟨c1, a1, b1⟩ := lw_arr (hts _ lw_at.2.1)
  obtain ⟨c2, a2, b2⟩ := lw_arr2 (hts _ lw_en.1)
  obtain ⟨c3, a3, b3⟩ := lw_arr (hts _ lw_at.2.2)
  refine ⟨(fun k => (Classical.choose (h1 k)).1, fun k => (Classical.choose (h1 k)).2), fun k => if k = 0 then c0 else if k = 1 then c1 else if k = 2 then c2 else c3, fun k q hq => Classical.choose_spec (h1 k) q hq, fun k q hq => ?_⟩
  match k, hq with
  | 0, hq => cases hq; exact ⟨a0, b0⟩
  | 1, hq => cases hq; exact ⟨a1, b1⟩
  | 2, hq => cases hq; exact ⟨a2, b2⟩
  | 3, hq => cases hq; exact ⟨a3, b3⟩
  | k + 4, hq => cases hq
set_option maxHeartbeats 4000000 in
set_option maxRecDepth 20000 in
theorem whole_start {p : Program} {e : Env} {s : State} {m : MethodId} {below : List Frame} {meth : Method} {c : Code} (l : Launch) (hst : l.stackTraces = false) {b L : Nat} {xs : Nat → Int32} (hL : L ≤ 2562) (C0 : lw_At p s m meth c b L xs) : W p l e room_1 s m #[Value.ref b] below meth c s.heap [] 0 0 (lw_Z below #[Value.ref b] s) (entryFrame m ([Value.ref b] : List Value).toArray 7) := by
  obtain ⟨hx, hb, hr, hml, hown, hts, hX, hbl, hlocks, hgv⟩ := id C0
  obtain ⟨D, cA, hK⟩ := lw_K m.cls hts
  have hXX : gOk (p, l, e, room_1, s, m, #[Value.ref b], below, meth, c, D, cA, (fun q => s.heap.size ≤ q), s.heap, lw_Z below #[Value.ref b] s) mL_law := ⟨hx, hb, hml, hown, fun w hw => hts w (List.mem_filter.mp hw).1, hK, hlocks, fun q h => h, rfl, kL_law⟩
  have hend : ∀ (kc ks : Nat) (H : Heap) (locs : List Loc) (ls : Array Slot), kc ≤ 601024 → ks ≤ 7293000 → (∀ q ∈ locs, s.heap.size ≤ q.base) → W p l e room_1 s m #[Value.ref b] below meth c H locs kc ks (lw_Z below #[Value.ref b] s) (F0 m 1001 ls [.int 1]) := fun kc ks H locs ls h1 h2 h3 => by
    refine va_forget h3 ?_
    refine W.widen (k := 601024) (n := 7293000) h1 h2 ?_
    exact lw_ret hx hb hr hlocks (kL_law.1 _ (gfet_mem (pc := 1001) (i := .ireturn) (n := 1) rfl)).1
  have hG := lw_head (X := (p, l, e, room_1, s, m, #[Value.ref b], below, meth, c, D, cA, (fun q => s.heap.size ≤ q), s.heap, lw_Z below #[Value.ref b] s)) (ad := fun _ => b) (L := L) (xs := xs) hXX ⟨lw_ET hts hgv, hst, rfl⟩ (lw_EN hts) ⟨hX, hbl, Nat.not_le.mpr hbl⟩ hL (by
    intro ad of W H M P c wt rows gro wx wy mk dp fa ne sl p0 p1 cn wst rwx lg n0 v0 x0 y0 o0 n1 v1 x1 y1 o1 w0 w1 h0 h1 rc fc kd fl lm fs ct ed ppl mth mnw mmn mbx man mrs mpt mdf mlb mbo mwn mwo mxo myo mor mco mro mpw mph mrk mrb mrf mfr mfm med map mwh kc ks i hk1 hk2
    refine G.go hXX 1 (lwW of W H M P c wt rows gro wx wy mk dp fa ne sl p0 p1 cn wst rwx lg n0 v0 x0 y0 o0 n1 v1 x1 y1 o1 w0 w1 h0 h1 rc fc kd fl lm fs ct ed ppl mth fa ne mnw mmn mbx man mrs rc fc mpt mdf mlb mbo mwn mwo mxo myo mor mco mro mpw mph mrk mrb mrf mfr mfm med map mwh, 1001, [(0, gr 90), (1, gr 0), (2, gr 60), (3, gr 82), (4, gi i)], [gi 1]) rfl trivial ?_
    intro H9 locs ls hP hD hS hl
    exact hend kc ks H9 locs ls hk1 hk2 (fun q hq => hS.2.2 q hq))
  have hl := lv_entry ([Value.ref b]) (n := 7) (Nat.le_of_ble_eq_true rfl)
  rw [lg_entry_eq]
  exact hG s.heap [] _ (fun k q h => by simp [gw] at h) ⟨fun i j p q h => by simp [gw] at h, fun k q h => by simp [gw] at h⟩ va_S.rf hl
