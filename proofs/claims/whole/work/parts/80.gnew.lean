/-! rows over G that make cells: new, newarray, a final field, Object's constructor, the call of a constructor; the numbers of new cells (fr) get their places here -/
def gfn (fr : List Nat) (k : Nat) : Bool := fr.all (fun f => !(Nat.beq f k))
def gfv (fr : List Nat) : gV → Bool
  | .inr (.inr (some k)) => gfn fr k
  | _ => true
def gfe (fr : List Nat) : gE → Prop
  | .inl (_, fs) => fs.all (gfv fr) = true
  | .inr (_, _, .inl _) => True
  | .inr (_, _, .inr (.inl f)) => ∀ (j : Int) (k : Nat), f j = some k → gfn fr k = true
  | .inr (_, _, .inr (.inr _)) => True
def gfw (fr : List Nat) : gW → Prop
  | [] => True
  | (k, e) :: t => gfn fr k = true ∧ gfe fr e ∧ gfw fr t
/-- outside fr the cells lie where they lay -/
def gAg (fr : List Nat) (ad ad' : Nat → Nat) : Prop := ∀ k, gfn fr k = true → ad' k = ad k
theorem gAg.rf {fr : List Nat} {ad : Nat → Nat} : gAg fr ad ad := fun _ _ => rfl
theorem gfv_eq {fr : List Nat} {ad ad' : Nat → Nat} (h : gAg fr ad ad') {v : gV} (hv : gfv fr v = true) : gv ad' v = gv ad v := by
  rcases v with z | z | _ | k
  · rfl
  · rfl
  · rfl
  · show Value.ref (ad' k) = Value.ref (ad k)
    rw [h k hv]
theorem gfl_eq {fr : List Nat} {ad ad' : Nat → Nat} (h : gAg fr ad ad') {vs : List gV} (hv : vs.all (gfv fr) = true) : vs.map (gv ad') = vs.map (gv ad) :=
  List.map_congr_left fun v hm => gfv_eq h (List.all_eq_true.mp hv v hm)
theorem gfe_eq {fr : List Nat} {ad ad' : Nat → Nat} {cA : Nat → ClassId} (h : gAg fr ad ad') {e : gE} (he : gfe fr e) : ge cA ad' e = ge cA ad e := by
  rcases e with ⟨ci, fs⟩ | ⟨t, n, f | f | f⟩
  · show Sum.inr (ci, fs.map (gv ad')) = Sum.inr (ci, fs.map (gv ad))
    rw [gfl_eq h he]
  · rfl
  · have h1 : (fun j : Nat => (f (j : Int)).map ad') = (fun j : Nat => (f (j : Int)).map ad) := by
      funext j
      cases hj : f (j : Int) with
      | none => rfl
      | some k => exact congrArg some (h k (he _ _ hj))
    show Sum.inl (cA t, n, Sum.inr (Sum.inr (Sum.inr (Sum.inr (fun j : Nat => (f (j : Int)).map ad'))))) = _
    rw [h1]
    rfl
  · rfl
theorem gfw_eq {fr : List Nat} {ad ad' : Nat → Nat} {cA : Nat → ClassId} (h : gAg fr ad ad') : ∀ {w : gW}, gfw fr w → gw cA ad' w = gw cA ad w
  | [], _ => rfl
  | (k, e) :: t, hw => by
    show (ad' k, ge cA ad' e) :: gw cA ad' t = (ad k, ge cA ad e) :: gw cA ad t
    rw [h k hw.1, gfe_eq h hw.2.1, gfw_eq h hw.2.2]
theorem gfl_lv {fr : List Nat} {ad ad' : Nat → Nat} (h : gAg fr ad ad') {lv : List (Nat × gV)} (hv : (lv.all fun q => gfv fr q.2) = true) : lv.map (fun q => (q.1, gv ad' q.2)) = lv.map (fun q => (q.1, gv ad q.2)) :=
  List.map_congr_left fun q hm => by rw [gfv_eq h (List.all_eq_true.mp hv q hm)]
def gad (ad : Nat → Nat) (f a : Nat) : Nat → Nat := fun k => if k = f then a else ad k
theorem gad_s {ad : Nat → Nat} {f a : Nat} : gad ad f a f = a := if_pos rfl
theorem gad_ag {ad : Nat → Nat} {f a : Nat} : gAg [f] ad (gad ad f a) := fun k hk => by
  have h1 : ¬ k = f := fun e => by
    subst e
    simp [gfn] at hk
  exact if_neg h1
theorem gAg.step {fr : List Nat} {ad0 ad ad' : Nat → Nat} {fs : List Nat} (h : gAg fr ad0 ad) (h1 : gAg fs ad ad') (hf : fs.all (fun f => !gfn fr f) = true) : gAg fr ad0 ad' := fun k hk => by
  rw [h1 k (List.all_eq_true.mpr fun f hm => by
    have h2 := List.all_eq_true.mp hf f hm
    cases hb : Nat.beq f k with
    | false => rfl
    | true =>
      have := gbeq hb
      subst this
      rw [hk] at h2
      cases h2), h k hk]
/-- what makers of cells need of the tables beside the good words -/
def gEN (U : State) : Prop := va_Nw (.arrayOver (.array .int)) U ∧ va_Nw (.methodLinkNest RX7 20 yX6_init RX7) U ∧ va_Nw (.methodLinkNest RX7 39 yX2_init RX7) U ∧ va_Nw (.methodLinkNest RX7 46 yX3_init RX7) U ∧ va_Nw (.methodLinkNest RX7 53 yX0_init RX7) U
theorem gAO {A A' : Array Value} {u U : State} (h : u.vm = U.vm) (hb : (Cond.arrayOver (.array .int)).before A u = true) : (Cond.arrayOver (.array .int)).before A' U = true := by
  simp only [Cond.before, Cond.holds, Cond.value] at hb ⊢
  rw [← h]
  exact hb
theorem gEN.warm {s U : State} (hW : s.WarmedH U.vm) (h : gEN s) : gEN U :=
  ⟨gAO (A := #[]) (rfl : (s.setVm U.vm).vm = U.vm) (by rw [Cond.arrayOver_setVmC hW.alike]; exact h.1), va_Nw.warmM hW h.2.1, va_Nw.warmM hW h.2.2.1, va_Nw.warmM hW h.2.2.2.1, va_Nw.warmM hW h.2.2.2.2⟩
theorem gEN.same {s U : State} (hv : s.vm = U.vm) (h : gEN s) : gEN U :=
  ⟨gAO hv h.1, va_Nw.same rfl hv h.2.1, va_Nw.same rfl hv h.2.2.1, va_Nw.same rfl hv h.2.2.2.1, va_Nw.same rfl hv h.2.2.2.2⟩
def gQN (D : va_G) (cA : Nat → ClassId) (ad : Nat → Nat) (A : Nat → Prop) (fr : List Nat) (post : gW → Prop) : Array Value → State → Outcome → State → Prop := fun _ st oc t =>
  (∃ (ad' : Nat → Nat) (w : gW), oc = .returned none ∧ gAg fr ad ad' ∧ post w ∧ va_P D vwCl (gw cA ad' w) t.heap ∧ va_K D vwCl (gtys cA) t ∧ va_D A (gw cA ad' w)) ∧ va_F A st t
/-- a constructor's contract: the cells fr are made -/
def gCN (l : Launch) (D : va_G) (cA : Nat → ClassId) (y : MethodName) (mm : gM) (mc ms : Nat) (av : List gV) (w : gW) (fr : List Nat) (post : gW → Prop) : Prop :=
  ∀ (ad : Nat → Nat) (sz : Nat), Met l y (Cond.code y mm.1 mm.2.1 none :: gtb) mm.2.2.2.2.2 (va_Pc (av.map (gv ad)) (fun U => gPre D cA ad sz w U ∧ gEN U)) (gQN D cA ad (va_A (gw cA ad w) sz) fr post) mc ms (va_A (gw cA ad w) sz)
def gEndN (X : gX) (ad : Nat → Nat) (fr : List Nat) (mc ms : Nat) (post : gW → Prop) : Prop := match X with
  | (_, _, _, _, s, _, args, below, meth, _, D, cA, A, H0, Q) => meth.sig.returnType = none ∧ H0 = s.heap ∧ Q = MQ below (gQN D cA ad A fr post) args s mc ms A
/-- this method is a constructor / its start has what makers of cells need -/
def gIni (X : gX) : Prop := match X with
  | (_, _, _, _, _, _, _, _, meth, _, _, _, _, _, _) => meth.name = "<init>"
def gEX (X : gX) : Prop := match X with
  | (_, _, _, _, s, _, _, _, _, _, _, _, _, _, _) => gEN s
theorem gCN_of {l : Launch} {D : va_G} {cA : Nat → ClassId} {y : MethodName} {mm : gM} {mc ms : Nat} {av : List gV} {w : gW} {fr : List Nat} {post : gW → Prop} (hy : Jvm.plainName y.cls = true) (hM : gOkM mm) (hc : y.cls = mm.2.2.1) (hyn : y.name = "<init>") (hav : gnlv av = true) (hn : av.length ≤ mm.2.1)
    (body : ∀ (X : gX) (ad : Nat → Nat), gOk X mm → gEndN X ad fr mc ms post → gIni X → gEX X → G X mm ad 0 0 (w, 0, gargs 0 av, [])) : gCN l D cA y mm mc ms av w fr post := by
  intro ad sz
  refine Met.ofW (cc := mm.1) (maxL := mm.2.1) (ret := none) hy rfl ?_
  intro p e s m args below meth c s₁ B hml hv
  obtain ⟨rfl, ⟨hsz, hP, hK, hD0⟩, hEN⟩ := hv
  have hts := atoms_spec (ws := Cond.code y mm.1 mm.2.1 none :: gtb) B.pre
  have hown : s.vm.findClass y.cls = some m.cls := findClass_of_methodNamed B.named
  have hlocks := B.notSynchronized
  have hin : meth.name = "<init>" := (name_of_methodNamed B.named B.method).1.trans hyn
  subst hsz
  have hD := hD0.self (sz := s.heap.size)
  have hl := lv_entry (av.map (gv ad)) (n := mm.2.1) (by rw [(gargs_ok av 0 hav).2]; exact hn)
  rw [(gargs_ok av 0 hav).1] at hl
  rw [lg_entry_eq]
  have k := body (p, l, e, mm.2.2.2.2.2, s, m, (av.map (gv ad)).toArray, below, meth, c, D, cA, va_A (gw cA ad w) s.heap.size, s.heap, MQ below (gQN D cA ad (va_A (gw cA ad w) s.heap.size) fr post) (av.map (gv ad)).toArray s mc ms (va_A (gw cA ad w) s.heap.size)) ad
    ⟨B.exec, B.bytes, hml, by rw [← hc]; exact hown, fun x hx => hts x (List.mem_cons_of_mem _ hx), hK, hlocks, fun q h => Or.inr h, rfl, hM⟩ ⟨B.returns, rfl, rfl⟩ hin hEN
  exact k s.heap [] _ hP hD va_S.rf hl
theorem g_vretN {X : gX} {mm : gM} {ad ad0 : Nat → Nat} {fr : List Nat} {kc ks : Nat} {post : gW → Prop} (hX : gOk X mm) (hE : gEndN X ad0 fr kc ks post) (hag : gAg fr ad0 ad) {w : gW} {pc : Nat} {lv : List (Nat × gV)} (hi : gfet pc mm.2.2.2.1 = some (.return_, 1)) (h : post w) : G X mm ad kc ks (w, pc, lv, []) := by
  have hd := (hX.m.1 _ (gfet_mem hi)).1
  obtain ⟨p, l, e, R, s, m, args, below, meth, c, D, cA, A, H0, Q⟩ := X
  obtain ⟨hxc, hb, hml, hown, hts, hK, hlk, hA, hR, hM⟩ := hX
  obtain ⟨hr, rfl, rfl⟩ := hE
  intro H locs ls hP hD hS hl
  exact W.vret hxc hb hr (fun t ht hW => ⟨⟨ad, w, rfl, hag, h, by rw [ht]; exact hP, va_K.moved hW.alike hK, hD⟩, hS.F ht⟩) hS.2.2 hd hlk
/-- Object's constructor -/
theorem g_obj {X : gX} {mm : gM} {ad : Nat → Nat} {kc ks : Nat} (hX : gOk X mm) {w : gW} {pc idx o : Nat} {lv : List (Nat × gV)} {st : List gV} (hi : gfet pc mm.2.2.2.1 = some (.invokespecial idx, 3)) (h1 : Cond.methodLink mm.2.2.1 idx Lib.objectInit ∈ gtb) (hroom : 1 ≤ mm.2.2.2.2.2.frames ∧ gstk st + 12 ≤ mm.2.2.2.2.2.locals) (k : G X mm ad kc ks (w, pc + 3, lv, st)) : G X mm ad kc ks (w, pc, lv, gr o :: st) := by
  have hd := (hX.m.1 _ (gfet_mem hi)).1
  obtain ⟨p, l, e, R, s, m, args, below, meth, c, D, cA, A, H0, Q⟩ := X
  obtain ⟨hxc, hb, hml, hown, hts, hK, hlk, hA, hR, hM⟩ := hX
  intro H locs ls hP hD hS hl
  exact W.objInit (g := F0 m pc ls (Value.ref (ad o) :: st.map (gv ad))) hxc hb hown (hts _ h1) (hts (.instanceMethod Lib.objectInit) (by decide +kernel)) (hts (.code Lib.objectInit ⟨#[0xb1]⟩ 1 none) (by decide +kernel)) rfl (by rw [hml]; exact hl.1) rfl hd (by rw [hR]; exact hroom.1) (by show 2 * 0 + _ + 12 ≤ _; rw [gstk_ok, hR]; have := hroom.2; omega) (k H locs ls hP hD hS hl)
/-- what a final field takes -/
def gfin (ty : FieldType) (v : gV) : Bool := match ty, v with
  | .int, .inl _ => true
  | .object _, .inr (.inr (some _)) => true
  | .array _, .inr (.inr (some _)) => true
  | _, _ => false
theorem gfin_ok {ad : Nat → Nat} {ty : FieldType} {v : gV} (h : gfin ty v = true) : narrow ty (gv ad v) = gv ad v ∧ fits ty (gv ad v) = true := by
  cases ty <;> rcases v with z | z | _ | z <;> first | (cases h; done) | exact ⟨rfl, rfl⟩
/-- a final field, in its constructor -/
theorem g_putF {X : gX} {mm : gM} {ad : Nat → Nat} {kc ks : Nat} (hX : gOk X mm) (hI : gIni X) {w : gW} {pc idx o ci k : Nat} {C : String} {T : u_T} {N : Nat} {ty : FieldType} {lv : List (Nat × gV)} {st : List gV} {v : gV} {fs : List gV} (hi : gfet pc mm.2.2.2.1 = some (.putfield idx, 3)) (hc : vwCl[ci]? = some (C, T, N)) (hlt : k < N) (hlink : Cond.fieldLink mm.2.2.1 idx (T k).1 (T k).2.1 (T k).2.2.1 ∈ gtb) (hfin : (T k).2.2.2 = true) (hdecl : (T k).1 = mm.2.2.1) (hty : parseFieldDescriptor (T k).2.2.1 = some ty) (hv : gfin ty v = true) (ho : gwl o w = some (.inl (ci, fs))) (hfs : k < fs.length)
    (kk : G X mm ad kc ks (gws o (.inl (ci, fs.set k v)) w, pc + 3, lv, st)) : G X mm ad kc ks (w, pc, lv, v :: gr o :: st) := by
  have hd := (hX.m.1 _ (gfet_mem hi)).1
  obtain ⟨p, l, e, R, s, m, args, below, meth, c, D, cA, A, H0, Q⟩ := X
  obtain ⟨hxc, hb, hml, hown, hts, hK, hlk, hA, hR, hM⟩ := hX
  intro H locs ls hP hD hS hl
  obtain ⟨q0, hq, hset⟩ := gwl_ix ho
  obtain ⟨n1, n2⟩ := gfin_ok (ad := ad) hv
  refine va_putF (D := D) (v := gv ad v) (ty := ty) hxc hb hts (gcl_in hc) (gty ci) (gcl_ty hc) (gcl_nm hc) hown hK hP hD hS q0 (gw_at hq) hc k hlt (hts _ hlink) (fun _ h => h) hfin hI hdecl hty n1 n2 (by rw [List.length_map]; exact hfs) hd (fun H1 locs1 hP1 hD1 hS1 => ?_)
  refine kk H1 locs1 ls ?_ ?_ hS1 hl
  · show va_P D vwCl (gw cA ad (gws o _ w)) H1
    rw [hset, gw_set]
    simpa [ge, gv, List.map_set] using hP1
  · show va_D A (gw cA ad (gws o _ w))
    rw [hset, gw_set]
    simpa [ge, gv, List.map_set] using hD1
/-- a new object -/
theorem G.newo {X : gX} {mm : gM} {ad ad0 : Nat → Nat} {fr : List Nat} {kc ks : Nat} (hX : gOk X mm) {w : gW} {pc idx ci : Nat} {C : String} {T : u_T} {N : Nat} {lv : List (Nat × gV)} {st : List gV} (f : Nat) (fs : List gV) (hi : gfet pc mm.2.2.2.1 = some (.new idx, 3)) (hc : vwCl[ci]? = some (C, T, N)) (hl1 : Cond.classLink mm.2.2.1 idx C ∈ gtb) (hl2 : Cond.instantiable C N ∈ gtb) (hl3 : Cond.initialized C ∈ gtb) (hfs : (fs.all fun v => match v with | .inr (.inr (some _)) => false | _ => true) = true) (hdf : ∀ j, j < N → defaultValue (gty ci j) = vp_V (fs.map (gv (fun _ => 0))) j)
    (hag : gAg fr ad0 ad) (hf : gfn fr f = false) (hw : gfw [f] w) (hlv : (lv.all fun q => gfv [f] q.2) = true) (hst : st.all (gfv [f]) = true) (hroom : kc + 1 ≤ mm.2.2.2.2.2.cells ∧ ks + N ≤ mm.2.2.2.2.2.slots)
    (k : ∀ ad', gAg fr ad0 ad' → G X mm ad' (kc + 1) (ks + N) (w ++ [(f, .inl (ci, fs))], pc + 3, lv, gr f :: st)) : G X mm ad kc ks (w, pc, lv, st) := by
  have hd := (hX.m.1 _ (gfet_mem hi)).1
  obtain ⟨p, l, e, R, s, m, args, below, meth, c, D, cA, A, H0, Q⟩ := X
  obtain ⟨hxc, hb, hml, hown, hts, hK, hlk, hA, hR, hM⟩ := hX
  intro H locs ls hP hD hS hl
  have hfm : ∀ ad9 : Nat → Nat, fs.map (gv ad9) = fs.map (gv (fun _ => 0)) := fun ad9 => List.map_congr_left fun v hm => by
    have h9 := List.all_eq_true.mp hfs v hm
    rcases v with z | z | _ | z
    · rfl
    · rfl
    · rfl
    · cases h9
  refine va_new (D := D) (fs := fs.map (gv (fun _ => 0))) hxc hb hts (gcl_in hc) (gty ci) (gcl_ty hc) hown (hts _ hl1) (hts _ hl2) (hts _ hl3) hK hP hD hS hA hc hdf (by rw [hR]; exact hroom.1) (by rw [hR]; exact hroom.2) hd (fun q H1 hP1 hD1 hS1 => ?_)
  have h1 : gAg [f] ad (gad ad f q) := gad_ag
  have e1 : gw cA (gad ad f q) (w ++ [(f, .inl (ci, fs))]) = gw cA ad w ++ [(q, .inr (ci, fs.map (gv (fun _ => 0))))] := by
    rw [gw_app, gfw_eq h1 hw]
    show _ ++ [(gad ad f q f, Sum.inr (ci, fs.map (gv (gad ad f q))))] = _
    rw [gad_s, hfm]
  have k9 := k (gad ad f q) (hag.step h1 (by show (!gfn fr f && true) = true; rw [hf]; rfl)) H1 locs ls (by show va_P D vwCl (gw cA _ (w ++ _)) H1; rw [e1]; exact hP1) (by show va_D A (gw cA _ (w ++ _)); rw [e1]; exact hD1) hS1 (by show lv_has ls mm.2.1 (lv.map _); rw [gfl_lv h1 hlv]; exact hl)
  have e2 : ((gr f :: st).map (gv (gad ad f q))) = Value.ref q :: st.map (gv ad) := by
    show Value.ref (gad ad f q f) :: st.map (gv (gad ad f q)) = _
    rw [gad_s, gfl_eq h1 hst]
  have k8 : W p l e R s m args below meth c H1 locs (kc + 1) (ks + N) Q (F0 m (pc + 3) ls ((gr f :: st).map (gv (gad ad f q)))) := k9
  rw [e2] at k8
  exact k8
/-- a new array of ints, booleans, longs -/
theorem G.newa {X : gX} {mm : gM} {ad ad0 : Nat → Nat} {fr : List Nat} {kc ks : Nat} (hX : gOk X mm) {w : gW} {pc : Nat} {lv : List (Nat × gV)} {st : List gV} {aty : ArrayType} {n : Int} (f t : Nat) (ty : FieldType) (N : Nat) (en : gE) (a0 : vp_A) (hi : gfet pc mm.2.2.2.1 = some (.newarray aty, 2)) (hn : n = (N : Int) ∧ N ≤ 4096) (hty : newarray.typeOf aty = ty) (hp : ty = .int ∨ ty = .boolean ∨ ty = .long) (hge : ∀ (cA : Nat → ClassId) (ad : Nat → Nat), ge cA ad en = .inl (cA t, a0)) (ha : ∀ c : ClassId, vp_cell c a0 = arrV c N (fun _ => defaultValue ty)) (ht : ∀ cA : Nat → ClassId, (gtys cA)[t]? = some (cA t, ty)) (harr : Cond.arrayClass ty ∈ gtb)
    (hag : gAg fr ad0 ad) (hf : gfn fr f = false) (hw : gfw [f] w) (hlv : (lv.all fun q => gfv [f] q.2) = true) (hst : st.all (gfv [f]) = true) (hroom : kc + 1 ≤ mm.2.2.2.2.2.cells ∧ ks + N ≤ mm.2.2.2.2.2.slots)
    (k : ∀ ad', gAg fr ad0 ad' → G X mm ad' (kc + 1) (ks + N) (w ++ [(f, en)], pc + 2, lv, gr f :: st)) : G X mm ad kc ks (w, pc, lv, .inl n :: st) := by
  have hd := (hX.m.1 _ (gfet_mem hi)).1
  obtain ⟨p, l, e, R, s, m, args, below, meth, c, D, cA, A, H0, Q⟩ := X
  obtain ⟨hxc, hb, hml, hown, hts, hK, hlk, hA, hR, hM⟩ := hX
  intro H locs ls hP hD hS hl
  obtain ⟨rfl, hN⟩ := hn
  have hin : inR (N : Int) := ⟨by omega, by omega⟩
  have hcb : componentBytes ty ≤ 8 := by rcases hp with rfl | rfl | rfl <;> decide
  have hkt := (hK.2 t _ (ht cA)).2
  subst hty
  refine va_newa (D := D) (N' := N) (a0 := a0) hxc hb (hts _ harr) rfl hK hP hD hS hA ha (fun h => by
    have h1 := (gI_lt (y := 0) hin ⟨by omega, by omega⟩).mp h
    omega) (by rw [gI_cl (by omega) (by omega)]; rfl) (by
    have h9 := Nat.mul_le_mul hN hcb
    omega) (by rw [hR]; exact hroom.1) (by rw [hR]; exact hroom.2) hd (fun q cB H1 hK1 hP1 hD1 hS1 => ?_)
  have hkb := (hK1.2 (gtys cA).length (cB, newarray.typeOf aty) (by rw [List.getElem?_append_right (Nat.le_refl _), Nat.sub_self]; rfl)).2
  have hcB : cB = cA t := by
    rcases hp with h | h | h <;> rw [h] at hkb hkt <;> exact Option.some.inj (hkb.symm.trans hkt)
  subst hcB
  have h1 : gAg [f] ad (gad ad f q) := gad_ag
  have e1 : gw cA (gad ad f q) (w ++ [(f, en)]) = gw cA ad w ++ [(q, .inl (cA t, a0))] := by
    rw [gw_app, gfw_eq h1 hw]
    show _ ++ [(gad ad f q f, ge cA (gad ad f q) en)] = _
    rw [gad_s, hge]
  have k9 := k (gad ad f q) (hag.step h1 (by show (!gfn fr f && true) = true; rw [hf]; rfl)) H1 locs ls (by show va_P D vwCl (gw cA _ (w ++ _)) H1; rw [e1]; exact hP1) (by show va_D A (gw cA _ (w ++ _)); rw [e1]; exact hD1) hS1 (by show lv_has ls mm.2.1 (lv.map _); rw [gfl_lv h1 hlv]; exact hl)
  have e2 : ((gr f :: st).map (gv (gad ad f q))) = Value.ref q :: st.map (gv ad) := by
    show Value.ref (gad ad f q f) :: st.map (gv (gad ad f q)) = _
    rw [gad_s, gfl_eq h1 hst]
  have k8 : W p l e R s m args below meth c H1 locs (kc + 1) (ks + N) Q (F0 m (pc + 2) ls ((gr f :: st).map (gv (gad ad f q)))) := k9
  rw [e2] at k8
  exact k8
theorem gna_i (N : Nat) : (∀ (cA : Nat → ClassId) (ad : Nat → Nat), ge cA ad (gai 0 N (fun _ => 0)) = .inl (cA 0, (N, .inl (fun _ => 0)))) ∧ ∀ c : ClassId, vp_cell c (N, .inl (fun _ => 0)) = arrV c N (fun _ => defaultValue .int) := ⟨fun _ _ => rfl, fun _ => rfl⟩
theorem gna_z (N : Nat) : (∀ (cA : Nat → ClassId) (ad : Nat → Nat), ge cA ad (gai 1 N (fun _ => 0)) = .inl (cA 1, (N, .inl (fun _ => 0)))) ∧ ∀ c : ClassId, vp_cell c (N, .inl (fun _ => 0)) = arrV c N (fun _ => defaultValue .boolean) := ⟨fun _ _ => rfl, fun _ => rfl⟩
theorem gna_l (N : Nat) : (∀ (cA : Nat → ClassId) (ad : Nat → Nat), ge cA ad (gal 3 N (fun _ => 0)) = .inl (cA 3, (N, .inr (.inl (fun _ => 0))))) ∧ ∀ c : ClassId, vp_cell c (N, .inr (.inl (fun _ => 0))) = arrV c N (fun _ => defaultValue .long) := ⟨fun _ _ => rfl, fun _ => rfl⟩
/-- the words of the call of a constructor -/
def gCalI (y : MethodName) (mm : gM) (n : Nat) : Prop := Cond.code y mm.1 mm.2.1 none ∈ gtb ∧ Cond.instanceMethod y ∈ gtb ∧ Cond.initialized y.cls ∈ gtb ∧ y.name = "<init>" ∧ y.cls ≠ "java/lang/invoke/MethodHandle" ∧ y.cls ≠ "java/lang/invoke/VarHandle" ∧ (parseMethodDescriptor y.desc).map (fun d => d.parameters.length) = some n
theorem gGoodI {y : MethodName} {bytes : ByteArray} {maxL : Nat} {ret : Option FieldType} (h5 : Cond.code y bytes maxL ret ∈ gtb) : GoodIn gtb (Cond.code y bytes maxL ret :: gtb) := by
  have hm : ∀ w ∈ Cond.code y bytes maxL ret :: gtb, w ∈ gtb := fun w hw => by
    rcases List.mem_cons.mp hw with rfl | hw
    · exact h5
    · exact hw
  exact goodIn_sub hm (List.all_eq_true.mpr fun w hw => List.all_eq_true.mp lw_good w (hm w hw))
section GAFTERN
variable {p : Program} {l : Launch} {e : Env} {R : Room} {s : State} {m : MethodId} {args : Array Value} {below : List Frame} {meth : Method} {c : Code} {H : Heap} {locs : List Loc} {cells slots : Nat} {Q : State → Prop}
variable {pc : Nat} {ls : Array Slot} {rest st0 : List Value} {a : Array Value} {A0 A1 : Nat → Prop} {H0 : Heap} {mc ms : Nat} {free : Addr → Prop} {D : va_G} {cA : Nat → ClassId} {ad : Nat → Nat} {fr : List Nat}
theorem g_afterN {post : gW → Prop} (hr : va_Run p l e R s m args below meth c H locs cells slots mc ms (F0 m pc ls st0) rest (gQN D cA ad A1 fr post a) free) (hS : va_S A0 H0 H locs) (hA : ∀ q, q < H.size → A1 q → A0 q) (hf : ∀ q, free q → A0 q)
    (kk : ∀ (ad' : Nat → Nat) (w : gW) (H1 : Heap) (locs1 : List Loc), gAg fr ad ad' → post w → va_P D vwCl (gw cA ad' w) H1 → va_D A1 (gw cA ad' w) → H.size ≤ H1.size → (∀ q : Nat, q < H.size → ¬ A1 q → H1[q]? = H[q]?) → va_S A0 H0 H1 locs1 → W p l e R s m args below meth c H1 locs1 (cells + mc) (slots + ms) Q (F0 m (pc + 3) ls rest)) : W p l e R s m args below meth c H locs cells slots Q (F0 m pc ls st0) := by
  intro T hT X
  obtain ⟨v, st₀, t, T', L, h0, X', hL, e1, e2, ⟨⟨ad', w, hv, hag, hp, hP1, hK1, hD1⟩, hz, hk⟩, st⟩ := hr T hT X
  cases hv
  rw [h0] at hz hk
  obtain ⟨t2, a1, b1⟩ := kk ad' w T'.heap (locs ++ L) hag hp (by rw [e1]; exact hP1) hD1 (by rw [e1]; exact hz) (fun q h1 h2 => by rw [e1]; exact hk q h1 h2)
    ⟨Nat.le_trans hS.1 (by rw [e1]; exact hz), fun q h1 h2 => by rw [e1, hk q (Nat.lt_of_lt_of_le h1 hS.1) (fun z => h2 (hA q (Nat.lt_of_lt_of_le h1 hS.1) z))]; exact hS.2.1 q h1 h2, fun q hq => by
      rcases List.mem_append.mp hq with h | h
      · exact hS.2.2 q h
      · exact hf _ (hL q h)⟩ T' rfl X'
  exact ⟨t2, st t2 a1, b1⟩
end GAFTERN
/-- the call of a constructor; nest: its link is a nest mate's -/
theorem G.callI {X : gX} {mm : gM} {ad ad0 : Nat → Nat} {fr : List Nat} {kc ks : Nat} (hX : gOk X mm) (hEX : gEX X) {w : gW} {pc : Nat} {lv : List (Nat × gV)} {st : List gV} {idx : Nat} (hi : gfet pc mm.2.2.2.1 = some (.invokespecial idx, 3)) {y : MethodName} {cm : gM} {n mc ms : Nat} {o : Nat} {av : List gV} {wc : gW} (fs : List Nat) {post : gW → Prop}
    (hC : ∀ l D cA, gCN l D cA y cm mc ms (gr o :: av) wc fs post) (hl1 : Cond.methodLink mm.2.2.1 idx y ∈ gtb ∨ ∃ h : String, ∀ U, gEN U → va_Nw (.methodLinkNest mm.2.2.1 idx y h) U) (hcal : gCalI y cm n) (hn : av.length = n)
    (hrc : cm.2.2.2.2.2.cells = mc ∧ cm.2.2.2.2.2.slots = ms) (hroom : (cm.2.2.2.2.2.frames + 1 ≤ mm.2.2.2.2.2.frames ∧ 8 + (cm.2.1 + 11) + cm.2.2.2.2.2.locals ≤ mm.2.2.2.2.2.locals) ∧ kc + mc ≤ mm.2.2.2.2.2.cells ∧ ks + ms ≤ mm.2.2.2.2.2.slots) (hst : gstk st ≤ 8)
    (isC isR : List Nat) (wr : gW) (hwc : isC.map (fun i => w[i]?) = wc.map some) (hwr : isR.map (fun i => w[i]?) = wr.map some) (hnd : (va_nd isC && va_nd isR && isR.all (fun i => !isC.contains i)) = true)
    (hag : gAg fr ad0 ad) (hf : fs.all (fun f => !gfn fr f) = true) (hw : gfw fs wr) (hlv : (lv.all fun q => gfv fs q.2) = true) (hsf : st.all (gfv fs) = true)
    (k : ∀ (ad' : Nat → Nat) (w' : gW), gAg fr ad0 ad' → post w' → G X mm ad' (kc + mc) (ks + ms) (wr ++ w', pc + 3, lv, st)) : G X mm ad kc ks (w, pc, lv, av.reverse ++ gr o :: st) := by
  have hd := (hX.m.1 _ (gfet_mem hi)).1
  obtain ⟨p, l, e, R, s, m, args, below, meth, c, D, cA, A, H0, Q⟩ := X
  obtain ⟨hxc, hb, hml, hown, hts, hK, hlk, hA, hR, hM⟩ := hX
  simp only [Bool.and_eq_true] at hnd
  obtain ⟨⟨hn1, hn2⟩, hn3⟩ := hnd
  have hdis : ∀ i ∈ isR, i ∉ isC := fun i hi h => by
    have := List.all_eq_true.mp hn3 i hi
    simp [h] at this
  intro H locs ls hP hD hS hl
  have hPc := hP.sub isC (gsel_fm (gsel_gw (cA := cA) (ad := ad) hwc))
  have hDc := hD.sub isC hn1 (gsel_gw hwc)
  have hFc := va_free hD hS hA isC (gsel_gw hwc)
  obtain ⟨c1, c2, c4, c8, c5, c6, c7⟩ := hcal
  have hpre : PreS s H (va_Pc ((gr o :: av).map (gv ad)) (fun U => gPre D cA ad H.size wc U ∧ gEN U)) (Value.ref (ad o) :: av.map (gv ad)) :=
    ⟨fun a U g mk q => ⟨q.1, ⟨q.2.1.1, q.2.1.2.1, va_K.moved (u := U) (U := U.calling g mk a) (Vm.Alike.refl U.vm) q.2.1.2.2.1, q.2.1.2.2.2⟩, gEN.same (s := U) (U := U.calling g mk a) rfl q.2.2⟩, fun U hU hW => ⟨rfl, ⟨by rw [hU], by rw [hU]; exact hPc, va_K.moved hW.alike hK, hDc.weaken (fun _ _ _ _ => trivial)⟩, gEN.warm hW hEX⟩⟩
  have hrun : va_Run p l e R s m args below meth c H locs kc ks mc ms (F0 m pc ls ((av.reverse ++ gr o :: st).map (gv ad))) (st.map (gv ad)) (gQN D cA ad (va_A (gw cA ad wc) H.size) fs post (Value.ref (ad o) :: av.map (gv ad)).toArray) (va_A (gw cA ad wc) H.size) := by
    have hstk : (av.reverse ++ gr o :: st).map (gv ad) = (av.map (gv ad)).reverse ++ Value.ref (ad o) :: st.map (gv ad) := by
      rw [List.map_append, List.map_reverse]
      rfl
    rcases hl1 with hl1 | ⟨h, hl1⟩
    · exact va_runI (As := av.map (gv ad)) (rest := st.map (gv ad)) (b := ad o) ⟨hxc, hb, hml, hown, hts⟩ (hC l D cA ad H.size) (cwI n hts (gGoodI c1) rfl hrc.1 hrc.2 (hts _ c4) (hts _ hl1) (hts _ c2) c8 ⟨c5, c6, c7⟩ (by rw [hR]; exact hroom.1)) hpre rfl (by rw [List.length_map]; exact hn) hl.1 hstk (by show 2 * 0 + _ ≤ 8; rw [gstk_ok]; omega) hd ⟨by rw [hR]; exact hroom.2.1, by rw [hR]; exact hroom.2.2⟩
    · exact va_runIN (As := av.map (gv ad)) (rest := st.map (gv ad)) (b := ad o) ⟨hxc, hb, hml, hown, hts⟩ (hC l D cA ad H.size) ⟨va_cnB (host := h) n hts (gGoodI c1) rfl hrc.1 hrc.2 (hl1 _ hEX) (hts _ c4) ⟨c5, c6, c7⟩ (by rw [hR]; exact hroom.1), c8, hts _ c2⟩ hpre rfl (by rw [List.length_map]; exact hn) hl.1 hstk (by show 2 * 0 + _ ≤ 8; rw [gstk_ok]; omega) hd ⟨by rw [hR]; exact hroom.2.1, by rw [hR]; exact hroom.2.2⟩
  refine g_afterN (D := D) (cA := cA) (ad := ad) hrun hS (fun q _ h => hFc q h) hFc (fun ad' w' H1 locs1 hag1 hp hP1 hD1 hz hk hS1 => ?_)
  obtain ⟨hP2, hD2⟩ := va_join hP hD isC isR (gsel_gw hwc) (gsel_gw (cA := cA) (ad := ad) hwr) hn2 hdis hk hFc hP1 hD1
  have e1 : gw cA ad' (wr ++ w') = gw cA ad wr ++ gw cA ad' w' := by rw [gw_app, gfw_eq hag1 hw]
  have k9 : W p l e R s m args below meth c H1 locs1 (kc + mc) (ks + ms) Q (F0 m (pc + 3) ls (st.map (gv ad'))) := k ad' w' (hag.step hag1 hf) hp H1 locs1 ls (by show va_P D vwCl (gw cA ad' (wr ++ w')) H1; rw [e1]; exact hP2) (by show va_D A (gw cA ad' (wr ++ w')); rw [e1]; exact hD2) hS1 (by show lv_has ls mm.2.1 (lv.map _); rw [gfl_lv hag1 hlv]; exact hl)
  rw [gfl_eq hag1 hsf] at k9
  exact k9
