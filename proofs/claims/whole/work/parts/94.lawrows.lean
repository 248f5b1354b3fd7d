/-! the law's own rows: its script, its calls -/
/-- the script's number at z -/
def gxz (xs : Nat → Int32) (z : Int) : Int := (xs z.toNat).toInt
theorem gxz_r (xs : Nat → Int32) (z : Int) : inR (gxz xs z) := by
  have h1 := Int32.le_toInt (xs z.toNat)
  have h2 := Int32.toInt_lt (xs z.toNat)
  unfold gxz
  exact ⟨by omega, by omega⟩
theorem gxz_o (xs : Nat → Int32) (z : Int) : Int32.ofInt (gxz xs z) = xs z.toNat := Int32.ofInt_toInt _
/-- cell 90 is the script, outside of what is written -/
def gScr (X : gX) (ad : Nat → Nat) (L : Nat) (xs : Nat → Int32) : Prop := match X with
  | (_, _, _, _, s, _, _, _, _, _, _, _, A, H0, _) => va_X (ad 90) L xs s H0 ∧ ad 90 < H0.size ∧ ¬ A (ad 90)
theorem gScr.ag {X : gX} {ad ad' : Nat → Nat} {fr : List Nat} {L : Nat} {xs : Nat → Int32} (h : gScr X ad L xs) (hag : gAg fr ad ad') (hf : gfn fr 90 = true) : gScr X ad' L xs := by
  obtain ⟨p, l, e, R, s, m, args, below, meth, c, D, cA, A, H0, Q⟩ := X
  have h1 := hag 90 hf
  show va_X (ad' 90) L xs s H0 ∧ ad' 90 < H0.size ∧ ¬ A (ad' 90)
  rw [h1]
  exact h
theorem g_sld {X : gX} {mm : gM} {ad : Nat → Nat} {kc ks : Nat} (hX : gOk X mm) {L : Nat} {xs : Nat → Int32} (hS9 : gScr X ad L xs) {w : gW} {pc : Nat} {lv : List (Nat × gV)} {st : List gV} {z : Int} (hi : gfet pc mm.2.2.2.1 = some (.iaload, 1)) (hz : 0 ≤ z ∧ z < (L : Int) ∧ (L : Int) ≤ 2147483647) (k : G X mm ad kc ks (w, pc + 1, lv, gi (gxz xs z) :: st)) : G X mm ad kc ks (w, pc, lv, gi z :: gr 90 :: st) := by
  have hd := (hX.m.1 _ (gfet_mem hi)).1
  obtain ⟨p, l, e, R, s, m, args, below, meth, c, D, cA, A, H0, Q⟩ := X
  obtain ⟨hxc, hb, hml, hown, hts, hK, hlk, hA, hR, hM⟩ := hX
  obtain ⟨x1, x2, x3⟩ := hS9
  intro H locs ls hP hD hS hl
  refine va_sld hxc hb x1 x2 x3 hS (gI_in hz) hd ?_
  have h9 := k H locs ls hP hD hS hl
  have e9 : Int32.ofInt (gxz xs z) = xs (Int32.ofInt z).toNatClampNeg := by rw [gxz_o, gI_cl hz.1 (by omega)]
  rw [← e9]
  exact h9
theorem g_slen {X : gX} {mm : gM} {ad : Nat → Nat} {kc ks : Nat} (hX : gOk X mm) {L : Nat} {xs : Nat → Int32} (hS9 : gScr X ad L xs) {w : gW} {pc : Nat} {lv : List (Nat × gV)} {st : List gV} (hi : gfet pc mm.2.2.2.1 = some (.arraylength, 1)) (k : G X mm ad kc ks (w, pc + 1, lv, gi (L : Int) :: st)) : G X mm ad kc ks (w, pc, lv, gr 90 :: st) := by
  have hd := (hX.m.1 _ (gfet_mem hi)).1
  obtain ⟨p, l, e, R, s, m, args, below, meth, c, D, cA, A, H0, Q⟩ := X
  obtain ⟨hxc, hb, hml, hown, hts, hK, hlk, hA, hR, hM⟩ := hX
  obtain ⟨x1, x2, x3⟩ := hS9
  intro H locs ls hP hD hS hl
  refine va_slen hxc hb x1 x2 x3 hS hd ?_
  have h9 := k H locs ls hP hD hS hl
  rw [show Int32.ofNat L = Int32.ofInt (L : Int) from (Int32.ofInt_eq_ofNat).symm]
  exact h9
/-- script[i + k] -/
theorem g_scr {X : gX} {mm : gM} {ad : Nat → Nat} {kc ks : Nat} (hX : gOk X mm) {L : Nat} {xs : Nat → Int32} (hS9 : gScr X ad L xs) {w : gW} {pc : Nat} {lv : List (Nat × gV)} {st : List gV} {i : Int} (k : Int) (h1 : gfet pc mm.2.2.2.1 = some (.aload_n 0, 1)) (h2 : gfet (pc + 1) mm.2.2.2.1 = some (.iload 4, 2)) (h3 : gfet (pc + 3) mm.2.2.2.1 = some (.iconst k, 1)) (h4 : gfet (pc + 4) mm.2.2.2.1 = some (.iadd, 1)) (h5 : gfet (pc + 5) mm.2.2.2.1 = some (.iaload, 1)) (l0 : glook 0 lv = some (gr 90)) (l4 : glook 4 lv = some (gi i)) (hz : 0 ≤ i + k ∧ i + k < (L : Int) ∧ (L : Int) ≤ 2147483647) (kk : G X mm ad kc ks (w, pc + 6, lv, gi (gxz xs (i + k)) :: st)) : G X mm ad kc ks (w, pc, lv, st) := by
  refine gstep_ok (S' := (w, pc + 1, lv, gr 90 :: st)) (O := none) hX (gfet_mem h1) ?_ (fun _ h => nomatch h) ?_
  · show (match glook 0 lv with | some (.inr (.inr (some r))) => some ((w, pc + 1, lv, Sum.inr (Sum.inr (some r)) :: st), none) | _ => none) = _
    rw [l0]
  refine gstep_ok (S' := (w, pc + 3, lv, gi i :: gr 90 :: st)) (O := none) hX (gfet_mem h2) ?_ (fun _ h => nomatch h) ?_
  · show (match glook 4 lv with | some (.inl z) => some ((w, pc + 1 + 2, lv, Sum.inl z :: gr 90 :: st), none) | _ => none) = _
    rw [l4]
  refine gstep_ok (S' := (w, pc + 4, lv, gi k :: gi i :: gr 90 :: st)) (O := none) hX (gfet_mem h3) rfl (fun _ h => nomatch h) ?_
  refine gstep_ok (S' := (w, pc + 5, lv, gi (i + k) :: gr 90 :: st)) (O := none) hX (gfet_mem h4) rfl (fun _ h => nomatch h) ?_
  exact g_sld hX hS9 h5 hz kk
/-- the words of the call of a method with handlers -/
def gCalW (y : MethodName) (mm : gM) (hh : List (Nat × Nat × Nat × Nat)) (ret : Option FieldType) (n : Nat) : Prop := Cond.codeWith y mm.1 mm.2.1 ret hh ∈ gtb ∧ Cond.static y ∈ gtb ∧ Cond.initialized y.cls ∈ gtb ∧ y.cls ≠ "java/lang/invoke/MethodHandle" ∧ y.cls ≠ "java/lang/invoke/VarHandle" ∧ (parseMethodDescriptor y.desc).map (fun d => d.parameters.length) = some n
theorem gGoodW {own : String} {idx : Nat} {y : MethodName} {bytes : ByteArray} {maxL : Nat} {ret : Option FieldType} {hh : List (Nat × Nat × Nat × Nat)} (h1 : Cond.methodLink own idx y ∈ gtb) (h2 : Cond.static y ∈ gtb) (h4 : Cond.initialized y.cls ∈ gtb) (h5 : Cond.codeWith y bytes maxL ret hh ∈ gtb) : GoodIn gtb (va_wsS own idx y (Cond.codeWith y bytes maxL ret hh :: gtb)) := by
  have hm : ∀ w ∈ va_wsS own idx y (Cond.codeWith y bytes maxL ret hh :: gtb), w ∈ gtb := fun w hw => by
    rcases List.mem_append.mp hw with hw | hw
    · simp only [List.mem_cons, List.not_mem_nil, or_false] at hw
      rcases hw with rfl | rfl | rfl <;> assumption
    · rcases List.mem_cons.mp hw with rfl | hw
      · exact h5
      · exact hw
  exact goodIn_sub hm (List.all_eq_true.mpr fun w hw => List.all_eq_true.mp lw_good w (hm w hw))
theorem G.callW {X : gX} {mm : gM} {ad : Nat → Nat} {kc ks : Nat} (hX : gOk X mm) (hT : gTX X) {w : gW} {pc : Nat} {lv : List (Nat × gV)} {st : List gV} {idx : Nat} (hi : gfet pc mm.2.2.2.1 = some (.invokestatic idx, 3)) {y : MethodName} {cm : gM} {hh : List (Nat × Nat × Nat × Nat)} {ret : Option FieldType} {n mc ms : Nat} {av : List gV} {wc : gW} {post : Option gV → gW → Prop}
    (hC : ∀ l D cA, l.stackTraces = false → gCW l D cA y cm hh ret mc ms av wc post) (hl1 : Cond.methodLink mm.2.2.1 idx y ∈ gtb) (hcal : gCalW y cm hh ret n) (hn : av.length = n)
    (hrc : cm.2.2.2.2.2.cells = mc ∧ cm.2.2.2.2.2.slots = ms) (hroom : (cm.2.2.2.2.2.frames + 1 ≤ mm.2.2.2.2.2.frames ∧ 8 + (cm.2.1 + 11) + cm.2.2.2.2.2.locals ≤ mm.2.2.2.2.2.locals) ∧ kc + mc ≤ mm.2.2.2.2.2.cells ∧ ks + ms ≤ mm.2.2.2.2.2.slots) (hst : gstk st ≤ 8)
    (isC isR : List Nat) (wr : gW) (hwc : isC.map (fun i => w[i]?) = wc.map some) (hwr : isR.map (fun i => w[i]?) = wr.map some) (hnd : (va_nd isC && va_nd isR && isR.all (fun i => !isC.contains i)) = true)
    (k : ∀ (r : Option gV) (w' : gW), post r w' → G X mm ad (kc + mc) (ks + ms) (wr ++ w', pc + 3, lv, r.toList ++ st)) : G X mm ad kc ks (w, pc, lv, av.reverse ++ st) := by
  have hd := (hX.m.1 _ (gfet_mem hi)).1
  obtain ⟨p, l, e, R, s, m, args, below, meth, c, D, cA, A, H0, Q⟩ := X
  obtain ⟨hxc, hb, hml, hown, hts, hK, hlk, hA, hR, hM⟩ := hX
  obtain ⟨hET, hst9, hH0⟩ := hT
  simp only [Bool.and_eq_true] at hnd
  obtain ⟨⟨hn1, hn2⟩, hn3⟩ := hnd
  have hdis : ∀ i ∈ isR, i ∉ isC := fun i hi h => by
    have := List.all_eq_true.mp hn3 i hi
    simp [h] at this
  intro H locs ls hP hD hS hl
  have hPc := hP.sub isC (gsel_fm (gsel_gw (cA := cA) (ad := ad) hwc))
  have hDc := hD.sub isC hn1 (gsel_gw hwc)
  have hFc := va_free hD hS hA isC (gsel_gw hwc)
  obtain ⟨c1, c2, c4, c5, c6, c7⟩ := hcal
  refine g_after (D := D) (cA := cA) (ad := ad) (vx_runSW (As := av.map (gv ad)) (rest := st.map (gv ad)) ⟨hxc, hb, hml, hown, hts⟩ (hC l D cA hst9 ad H.size) (vx_cwSW n hts (gGoodW hl1 c2 c4 c1) rfl hrc.1 hrc.2 ⟨c5, c6, c7⟩ (by rw [hR]; exact hroom.1))
      ⟨fun a U g mk q => ⟨q.1, ⟨q.2.1.1, q.2.1.2.1, va_K.moved (u := U) (U := U.calling g mk a) (Vm.Alike.refl U.vm) q.2.1.2.2.1, q.2.1.2.2.2⟩, gET.same (s := U) (U := U.calling g mk a) rfl rfl q.2.2⟩, fun U hU hW => ⟨rfl, ⟨by rw [hU], by rw [hU]; exact hPc, va_K.moved hW.alike hK, hDc.weaken (fun _ _ _ _ => trivial)⟩, gET.move hW (fun q h => hFc q h) (fun a h1 h2 => by rw [hU]; rw [hH0] at hS; exact hS.2.1 a h1 h2) hET⟩⟩ rfl (by rw [List.length_map]; exact hn) hl.1 ?_ (by show 2 * 0 + _ ≤ 8; rw [gstk_ok]; omega) hd ⟨by rw [hR]; exact hroom.2.1, by rw [hR]; exact hroom.2.2⟩) hS (fun q _ h => hFc q h) hFc (fun r w' H1 locs1 hp hP1 hD1 hz hk hS1 => ?_)
  · show ((av.reverse ++ st).map (gv ad)) = _
    rw [List.map_append, List.map_reverse]
  · obtain ⟨hP2, hD2⟩ := va_join hP hD isC isR (gsel_gw hwc) (gsel_gw (cA := cA) (ad := ad) hwr) hn2 hdis hk hFc hP1 hD1
    have k9 := k r w' hp H1 locs1 ls (by rw [gw_app]; exact hP2) (by rw [gw_app]; exact hD2) hS1 hl
    rw [List.map_append] at k9
    cases r <;> exact k9
/-! cell(script, k) -/
def gCS (l : Launch) (D : va_G) (cA : Nat → ClassId) (L : Nat) (xs : Nat → Int32) (y : MethodName) (mm : gM) (ret : Option FieldType) (av : List gV) (post : Option gV → gW → Prop) : Prop :=
  ∀ (ad : Nat → Nat) (sz : Nat), Met l y (Cond.code y mm.1 mm.2.1 ret :: gtb) mm.2.2.2.2.2 (va_Pc (av.map (gv ad)) (fun U => gPre D cA ad sz [] U ∧ va_X (ad 90) L xs U U.heap ∧ ad 90 < sz)) (gQ D cA ad (va_A [] sz) post) 0 0 (va_A [] sz)
theorem g_cellB {X : gX} {ad : Nat → Nat} {L : Nat} {xs : Nat → Int32} {k : Int} (hL : L ≤ 2562) (hk : 0 ≤ k ∧ k ≤ 5) (hX : gOk X mL_cell) (hE : gEnd X ad 0 0 (fun r w => r = some (gi (if k < L then gxz xs k else 0)) ∧ w = []) (some .int)) (hS : gScr X ad L xs) : G X mL_cell ad 0 0 ([], 0, [(0, gr 90), (1, gi k)], []) := by
  refine G.go hX 2 ([], 2, [(0, gr 90), (1, gi k)], [gr 90, gi k]) rfl trivial ?_
  refine g_slen hX hS rfl ?_
  refine g_icmp_ge hX 12 rfl rfl ⟨by omega, by omega⟩ ⟨by omega, by omega⟩ (fun b3 => ?_) (fun b3 => ?_)
  · refine G.go hX 1 ([], 13, [(0, gr 90), (1, gi k)], [gi 0]) rfl trivial ?_
    exact g_iret hX hE rfl ⟨by rw [if_neg (by omega)], rfl⟩
  · refine G.go hX 2 ([], 8, [(0, gr 90), (1, gi k)], [gi k, gr 90]) rfl trivial ?_
    refine g_sld hX hS rfl ⟨by omega, by omega, by omega⟩ ?_
    refine G.go hX 1 ([], 13, [(0, gr 90), (1, gi k)], [gi (gxz xs k)]) rfl trivial ?_
    exact g_iret hX hE rfl ⟨by rw [if_pos (by omega)], rfl⟩
theorem c_L_cell (l : Launch) (D : va_G) (cA : Nat → ClassId) (L : Nat) (xs : Nat → Int32) (k : Int) (hL : L ≤ 2562) (hk : 0 ≤ k ∧ k ≤ 5) : gCS l D cA L xs yL_cell mL_cell (some .int) [gr 90, gi k] (fun r w => r = some (gi (if k < L then gxz xs k else 0)) ∧ w = []) := by
  intro ad sz
  refine Met.ofW (cc := mL_cell.1) (maxL := mL_cell.2.1) (ret := (some .int)) rfl rfl ?_
  intro p e s m args below meth c s₁ B hml hv
  obtain ⟨rfl, ⟨hsz, hP, hK, hD0⟩, hx9, hlt⟩ := hv
  have hts := atoms_spec (ws := Cond.code yL_cell mL_cell.1 mL_cell.2.1 (some .int) :: gtb) B.pre
  have hown : s.vm.findClass yL_cell.cls = some m.cls := findClass_of_methodNamed B.named
  have hlocks := B.notSynchronized
  subst hsz
  have hD := hD0.self (sz := s.heap.size)
  have hl := lv_entry (([gr 90, gi k] : List gV).map (gv ad)) (n := mL_cell.2.1) (by rw [(gargs_ok [gr 90, gi k] 0 rfl).2]; exact Nat.le_of_ble_eq_true rfl)
  rw [(gargs_ok [gr 90, gi k] 0 rfl).1] at hl
  rw [lg_entry_eq]
  have hX : gOk (p, l, e, mL_cell.2.2.2.2.2, s, m, (([gr 90, gi k] : List gV).map (gv ad)).toArray, below, meth, c, D, cA, va_A [] s.heap.size, s.heap, MQ below (gQ D cA ad (va_A [] s.heap.size) (fun r w => r = some (gi (if k < L then gxz xs k else 0)) ∧ w = [])) (([gr 90, gi k] : List gV).map (gv ad)).toArray s 0 0 (va_A [] s.heap.size)) mL_cell :=
    ⟨B.exec, B.bytes, hml, hown, fun x hx => hts x (List.mem_cons_of_mem _ hx), hK, hlocks, fun q h => Or.inr h, rfl, kL_cell⟩
  have hE : gEnd (p, l, e, mL_cell.2.2.2.2.2, s, m, (([gr 90, gi k] : List gV).map (gv ad)).toArray, below, meth, c, D, cA, va_A [] s.heap.size, s.heap, MQ below (gQ D cA ad (va_A [] s.heap.size) (fun r w => r = some (gi (if k < L then gxz xs k else 0)) ∧ w = [])) (([gr 90, gi k] : List gV).map (gv ad)).toArray s 0 0 (va_A [] s.heap.size)) ad 0 0 (fun r w => r = some (gi (if k < L then gxz xs k else 0)) ∧ w = []) (some .int) := ⟨B.returns, rfl, rfl⟩
  have hS : gScr (p, l, e, mL_cell.2.2.2.2.2, s, m, (([gr 90, gi k] : List gV).map (gv ad)).toArray, below, meth, c, D, cA, va_A [] s.heap.size, s.heap, MQ below (gQ D cA ad (va_A [] s.heap.size) (fun r w => r = some (gi (if k < L then gxz xs k else 0)) ∧ w = [])) (([gr 90, gi k] : List gV).map (gv ad)).toArray s 0 0 (va_A [] s.heap.size)) ad L xs := ⟨hx9, hlt, fun h => by
    rcases h with ⟨k9, e9, h9⟩ | h9
    · simp at h9
    · omega⟩
  exact g_cellB hL hk hX hE hS s.heap [] _ hP hD va_S.rf hl
/-- cell(script, k), called -/
theorem G.callC {X : gX} {mm : gM} {ad : Nat → Nat} {kc ks : Nat} (hX : gOk X mm) {L : Nat} {xs : Nat → Int32} (hS9 : gScr X ad L xs) (hH9 : match X with | (_, _, _, _, s, _, _, _, _, _, _, _, _, H0, _) => H0 = s.heap) {w : gW} {pc : Nat} {lv : List (Nat × gV)} {st : List gV} {idx : Nat} (hi : gfet pc mm.2.2.2.1 = some (.invokestatic idx, 3)) {y : MethodName} {cm : gM} {ret : Option FieldType} {n : Nat} {av : List gV} {post : Option gV → gW → Prop}
    (hC : ∀ l D cA, gCS l D cA L xs y cm ret av post) (hl1 : Cond.methodLink mm.2.2.1 idx y ∈ gtb) (hcal : gCalS y cm ret n) (hn : av.length = n)
    (hrc : cm.2.2.2.2.2.cells = 0 ∧ cm.2.2.2.2.2.slots = 0) (hroom : (cm.2.2.2.2.2.frames + 1 ≤ mm.2.2.2.2.2.frames ∧ 8 + (cm.2.1 + 11) + cm.2.2.2.2.2.locals ≤ mm.2.2.2.2.2.locals) ∧ kc + 0 ≤ mm.2.2.2.2.2.cells ∧ ks + 0 ≤ mm.2.2.2.2.2.slots) (hst : gstk st ≤ 8)
    (k : ∀ (r : Option gV), post r [] → G X mm ad kc ks (w, pc + 3, lv, r.toList ++ st)) (hpn : ∀ r w', post r w' → w' = []) : G X mm ad kc ks (w, pc, lv, av.reverse ++ st) := by
  have hd := (hX.m.1 _ (gfet_mem hi)).1
  obtain ⟨p, l, e, R, s, m, args, below, meth, c, D, cA, A, H0, Q⟩ := X
  obtain ⟨hxc, hb, hml, hown, hts, hK, hlk, hA, hR, hM⟩ := hX
  obtain ⟨x1, x2, x3⟩ := hS9
  intro H locs ls hP hD hS hl
  have hPc : va_P D vwCl (gw cA ad []) H := fun k9 q9 h9 => by simp [gw] at h9
  have hDc : va_D (fun _ => True) (gw cA ad []) := ⟨fun i j p9 q9 h9 => by simp [gw] at h9, fun k9 q9 h9 => by simp [gw] at h9⟩
  have hwc : ([] : List Nat).map (fun i => (gw cA ad w)[i]?) = (gw cA ad []).map some := rfl
  have hFc := va_free hD hS hA [] hwc
  obtain ⟨c1, c2, c4, c5, c6, c7⟩ := hcal
  refine g_after (D := D) (cA := cA) (ad := ad) (va_runS (As := av.map (gv ad)) (rest := st.map (gv ad)) ⟨hxc, hb, hml, hown, hts⟩ (hC l D cA ad H.size) (va_cwS n hts (gGoodS hl1 c2 c4 c1) rfl hrc.1 hrc.2 ⟨c5, c6, c7⟩ (by rw [hR]; exact hroom.1))
      ⟨fun a U g mk q => ⟨q.1, ⟨q.2.1.1, q.2.1.2.1, va_K.moved (u := U) (U := U.calling g mk a) (Vm.Alike.refl U.vm) q.2.1.2.2.1, q.2.1.2.2.2⟩, va_X.moved (u := U) (U := U.calling g mk a) (Vm.Alike.refl U.vm) q.2.2.1, q.2.2.2⟩, fun U hU hW => ⟨rfl, ⟨by rw [hU], by rw [hU]; exact hPc, va_K.moved hW.alike hK, hDc⟩, va_X.moved hW.alike (by rw [hU]; exact x1.kept (hS.2.1 _ x2 x3)), Nat.lt_of_lt_of_le x2 hS.1⟩⟩ rfl (by rw [List.length_map]; exact hn) hl.1 ?_ (by show 2 * 0 + _ ≤ 8; rw [gstk_ok]; omega) hd ⟨by rw [hR]; exact hroom.2.1, by rw [hR]; exact hroom.2.2⟩) hS (fun q _ h => hFc q h) hFc (fun r w' H1 locs1 hp hP1 hD1 hz hk hS1 => ?_)
  · show ((av.reverse ++ st).map (gv ad)) = _
    rw [List.map_append, List.map_reverse]
  · have hP2 : va_P D vwCl (gw cA ad w) H1 := hP.kept (fun k9 x hx => hk x.1 ((hP k9 x hx).lt) (fun h9 => by
      rcases h9 with ⟨k8, e8, h8⟩ | h8
      · simp [gw] at h8
      · have := (hP k9 x hx).lt
        omega))
    have e9 := hpn r w' hp
    subst e9
    have k9 := k r hp H1 locs1 ls hP2 hD hS1 hl
    rw [List.map_append] at k9
    cases r <;> exact k9
