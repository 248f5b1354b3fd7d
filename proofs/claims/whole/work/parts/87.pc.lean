theorem gu_r1 {f : Int → Int} (h : ∀ q : Int, inR (f q)) {k v : Int} (hv : inR v) : ∀ q : Int, inR (gu f k v q) := fun q => by
  unfold gu
  split
  · exact hv
  · exact h q
theorem gth_A {X : gX} {mm : gM} {ad : Nat → Nat} {kc ks mc ms : Nat} {post : Option gV → gW → Prop} {thr : String → gW → Prop} {ret : Option FieldType} (hX : gOk X mm) (hE : gEndT X ad mc ms post thr ret) {w : gW} {pc is : Nat} {text : String} {lv : List (Nat × gV)} {st : List gV} (h0 : gfet pc mm.2.2.2.1 = some (.new 66, 3)) (h3 : gfet (pc + 3) mm.2.2.2.1 = some (.dup, 1)) (h4 : gfet (pc + 4) mm.2.2.2.1 = some (.ldc is, 2)) (h6 : gfet (pc + 6) mm.2.2.2.1 = some (.invokespecial 70, 3)) (h9 : gfet (pc + 9) mm.2.2.2.1 = some (.athrow, 1)) (hs : (is, text) ∈ gxs) (hown : mm.2.2.1 = RX7) (hroom : (7 ≤ mm.2.2.2.2.2.frames ∧ gstk st + 95 ≤ mm.2.2.2.2.2.locals) ∧ kc + 1 ≤ mm.2.2.2.2.2.cells ∧ ks + 6 ≤ mm.2.2.2.2.2.slots) (hm : kc + 1 ≤ mc ∧ ks + 6 ≤ ms) (h : thr xA w) : G X mm ad kc ks (w, pc, lv, st) :=
  g_thr (names := xX :: xRE) hX hE h0 h3 h4 h6 h9 ⟨by decide, by decide⟩ hown (by decide +kernel) (by decide +kernel) hs (by decide +kernel) (by decide +kernel) ⟨⟨by have := hroom.1.1; show _ + 3 < _; simp [xRE]; omega, by have := hroom.1.2; simp [xRE]; omega⟩, hroom.2⟩ hm h
theorem gth_I {X : gX} {mm : gM} {ad : Nat → Nat} {kc ks mc ms : Nat} {post : Option gV → gW → Prop} {thr : String → gW → Prop} {ret : Option FieldType} (hX : gOk X mm) (hE : gEndT X ad mc ms post thr ret) {w : gW} {pc is : Nat} {text : String} {lv : List (Nat × gV)} {st : List gV} (h0 : gfet pc mm.2.2.2.1 = some (.new 77, 3)) (h3 : gfet (pc + 3) mm.2.2.2.1 = some (.dup, 1)) (h4 : gfet (pc + 4) mm.2.2.2.1 = some (.ldc is, 2)) (h6 : gfet (pc + 6) mm.2.2.2.1 = some (.invokespecial 81, 3)) (h9 : gfet (pc + 9) mm.2.2.2.1 = some (.athrow, 1)) (hs : (is, text) ∈ gxs) (hown : mm.2.2.1 = RX7) (hroom : (7 ≤ mm.2.2.2.2.2.frames ∧ gstk st + 95 ≤ mm.2.2.2.2.2.locals) ∧ kc + 1 ≤ mm.2.2.2.2.2.cells ∧ ks + 6 ≤ mm.2.2.2.2.2.slots) (hm : kc + 1 ≤ mc ∧ ks + 6 ≤ ms) (h : thr xI w) : G X mm ad kc ks (w, pc, lv, st) :=
  g_thr (names := xRE) hX hE h0 h3 h4 h6 h9 ⟨by decide, by decide⟩ hown (by decide +kernel) (by decide +kernel) hs (by decide +kernel) (by decide +kernel) ⟨⟨by have := hroom.1.1; show _ + 3 < _; simp [xRE]; omega, by have := hroom.1.2; simp [xRE]; omega⟩, hroom.2⟩ hm h
theorem gth_X {X : gX} {mm : gM} {ad : Nat → Nat} {kc ks mc ms : Nat} {post : Option gV → gW → Prop} {thr : String → gW → Prop} {ret : Option FieldType} (hX : gOk X mm) (hE : gEndT X ad mc ms post thr ret) {w : gW} {pc is : Nat} {text : String} {lv : List (Nat × gV)} {st : List gV} (h0 : gfet pc mm.2.2.2.1 = some (.new 102, 3)) (h3 : gfet (pc + 3) mm.2.2.2.1 = some (.dup, 1)) (h4 : gfet (pc + 4) mm.2.2.2.1 = some (.ldc is, 2)) (h6 : gfet (pc + 6) mm.2.2.2.1 = some (.invokespecial 106, 3)) (h9 : gfet (pc + 9) mm.2.2.2.1 = some (.athrow, 1)) (hs : (is, text) ∈ gxs) (hown : mm.2.2.1 = RX7) (hroom : (7 ≤ mm.2.2.2.2.2.frames ∧ gstk st + 95 ≤ mm.2.2.2.2.2.locals) ∧ kc + 1 ≤ mm.2.2.2.2.2.cells ∧ ks + 6 ≤ mm.2.2.2.2.2.slots) (hm : kc + 1 ≤ mc ∧ ks + 6 ≤ ms) (h : thr xX w) : G X mm ad kc ks (w, pc, lv, st) :=
  g_thr (names := xRE) hX hE h0 h3 h4 h6 h9 ⟨by decide, by decide⟩ hown (by decide +kernel) (by decide +kernel) hs (by decide +kernel) (by decide +kernel) ⟨⟨by have := hroom.1.1; show _ + 3 < _; simp [xRE]; omega, by have := hroom.1.2; simp [xRE]; omega⟩, hroom.2⟩ hm h
theorem gth_U {X : gX} {mm : gM} {ad : Nat → Nat} {kc ks mc ms : Nat} {post : Option gV → gW → Prop} {thr : String → gW → Prop} {ret : Option FieldType} (hX : gOk X mm) (hE : gEndT X ad mc ms post thr ret) {w : gW} {pc is : Nat} {text : String} {lv : List (Nat × gV)} {st : List gV} (h0 : gfet pc mm.2.2.2.1 = some (.new 115, 3)) (h3 : gfet (pc + 3) mm.2.2.2.1 = some (.dup, 1)) (h4 : gfet (pc + 4) mm.2.2.2.1 = some (.ldc is, 2)) (h6 : gfet (pc + 6) mm.2.2.2.1 = some (.invokespecial 119, 3)) (h9 : gfet (pc + 9) mm.2.2.2.1 = some (.athrow, 1)) (hs : (is, text) ∈ gxs) (hown : mm.2.2.1 = RX7) (hroom : (7 ≤ mm.2.2.2.2.2.frames ∧ gstk st + 95 ≤ mm.2.2.2.2.2.locals) ∧ kc + 1 ≤ mm.2.2.2.2.2.cells ∧ ks + 6 ≤ mm.2.2.2.2.2.slots) (hm : kc + 1 ≤ mc ∧ ks + 6 ≤ ms) (h : thr xU w) : G X mm ad kc ks (w, pc, lv, st) :=
  g_thr (names := xRE) hX hE h0 h3 h4 h6 h9 ⟨by decide, by decide⟩ hown (by decide +kernel) (by decide +kernel) hs (by decide +kernel) (by decide +kernel) ⟨⟨by have := hroom.1.1; show _ + 3 < _; simp [xRE]; omega, by have := hroom.1.2; simp [xRE]; omega⟩, hroom.2⟩ hm h
abbrev pSu (W : Nat) (H : Nat) (M : Nat) (P : Nat) (c : Int) (wt : Int) (rows : Int → Int) (gro : Int → Int) (wx : Int → Int) (wy : Int → Int) (mk : Int → Int) (dp : Int) (fa : Int) (ne : Int) (sl : Int) (p0 : Int → Int) (p1 : Int → Int) : gW := [(0, gob 8 [gr 1, gr 11, gr 16, gr 21, gr 24, gr 31, gr 36]), (1, gob 5 [gr 2, gi dp, gi W, gi H, gr 3, gr 6, gi fa, gi ne, gi sl]), (3, gar 2 2 ptq), (4, gai 0 P p0), (5, gai 0 P p1), (2, gob 2 [gi c, gi W, gi H, gi M, gr 7, gr 8, gr 9, gr 10, gi wt]), (7, gai 0 (M * 5) rows), (8, gai 0 5 gro), (9, gai 0 P wx), (10, gai 0 P wy), (6, gai 1 P mk)]
abbrev pWr (cn : Int) (wst : Int) (rwx : Int → Int) (lg : Int → Int) (n0 : Int) (v0 : Int → Int) (x0 : Int → Int) (y0 : Int → Int) (o0 : Int → Int) (n1 : Int) (v1 : Int → Int) (x1 : Int → Int) (y1 : Int → Int) (o1 : Int → Int) : gW := [(0, gob 8 [gr 1, gr 11, gr 16, gr 21, gr 24, gr 31, gr 36]), (21, gob 6 [gi cn, gi wst, gr 11, gr 16, gr 22, gr 23]), (22, gai 0 320 rwx), (23, gai 0 1681 lg), (11, gob 7 [gi n0, gr 12, gr 13, gr 14, gr 15]), (12, gai 0 40 v0), (13, gai 0 40 x0), (14, gai 0 40 y0), (15, gai 0 40 o0), (16, gob 7 [gi n1, gr 17, gr 18, gr 19, gr 20]), (17, gai 0 40 v1), (18, gai 0 40 x1), (19, gai 0 40 y1), (20, gai 0 40 o1)]
abbrev pPg (w0 : Int → Int) (w1 : Int → Int) (h0 : Int → Int) (h1 : Int → Int) : gW := [(0, gob 8 [gr 1, gr 11, gr 16, gr 21, gr 24, gr 31, gr 36]), (24, gob 3 [gr 25, gr 28]), (25, gar 2 2 wdq), (26, gai 0 20 w0), (27, gai 0 20 w1), (28, gar 2 2 htq), (29, gai 0 20 h0), (30, gai 0 20 h1)]
abbrev pRu (rc : Int) (fc : Int) (kd : Int → Int) (fl : Int → Int) (lm : Int → Int) (fs : Int → Int) : gW := [(0, gob 8 [gr 1, gr 11, gr 16, gr 21, gr 24, gr 31, gr 36]), (31, gob 4 [gi rc, gi fc, gr 32, gr 33, gr 34, gr 35]), (32, gai 0 12 kd), (33, gai 1 12 fl), (34, gai 0 12 lm), (35, gai 0 36 fs)]
abbrev pAp (ct : Int → Int) (ed : Int → Int) (ppl : Int → Int → Int) : gW := [(0, gob 8 [gr 1, gr 11, gr 16, gr 21, gr 24, gr 31, gr 36]), (36, gob 1 [gr 37, gr 38, gr 39]), (37, gai 0 20 ct), (38, gai 0 20 ed), (39, gar 2 20 ppq), (40, gai 0 6 (ppl 0)), (41, gai 0 6 (ppl 1)), (42, gai 0 6 (ppl 2)), (43, gai 0 6 (ppl 3)), (44, gai 0 6 (ppl 4)), (45, gai 0 6 (ppl 5)), (46, gai 0 6 (ppl 6)), (47, gai 0 6 (ppl 7)), (48, gai 0 6 (ppl 8)), (49, gai 0 6 (ppl 9)), (50, gai 0 6 (ppl 10)), (51, gai 0 6 (ppl 11)), (52, gai 0 6 (ppl 12)), (53, gai 0 6 (ppl 13)), (54, gai 0 6 (ppl 14)), (55, gai 0 6 (ppl 15)), (56, gai 0 6 (ppl 16)), (57, gai 0 6 (ppl 17)), (58, gai 0 6 (ppl 18)), (59, gai 0 6 (ppl 19))]
abbrev pFi (W : Nat) (H : Nat) (M : Nat) (P : Nat) (c : Int) (wt : Int) (rows : Int → Int) (gro : Int → Int) (wx : Int → Int) (wy : Int → Int) (mk : Int → Int) (dp : Int) (fa : Int) (ne : Int) (sl : Int) (p0 : Int → Int) (p1 : Int → Int) (cn : Int) (wst : Int) (rwx : Int → Int) (lg : Int → Int) (n0 : Int) (v0 : Int → Int) (x0 : Int → Int) (y0 : Int → Int) (o0 : Int → Int) (n1 : Int) (v1 : Int → Int) (x1 : Int → Int) (y1 : Int → Int) (o1 : Int → Int) (w0 : Int → Int) (w1 : Int → Int) (h0 : Int → Int) (h1 : Int → Int) : gW := [(0, gob 8 [gr 1, gr 11, gr 16, gr 21, gr 24, gr 31, gr 36]), (1, gob 5 [gr 2, gi dp, gi W, gi H, gr 3, gr 6, gi fa, gi ne, gi sl]), (3, gar 2 2 ptq), (4, gai 0 P p0), (5, gai 0 P p1), (2, gob 2 [gi c, gi W, gi H, gi M, gr 7, gr 8, gr 9, gr 10, gi wt]), (7, gai 0 (M * 5) rows), (8, gai 0 5 gro), (9, gai 0 P wx), (10, gai 0 P wy), (6, gai 1 P mk), (21, gob 6 [gi cn, gi wst, gr 11, gr 16, gr 22, gr 23]), (22, gai 0 320 rwx), (23, gai 0 1681 lg), (11, gob 7 [gi n0, gr 12, gr 13, gr 14, gr 15]), (12, gai 0 40 v0), (13, gai 0 40 x0), (14, gai 0 40 y0), (15, gai 0 40 o0), (16, gob 7 [gi n1, gr 17, gr 18, gr 19, gr 20]), (17, gai 0 40 v1), (18, gai 0 40 x1), (19, gai 0 40 y1), (20, gai 0 40 o1), (24, gob 3 [gr 25, gr 28]), (25, gar 2 2 wdq), (26, gai 0 20 w0), (27, gai 0 20 w1), (28, gar 2 2 htq), (29, gai 0 20 h0), (30, gai 0 20 h1)]
abbrev pCk (W : Nat) (H : Nat) (M : Nat) (P : Nat) (c : Int) (wt : Int) (rows : Int → Int) (gro : Int → Int) (wx : Int → Int) (wy : Int → Int) (mk : Int → Int) (dp : Int) (fa : Int) (ne : Int) (sl : Int) (p0 : Int → Int) (p1 : Int → Int) (cn : Int) (wst : Int) (rwx : Int → Int) (lg : Int → Int) (n0 : Int) (v0 : Int → Int) (x0 : Int → Int) (y0 : Int → Int) (o0 : Int → Int) (n1 : Int) (v1 : Int → Int) (x1 : Int → Int) (y1 : Int → Int) (o1 : Int → Int) (w0 : Int → Int) (w1 : Int → Int) (h0 : Int → Int) (h1 : Int → Int) (rc : Int) (fc : Int) (kd : Int → Int) (fl : Int → Int) (lm : Int → Int) (fs : Int → Int) : gW := [(0, gob 8 [gr 1, gr 11, gr 16, gr 21, gr 24, gr 31, gr 36]), (1, gob 5 [gr 2, gi dp, gi W, gi H, gr 3, gr 6, gi fa, gi ne, gi sl]), (3, gar 2 2 ptq), (4, gai 0 P p0), (5, gai 0 P p1), (2, gob 2 [gi c, gi W, gi H, gi M, gr 7, gr 8, gr 9, gr 10, gi wt]), (7, gai 0 (M * 5) rows), (8, gai 0 5 gro), (9, gai 0 P wx), (10, gai 0 P wy), (6, gai 1 P mk), (21, gob 6 [gi cn, gi wst, gr 11, gr 16, gr 22, gr 23]), (22, gai 0 320 rwx), (23, gai 0 1681 lg), (11, gob 7 [gi n0, gr 12, gr 13, gr 14, gr 15]), (12, gai 0 40 v0), (13, gai 0 40 x0), (14, gai 0 40 y0), (15, gai 0 40 o0), (16, gob 7 [gi n1, gr 17, gr 18, gr 19, gr 20]), (17, gai 0 40 v1), (18, gai 0 40 x1), (19, gai 0 40 y1), (20, gai 0 40 o1), (24, gob 3 [gr 25, gr 28]), (25, gar 2 2 wdq), (26, gai 0 20 w0), (27, gai 0 20 w1), (28, gar 2 2 htq), (29, gai 0 20 h0), (30, gai 0 20 h1), (31, gob 4 [gi rc, gi fc, gr 32, gr 33, gr 34, gr 35]), (32, gai 0 12 kd), (33, gai 1 12 fl), (34, gai 0 12 lm), (35, gai 0 36 fs)]
set_option maxHeartbeats 4000000 in
set_option maxRecDepth 100000 in
theorem c_X7_isSide (l : Launch) (D : va_G) (cA : Nat → ClassId) (s : Int) (hs : inR s) :
    gC l D cA yX7_isSide mX7_isSide (some .boolean) 0 0 [gi s] ([]) (fun r9 w9 => r9 = some (gi (gb (0 ≤ s ∧ s < 2))) ∧ w9 = []) := by
  refine gC_of rfl kX7_isSide rfl rfl (Nat.le_of_ble_eq_true rfl) (fun X ad hX hE => ?_)
  refine G.go hX 1 ([], 1, [(0, gi s)], [gi s]) rfl trivial ?_
  refine g_if_lt hX 13 rfl rfl ⟨by omega, by omega⟩ (fun b1 => ?_) (fun b1 => ?_)
  ·
    refine G.go hX 1 ([], 14, [(0, gi s)], [gi 0]) rfl trivial ?_
    exact g_zret hX hE rfl (Or.inl rfl) ⟨(congrArg (fun z => some (gi z)) (gb_f (by omega)).symm), rfl⟩
  ·
    refine G.go hX 2 ([], 6, [(0, gi s)], [gi 2, gi s]) rfl trivial ?_
    refine g_icmp_ge hX 13 rfl rfl ⟨by omega, by omega⟩ ⟨by omega, by omega⟩ (fun b6 => ?_) (fun b6 => ?_)
    ·
      refine G.go hX 1 ([], 14, [(0, gi s)], [gi 0]) rfl trivial ?_
      exact g_zret hX hE rfl (Or.inl rfl) ⟨(congrArg (fun z => some (gi z)) (gb_f (by omega)).symm), rfl⟩
    ·
      refine G.go hX 2 ([], 14, [(0, gi s)], [gi 1]) rfl trivial ?_
      exact g_zret hX hE rfl (Or.inr rfl) ⟨(congrArg (fun z => some (gi z)) (gb_t (by omega)).symm), rfl⟩
set_option maxHeartbeats 4000000 in
set_option maxRecDepth 100000 in
theorem c_X7_isPage (l : Launch) (D : va_G) (cA : Nat → ClassId) (p : Int) (hp : inR p) :
    gC l D cA yX7_isPage mX7_isPage (some .boolean) 0 0 [gi p] ([]) (fun r9 w9 => r9 = some (gi (gb (0 ≤ p ∧ p < 20))) ∧ w9 = []) := by
  refine gC_of rfl kX7_isPage rfl rfl (Nat.le_of_ble_eq_true rfl) (fun X ad hX hE => ?_)
  refine G.go hX 1 ([], 1, [(0, gi p)], [gi p]) rfl trivial ?_
  refine g_if_lt hX 14 rfl rfl ⟨by omega, by omega⟩ (fun b1 => ?_) (fun b1 => ?_)
  ·
    refine G.go hX 1 ([], 15, [(0, gi p)], [gi 0]) rfl trivial ?_
    exact g_zret hX hE rfl (Or.inl rfl) ⟨(congrArg (fun z => some (gi z)) (gb_f (by omega)).symm), rfl⟩
  ·
    refine G.go hX 2 ([], 7, [(0, gi p)], [gi 20, gi p]) rfl trivial ?_
    refine g_icmp_ge hX 14 rfl rfl ⟨by omega, by omega⟩ ⟨by omega, by omega⟩ (fun b7 => ?_) (fun b7 => ?_)
    ·
      refine G.go hX 1 ([], 15, [(0, gi p)], [gi 0]) rfl trivial ?_
      exact g_zret hX hE rfl (Or.inl rfl) ⟨(congrArg (fun z => some (gi z)) (gb_f (by omega)).symm), rfl⟩
    ·
      refine G.go hX 2 ([], 15, [(0, gi p)], [gi 1]) rfl trivial ?_
      exact g_zret hX hE rfl (Or.inr rfl) ⟨(congrArg (fun z => some (gi z)) (gb_t (by omega)).symm), rfl⟩
set_option maxHeartbeats 4000000 in
set_option maxRecDepth 100000 in
theorem c_X7_point_0 (l : Launch) (D : va_G) (cA : Nat → ClassId) (hst : l.stackTraces = false) (W : Nat) (H : Nat) (M : Nat) (P : Nat) (c : Int) (wt : Int) (rows : Int → Int) (gro : Int → Int) (wx : Int → Int) (wy : Int → Int) (mk : Int → Int) (dp : Int) (fa : Int) (ne : Int) (sl : Int) (p0 : Int → Int) (p1 : Int → Int) (x : Int) (y : Int) (v : Int) (hW : W ≤ 32) (hH : H ≤ 32) (hP : P = W * H) (hPl : P ≤ 1024) (hx : inR x) (hy : inR y) (hv : inR v) :
    gCT l D cA yX7_point mX7_point (some .int) 1 6 [gr 0, gi 0, gi x, gi y, gi v] (pSu W H M P c wt rows gro wx wy mk dp fa ne sl p0 p1) (fun r9 w9 => r9 = some (gi (p0 (y * W + x))) ∧ w9 = pSu W H M P c wt rows gro wx wy mk dp fa ne 1 (gu p0 (y * W + x) ((Int32.ofInt v &&& Int32.ofInt 255).toInt)) p1 ∧ ((0 ≤ x ∧ x < W) ∧ 0 ≤ y ∧ y < H)) (fun E9 w9 => E9 = xA ∧ w9 = pSu W H M P c wt rows gro wx wy mk dp fa ne sl p0 p1 ∧ ¬ ((0 ≤ x ∧ x < W) ∧ 0 ≤ y ∧ y < H)) := by
  refine gCT_of hst rfl kX7_point rfl rfl (Nat.le_of_ble_eq_true rfl) (fun X ad hX hE => ?_)
  refine G.go hX 1 (pSu W H M P c wt rows gro wx wy mk dp fa ne sl p0 p1, 1, [(0, gr 0), (1, gi 0), (2, gi x), (3, gi y), (4, gi v)], [gi 0]) rfl trivial ?_
  refine G.callS (av := [gi 0]) (st := []) hX rfl (fun l D cA => c_X7_isSide l D cA 0 ⟨by omega, by omega⟩) (by decide +kernel) aX7_isSide rfl ⟨rfl, rfl⟩ (by decide) (Nat.le_of_ble_eq_true rfl) [] [0, 1, 2, 3, 4, 5, 6, 7, 8, 9, 10] (pSu W H M P c wt rows gro wx wy mk dp fa ne sl p0 p1) rfl rfl rfl (fun r w' hp => ?_)
  obtain ⟨rfl, rfl⟩ := hp
  show G X mX7_point ad 0 0 (pSu W H M P c wt rows gro wx wy mk dp fa ne sl p0 p1, 4, [(0, gr 0), (1, gi 0), (2, gi x), (3, gi y), (4, gi v)], [gi (gb (0 ≤ 0 ∧ 0 < 2))])
  refine g_if_eq hX 19 rfl rfl (gb_r _) (fun b4 => ?_) (fun b4 => ?_)
  ·
    have b4 := gb_0.mp b4
    exfalso
    omega
  ·
    have b4 := gb_n0 b4
    refine G.go hX 4 (pSu W H M P c wt rows gro wx wy mk dp fa ne sl p0 p1, 13, [(0, gr 0), (1, gi 0), (2, gi x), (3, gi y), (4, gi v)], [gi y, gi x, gr 1]) rfl trivial ?_
    refine G.callV (av := [gi x, gi y]) (o := 1) (st := []) hX rfl (fun l D cA => c_X4_holds l D cA W H M P c wt rows gro wx wy mk dp fa ne sl p0 p1 x y (by first | assumption | omega) (by first | assumption | omega) (by first | assumption | omega) (by first | assumption | omega)) (by decide +kernel) aX4_holds rfl rfl rfl ⟨rfl, rfl⟩ (by decide) (Nat.le_of_ble_eq_true rfl) [1, 2, 3, 4, 5, 6, 7, 8, 9, 10] [0] [(0, gob 8 [gr 1, gr 11, gr 16, gr 21, gr 24, gr 31, gr 36])] rfl rfl rfl (fun r w' hp => ?_)
    obtain ⟨rfl, rfl⟩ := hp
    refine G.perm (pSu W H M P c wt rows gro wx wy mk dp fa ne sl p0 p1) [0, 1, 2, 3, 4, 5, 6, 7, 8, 9, 10] rfl rfl ?_
    show G X mX7_point ad 0 0 (pSu W H M P c wt rows gro wx wy mk dp fa ne sl p0 p1, 16, [(0, gr 0), (1, gi 0), (2, gi x), (3, gi y), (4, gi v)], [gi (gb ((0 ≤ x ∧ x < W) ∧ 0 ≤ y ∧ y < H))])
    refine g_if_ne hX 29 rfl rfl (gb_r _) (fun b16 => ?_) (fun b16 => ?_)
    ·
      have b16 := gb_n0 b16
      refine G.go hX 8 (pSu W H M P c wt rows gro wx wy mk dp fa ne sl p0 p1, 42, [(0, gr 0), (1, gi 0), (2, gi x), (3, gi y), (4, gi v)], [gi ((Int32.ofInt v &&& Int32.ofInt 255).toInt), gi y, gi x, gi 0, gr 1]) rfl trivial ?_
      refine G.callV (av := [gi 0, gi x, gi y, gi ((Int32.ofInt v &&& Int32.ofInt 255).toInt)]) (o := 1) (st := []) hX rfl (fun l D cA => c_X4_put_0 l D cA W H M P c wt rows gro wx wy mk dp fa ne sl p0 p1 x y ((Int32.ofInt v &&& Int32.ofInt 255).toInt) (by first | assumption | omega) (by first | assumption | omega) (by first | assumption | omega) (by first | assumption | omega) b16.1 b16.2) (by decide +kernel) aX4_put rfl rfl rfl ⟨rfl, rfl⟩ (by decide) (Nat.le_of_ble_eq_true rfl) [1, 2, 3, 4, 5, 6, 7, 8, 9, 10] [0] [(0, gob 8 [gr 1, gr 11, gr 16, gr 21, gr 24, gr 31, gr 36])] rfl rfl rfl (fun r w' hp => ?_)
      obtain ⟨rfl, rfl⟩ := hp
      refine G.perm (pSu W H M P c wt rows gro wx wy mk dp fa ne 1 (gu p0 (y * W + x) ((Int32.ofInt v &&& Int32.ofInt 255).toInt)) p1) [0, 1, 2, 3, 4, 5, 6, 7, 8, 9, 10] rfl rfl ?_
      show G X mX7_point ad 0 0 (pSu W H M P c wt rows gro wx wy mk dp fa ne 1 (gu p0 (y * W + x) ((Int32.ofInt v &&& Int32.ofInt 255).toInt)) p1, 45, [(0, gr 0), (1, gi 0), (2, gi x), (3, gi y), (4, gi v)], [gi (p0 (y * W + x))])
      refine G.widen (kc' := 1) (ks' := 6) (Nat.le_of_ble_eq_true rfl) (Nat.le_of_ble_eq_true rfl) ?_
      exact g_toR hX hE (fun X hX hE => g_iret hX hE rfl ⟨rfl, rfl, (by exact b16)⟩)
    ·
      have b16 := gb_nn b16
      exact gth_A hX hE rfl rfl rfl rfl rfl (List.mem_of_getElem? (i := 0) rfl) rfl ⟨⟨Nat.le_of_ble_eq_true rfl, Nat.le_of_ble_eq_true rfl⟩, Nat.le_of_ble_eq_true rfl, Nat.le_of_ble_eq_true rfl⟩ ⟨Nat.le_of_ble_eq_true rfl, Nat.le_of_ble_eq_true rfl⟩ ⟨rfl, rfl, b16⟩
set_option maxHeartbeats 4000000 in
set_option maxRecDepth 100000 in
theorem c_X7_point_1 (l : Launch) (D : va_G) (cA : Nat → ClassId) (hst : l.stackTraces = false) (W : Nat) (H : Nat) (M : Nat) (P : Nat) (c : Int) (wt : Int) (rows : Int → Int) (gro : Int → Int) (wx : Int → Int) (wy : Int → Int) (mk : Int → Int) (dp : Int) (fa : Int) (ne : Int) (sl : Int) (p0 : Int → Int) (p1 : Int → Int) (x : Int) (y : Int) (v : Int) (hW : W ≤ 32) (hH : H ≤ 32) (hP : P = W * H) (hPl : P ≤ 1024) (hx : inR x) (hy : inR y) (hv : inR v) :
    gCT l D cA yX7_point mX7_point (some .int) 1 6 [gr 0, gi 1, gi x, gi y, gi v] (pSu W H M P c wt rows gro wx wy mk dp fa ne sl p0 p1) (fun r9 w9 => r9 = some (gi (p1 (y * W + x))) ∧ w9 = pSu W H M P c wt rows gro wx wy mk dp fa ne 1 p0 (gu p1 (y * W + x) ((Int32.ofInt v &&& Int32.ofInt 255).toInt)) ∧ ((0 ≤ x ∧ x < W) ∧ 0 ≤ y ∧ y < H)) (fun E9 w9 => E9 = xA ∧ w9 = pSu W H M P c wt rows gro wx wy mk dp fa ne sl p0 p1 ∧ ¬ ((0 ≤ x ∧ x < W) ∧ 0 ≤ y ∧ y < H)) := by
  refine gCT_of hst rfl kX7_point rfl rfl (Nat.le_of_ble_eq_true rfl) (fun X ad hX hE => ?_)
  refine G.go hX 1 (pSu W H M P c wt rows gro wx wy mk dp fa ne sl p0 p1, 1, [(0, gr 0), (1, gi 1), (2, gi x), (3, gi y), (4, gi v)], [gi 1]) rfl trivial ?_
  refine G.callS (av := [gi 1]) (st := []) hX rfl (fun l D cA => c_X7_isSide l D cA 1 ⟨by omega, by omega⟩) (by decide +kernel) aX7_isSide rfl ⟨rfl, rfl⟩ (by decide) (Nat.le_of_ble_eq_true rfl) [] [0, 1, 2, 3, 4, 5, 6, 7, 8, 9, 10] (pSu W H M P c wt rows gro wx wy mk dp fa ne sl p0 p1) rfl rfl rfl (fun r w' hp => ?_)
  obtain ⟨rfl, rfl⟩ := hp
  show G X mX7_point ad 0 0 (pSu W H M P c wt rows gro wx wy mk dp fa ne sl p0 p1, 4, [(0, gr 0), (1, gi 1), (2, gi x), (3, gi y), (4, gi v)], [gi (gb (0 ≤ 1 ∧ 1 < 2))])
  refine g_if_eq hX 19 rfl rfl (gb_r _) (fun b4 => ?_) (fun b4 => ?_)
  ·
    have b4 := gb_0.mp b4
    exfalso
    omega
  ·
    have b4 := gb_n0 b4
    refine G.go hX 4 (pSu W H M P c wt rows gro wx wy mk dp fa ne sl p0 p1, 13, [(0, gr 0), (1, gi 1), (2, gi x), (3, gi y), (4, gi v)], [gi y, gi x, gr 1]) rfl trivial ?_
    refine G.callV (av := [gi x, gi y]) (o := 1) (st := []) hX rfl (fun l D cA => c_X4_holds l D cA W H M P c wt rows gro wx wy mk dp fa ne sl p0 p1 x y (by first | assumption | omega) (by first | assumption | omega) (by first | assumption | omega) (by first | assumption | omega)) (by decide +kernel) aX4_holds rfl rfl rfl ⟨rfl, rfl⟩ (by decide) (Nat.le_of_ble_eq_true rfl) [1, 2, 3, 4, 5, 6, 7, 8, 9, 10] [0] [(0, gob 8 [gr 1, gr 11, gr 16, gr 21, gr 24, gr 31, gr 36])] rfl rfl rfl (fun r w' hp => ?_)
    obtain ⟨rfl, rfl⟩ := hp
    refine G.perm (pSu W H M P c wt rows gro wx wy mk dp fa ne sl p0 p1) [0, 1, 2, 3, 4, 5, 6, 7, 8, 9, 10] rfl rfl ?_
    show G X mX7_point ad 0 0 (pSu W H M P c wt rows gro wx wy mk dp fa ne sl p0 p1, 16, [(0, gr 0), (1, gi 1), (2, gi x), (3, gi y), (4, gi v)], [gi (gb ((0 ≤ x ∧ x < W) ∧ 0 ≤ y ∧ y < H))])
    refine g_if_ne hX 29 rfl rfl (gb_r _) (fun b16 => ?_) (fun b16 => ?_)
    ·
      have b16 := gb_n0 b16
      refine G.go hX 8 (pSu W H M P c wt rows gro wx wy mk dp fa ne sl p0 p1, 42, [(0, gr 0), (1, gi 1), (2, gi x), (3, gi y), (4, gi v)], [gi ((Int32.ofInt v &&& Int32.ofInt 255).toInt), gi y, gi x, gi 1, gr 1]) rfl trivial ?_
      refine G.callV (av := [gi 1, gi x, gi y, gi ((Int32.ofInt v &&& Int32.ofInt 255).toInt)]) (o := 1) (st := []) hX rfl (fun l D cA => c_X4_put_1 l D cA W H M P c wt rows gro wx wy mk dp fa ne sl p0 p1 x y ((Int32.ofInt v &&& Int32.ofInt 255).toInt) (by first | assumption | omega) (by first | assumption | omega) (by first | assumption | omega) (by first | assumption | omega) b16.1 b16.2) (by decide +kernel) aX4_put rfl rfl rfl ⟨rfl, rfl⟩ (by decide) (Nat.le_of_ble_eq_true rfl) [1, 2, 3, 4, 5, 6, 7, 8, 9, 10] [0] [(0, gob 8 [gr 1, gr 11, gr 16, gr 21, gr 24, gr 31, gr 36])] rfl rfl rfl (fun r w' hp => ?_)
      obtain ⟨rfl, rfl⟩ := hp
      refine G.perm (pSu W H M P c wt rows gro wx wy mk dp fa ne 1 p0 (gu p1 (y * W + x) ((Int32.ofInt v &&& Int32.ofInt 255).toInt))) [0, 1, 2, 3, 4, 5, 6, 7, 8, 9, 10] rfl rfl ?_
      show G X mX7_point ad 0 0 (pSu W H M P c wt rows gro wx wy mk dp fa ne 1 p0 (gu p1 (y * W + x) ((Int32.ofInt v &&& Int32.ofInt 255).toInt)), 45, [(0, gr 0), (1, gi 1), (2, gi x), (3, gi y), (4, gi v)], [gi (p1 (y * W + x))])
      refine G.widen (kc' := 1) (ks' := 6) (Nat.le_of_ble_eq_true rfl) (Nat.le_of_ble_eq_true rfl) ?_
      exact g_toR hX hE (fun X hX hE => g_iret hX hE rfl ⟨rfl, rfl, (by exact b16)⟩)
    ·
      have b16 := gb_nn b16
      exact gth_A hX hE rfl rfl rfl rfl rfl (List.mem_of_getElem? (i := 0) rfl) rfl ⟨⟨Nat.le_of_ble_eq_true rfl, Nat.le_of_ble_eq_true rfl⟩, Nat.le_of_ble_eq_true rfl, Nat.le_of_ble_eq_true rfl⟩ ⟨Nat.le_of_ble_eq_true rfl, Nat.le_of_ble_eq_true rfl⟩ ⟨rfl, rfl, b16⟩
set_option maxHeartbeats 4000000 in
set_option maxRecDepth 100000 in
theorem c_X7_point_n (l : Launch) (D : va_G) (cA : Nat → ClassId) (hst : l.stackTraces = false) (W : Nat) (H : Nat) (M : Nat) (P : Nat) (c : Int) (wt : Int) (rows : Int → Int) (gro : Int → Int) (wx : Int → Int) (wy : Int → Int) (mk : Int → Int) (dp : Int) (fa : Int) (ne : Int) (sl : Int) (p0 : Int → Int) (p1 : Int → Int) (s : Int) (x : Int) (y : Int) (v : Int) (hW : W ≤ 32) (hH : H ≤ 32) (hP : P = W * H) (hPl : P ≤ 1024) (hx : inR x) (hy : inR y) (hv : inR v) (hs : inR s) (hn : ¬ (0 ≤ s ∧ s < 2)) :
    gCT l D cA yX7_point mX7_point (some .int) 1 6 [gr 0, gi s, gi x, gi y, gi v] (pSu W H M P c wt rows gro wx wy mk dp fa ne sl p0 p1) (fun r9 w9 => r9 = some (gi 0) ∧ w9 = pSu W H M P c wt rows gro wx wy mk dp fa ne sl p0 p1 ∧ False) (fun E9 w9 => E9 = xA ∧ w9 = pSu W H M P c wt rows gro wx wy mk dp fa ne sl p0 p1) := by
  refine gCT_of hst rfl kX7_point rfl rfl (Nat.le_of_ble_eq_true rfl) (fun X ad hX hE => ?_)
  refine G.go hX 1 (pSu W H M P c wt rows gro wx wy mk dp fa ne sl p0 p1, 1, [(0, gr 0), (1, gi s), (2, gi x), (3, gi y), (4, gi v)], [gi s]) rfl trivial ?_
  refine G.callS (av := [gi s]) (st := []) hX rfl (fun l D cA => c_X7_isSide l D cA s (by first | assumption | omega)) (by decide +kernel) aX7_isSide rfl ⟨rfl, rfl⟩ (by decide) (Nat.le_of_ble_eq_true rfl) [] [0, 1, 2, 3, 4, 5, 6, 7, 8, 9, 10] (pSu W H M P c wt rows gro wx wy mk dp fa ne sl p0 p1) rfl rfl rfl (fun r w' hp => ?_)
  obtain ⟨rfl, rfl⟩ := hp
  show G X mX7_point ad 0 0 (pSu W H M P c wt rows gro wx wy mk dp fa ne sl p0 p1, 4, [(0, gr 0), (1, gi s), (2, gi x), (3, gi y), (4, gi v)], [gi (gb (0 ≤ s ∧ s < 2))])
  refine g_if_eq hX 19 rfl rfl (gb_r _) (fun b4 => ?_) (fun b4 => ?_)
  ·
    have b4 := gb_0.mp b4
    exact gth_A hX hE rfl rfl rfl rfl rfl (List.mem_of_getElem? (i := 0) rfl) rfl ⟨⟨Nat.le_of_ble_eq_true rfl, Nat.le_of_ble_eq_true rfl⟩, Nat.le_of_ble_eq_true rfl, Nat.le_of_ble_eq_true rfl⟩ ⟨Nat.le_of_ble_eq_true rfl, Nat.le_of_ble_eq_true rfl⟩ ⟨rfl, rfl⟩
  ·
    have b4 := gb_n0 b4
    exfalso
    exact hn b4
set_option maxHeartbeats 4000000 in
set_option maxRecDepth 100000 in
theorem c_X7_bound (l : Launch) (D : va_G) (cA : Nat → ClassId) (hst : l.stackTraces = false) (W : Nat) (H : Nat) (M : Nat) (P : Nat) (c : Int) (wt : Int) (rows : Int → Int) (gro : Int → Int) (wx : Int → Int) (wy : Int → Int) (mk : Int → Int) (dp : Int) (fa : Int) (ne : Int) (sl : Int) (p0 : Int → Int) (p1 : Int → Int) (a : Int) (b : Int) (ha : inR a) (hb : inR b) :
    gCT l D cA yX7_bound mX7_bound (some .int) 1 6 [gr 0, gi a, gi b] (pSu W H M P c wt rows gro wx wy mk dp fa ne sl p0 p1) (fun r9 w9 => r9 = some (gi (10 * fa + ne)) ∧ w9 = pSu W H M P c wt rows gro wx wy mk dp a b 1 p0 p1 ∧ ((0 ≤ a ∧ a ≤ 255) ∧ 0 ≤ b ∧ b ≤ 2)) (fun E9 w9 => E9 = xI ∧ w9 = pSu W H M P c wt rows gro wx wy mk dp fa ne sl p0 p1 ∧ ¬ ((0 ≤ a ∧ a ≤ 255) ∧ 0 ≤ b ∧ b ≤ 2)) := by
  refine gCT_of hst rfl kX7_bound rfl rfl (Nat.le_of_ble_eq_true rfl) (fun X ad hX hE => ?_)
  refine G.go hX 1 (pSu W H M P c wt rows gro wx wy mk dp fa ne sl p0 p1, 1, [(0, gr 0), (1, gi a), (2, gi b)], [gi a]) rfl trivial ?_
  refine g_if_lt hX 20 rfl rfl ⟨by omega, by omega⟩ (fun b1 => ?_) (fun b1 => ?_)
  ·
    exact gth_I hX hE rfl rfl rfl rfl rfl (List.mem_of_getElem? (i := 1) rfl) rfl ⟨⟨Nat.le_of_ble_eq_true rfl, Nat.le_of_ble_eq_true rfl⟩, Nat.le_of_ble_eq_true rfl, Nat.le_of_ble_eq_true rfl⟩ ⟨Nat.le_of_ble_eq_true rfl, Nat.le_of_ble_eq_true rfl⟩ ⟨rfl, rfl, by omega⟩
  ·
    refine G.go hX 2 (pSu W H M P c wt rows gro wx wy mk dp fa ne sl p0 p1, 8, [(0, gr 0), (1, gi a), (2, gi b)], [gi 255, gi a]) rfl trivial ?_
    refine g_icmp_gt hX 20 rfl rfl ⟨by omega, by omega⟩ ⟨by omega, by omega⟩ (fun b8 => ?_) (fun b8 => ?_)
    ·
      exact gth_I hX hE rfl rfl rfl rfl rfl (List.mem_of_getElem? (i := 1) rfl) rfl ⟨⟨Nat.le_of_ble_eq_true rfl, Nat.le_of_ble_eq_true rfl⟩, Nat.le_of_ble_eq_true rfl, Nat.le_of_ble_eq_true rfl⟩ ⟨Nat.le_of_ble_eq_true rfl, Nat.le_of_ble_eq_true rfl⟩ ⟨rfl, rfl, by omega⟩
    ·
      refine G.go hX 1 (pSu W H M P c wt rows gro wx wy mk dp fa ne sl p0 p1, 12, [(0, gr 0), (1, gi a), (2, gi b)], [gi b]) rfl trivial ?_
      refine g_if_lt hX 20 rfl rfl ⟨by omega, by omega⟩ (fun b12 => ?_) (fun b12 => ?_)
      ·
        exact gth_I hX hE rfl rfl rfl rfl rfl (List.mem_of_getElem? (i := 1) rfl) rfl ⟨⟨Nat.le_of_ble_eq_true rfl, Nat.le_of_ble_eq_true rfl⟩, Nat.le_of_ble_eq_true rfl, Nat.le_of_ble_eq_true rfl⟩ ⟨Nat.le_of_ble_eq_true rfl, Nat.le_of_ble_eq_true rfl⟩ ⟨rfl, rfl, by omega⟩
      ·
        refine G.go hX 2 (pSu W H M P c wt rows gro wx wy mk dp fa ne sl p0 p1, 17, [(0, gr 0), (1, gi a), (2, gi b)], [gi 2, gi b]) rfl trivial ?_
        refine g_icmp_le hX 30 rfl rfl ⟨by omega, by omega⟩ ⟨by omega, by omega⟩ (fun b17 => ?_) (fun b17 => ?_)
        ·
          refine G.go hX 4 (pSu W H M P c wt rows gro wx wy mk dp fa ne sl p0 p1, 36, [(0, gr 0), (1, gi a), (2, gi b)], [gi b, gi a, gr 1]) rfl trivial ?_
          refine G.callV (av := [gi a, gi b]) (o := 1) (st := []) hX rfl (fun l D cA => c_X4_limit l D cA W H M P c wt rows gro wx wy mk dp fa ne sl p0 p1 a b ) (by decide +kernel) aX4_limit rfl rfl rfl ⟨rfl, rfl⟩ (by decide) (Nat.le_of_ble_eq_true rfl) [1, 2, 3, 4, 5, 6, 7, 8, 9, 10] [0] [(0, gob 8 [gr 1, gr 11, gr 16, gr 21, gr 24, gr 31, gr 36])] rfl rfl rfl (fun r w' hp => ?_)
          obtain ⟨rfl, rfl⟩ := hp
          refine G.perm (pSu W H M P c wt rows gro wx wy mk dp a b 1 p0 p1) [0, 1, 2, 3, 4, 5, 6, 7, 8, 9, 10] rfl rfl ?_
          show G X mX7_bound ad 0 0 (pSu W H M P c wt rows gro wx wy mk dp a b 1 p0 p1, 39, [(0, gr 0), (1, gi a), (2, gi b)], [gi (10 * fa + ne)])
          refine G.widen (kc' := 1) (ks' := 6) (Nat.le_of_ble_eq_true rfl) (Nat.le_of_ble_eq_true rfl) ?_
          exact g_toR hX hE (fun X hX hE => g_iret hX hE rfl ⟨rfl, rfl, (by omega)⟩)
        ·
          exact gth_I hX hE rfl rfl rfl rfl rfl (List.mem_of_getElem? (i := 1) rfl) rfl ⟨⟨Nat.le_of_ble_eq_true rfl, Nat.le_of_ble_eq_true rfl⟩, Nat.le_of_ble_eq_true rfl, Nat.le_of_ble_eq_true rfl⟩ ⟨Nat.le_of_ble_eq_true rfl, Nat.le_of_ble_eq_true rfl⟩ ⟨rfl, rfl, by omega⟩
set_option maxHeartbeats 4000000 in
set_option maxRecDepth 100000 in
theorem c_X7_differing (l : Launch) (D : va_G) (cA : Nat → ClassId) (W : Nat) (H : Nat) (M : Nat) (P : Nat) (c : Int) (wt : Int) (rows : Int → Int) (gro : Int → Int) (wx : Int → Int) (wy : Int → Int) (mk : Int → Int) (dp : Int) (fa : Int) (ne : Int) (sl : Int) (p0 : Int → Int) (p1 : Int → Int) (hW : W ≤ 32) (hH : H ≤ 32) (hP : P = W * H) (hPl : P ≤ 1024) (hM : M = ((W + 1) / 2) * ((H + 1) / 2)) (hMl : M ≤ 256) (hfa : 0 ≤ fa ∧ fa ≤ 255) (hne : 0 ≤ ne ∧ ne ≤ 2) (hp0 : ∀ q, 0 ≤ p0 q ∧ p0 q ≤ 255) (hp1 : ∀ q, 0 ≤ p1 q ∧ p1 q ≤ 255) (hsl : sl = 0 ∨ sl = 1) (hrr : ∀ j : Int, inR (rows j)) (hgr : ∀ j : Int, inR (gro j)) (hmo : ∀ q : Int, ¬ (0 ≤ q ∧ q < P) → mk q = 0) (hval : sl = 0 → gVal W H P M ne fa p0 p1 dp c rows) :
    gC l D cA yX7_differing mX7_differing (some .long) 0 0 [gr 0] (pSu W H M P c wt rows gro wx wy mk dp fa ne sl p0 p1) (fun r9 w9 => ∃ (c2 : Int) (wt2 : Int) (rows2 : Int → Int) (gro2 : Int → Int) (wx2 : Int → Int) (wy2 : Int → Int) (mk2 : Int → Int) (dp2 : Int), r9 = some (gl dp2) ∧ w9 = pSu W H M P c2 wt2 rows2 gro2 wx2 wy2 mk2 dp2 fa ne 0 p0 p1 ∧ (gVal W H P M ne fa p0 p1 dp2 c2 rows2) ∧ (∀ j : Int, inR (rows2 j)) ∧ (∀ j : Int, inR (gro2 j)) ∧ (∀ q : Int, ¬ (0 ≤ q ∧ q < P) → mk2 q = 0)) := by
  refine gC_of rfl kX7_differing rfl rfl (Nat.le_of_ble_eq_true rfl) (fun X ad hX hE => ?_)
  refine G.go hX 2 (pSu W H M P c wt rows gro wx wy mk dp fa ne sl p0 p1, 4, [(0, gr 0)], [gr 1]) rfl trivial ?_
  refine G.callV (av := []) (o := 1) (st := []) hX rfl (fun l D cA => c_X4_refresh l D cA W H M P c wt rows gro wx wy mk dp fa ne sl p0 p1 (by first | assumption | omega) (by first | assumption | omega) (by first | assumption | omega) (by first | assumption | omega) (by first | assumption | omega) (by first | assumption | omega) (by first | assumption | omega) (by first | assumption | omega) (by first | assumption | omega) (by first | assumption | omega) (by first | assumption | omega) (by first | assumption | omega) (by first | assumption | omega) (by first | assumption | omega) (by first | assumption | omega)) (by decide +kernel) aX4_refresh rfl rfl rfl ⟨rfl, rfl⟩ (by decide) (Nat.le_of_ble_eq_true rfl) [1, 2, 3, 4, 5, 6, 7, 8, 9, 10] [0] [(0, gob 8 [gr 1, gr 11, gr 16, gr 21, gr 24, gr 31, gr 36])] rfl rfl rfl (fun r w' hp => ?_)
  obtain ⟨c5, wt5, rows5, gro5, wx5, wy5, mk5, dp5, rfl, rfl, hv5, hrr5, hgr5, hmo5⟩ := hp
  refine G.perm (pSu W H M P c5 wt5 rows5 gro5 wx5 wy5 mk5 dp5 fa ne 0 p0 p1) [0, 1, 2, 3, 4, 5, 6, 7, 8, 9, 10] rfl rfl ?_
  show G X mX7_differing ad 0 0 (pSu W H M P c5 wt5 rows5 gro5 wx5 wy5 mk5 dp5 fa ne 0 p0 p1, 7, [(0, gr 0)], [])
  refine G.go hX 3 (pSu W H M P c5 wt5 rows5 gro5 wx5 wy5 mk5 dp5 fa ne 0 p0 p1, 14, [(0, gr 0)], [gi dp5]) rfl trivial ?_
  have hd5 := hv5.1
  have hml := gsm_gb (fun q => (0 ≤ q ∧ q < P) ∧ gun W H ne fa p0 p1 (q % W) (q / W)) P
  unfold gmk at hd5
  refine g_i2l hX rfl ⟨by omega, by omega⟩ ?_
  exact g_lret hX hE rfl ⟨c5, wt5, rows5, gro5, wx5, wy5, mk5, dp5, rfl, rfl, hv5, hrr5, hgr5, hmo5⟩
set_option maxHeartbeats 4000000 in
set_option maxRecDepth 100000 in
theorem c_X7_box (l : Launch) (D : va_G) (cA : Nat → ClassId) (hst : l.stackTraces = false) (W : Nat) (H : Nat) (M : Nat) (P : Nat) (c : Int) (wt : Int) (rows : Int → Int) (gro : Int → Int) (wx : Int → Int) (wy : Int → Int) (mk : Int → Int) (dp : Int) (fa : Int) (ne : Int) (sl : Int) (p0 : Int → Int) (p1 : Int → Int) (i : Int) (k : Int) (hW : W ≤ 32) (hH : H ≤ 32) (hP : P = W * H) (hPl : P ≤ 1024) (hM : M = ((W + 1) / 2) * ((H + 1) / 2)) (hMl : M ≤ 256) (hfa : 0 ≤ fa ∧ fa ≤ 255) (hne : 0 ≤ ne ∧ ne ≤ 2) (hp0 : ∀ q, 0 ≤ p0 q ∧ p0 q ≤ 255) (hp1 : ∀ q, 0 ≤ p1 q ∧ p1 q ≤ 255) (hsl : sl = 0 ∨ sl = 1) (hrr : ∀ j : Int, inR (rows j)) (hgr : ∀ j : Int, inR (gro j)) (hmo : ∀ q : Int, ¬ (0 ≤ q ∧ q < P) → mk q = 0) (hval : sl = 0 → gVal W H P M ne fa p0 p1 dp c rows) (hi : inR i) (hk : inR k) :
    gCT l D cA yX7_box mX7_box (some .int) 1 6 [gr 0, gi i, gi k] (pSu W H M P c wt rows gro wx wy mk dp fa ne sl p0 p1) (fun r9 w9 => ∃ (c2 : Int) (wt2 : Int) (rows2 : Int → Int) (gro2 : Int → Int) (wx2 : Int → Int) (wy2 : Int → Int) (mk2 : Int → Int) (dp2 : Int) (rr : Int), r9 = some (gi rr) ∧ w9 = pSu W H M P c2 wt2 rows2 gro2 wx2 wy2 mk2 dp2 fa ne 0 p0 p1 ∧ (gVal W H P M ne fa p0 p1 dp2 c2 rows2) ∧ (∀ j : Int, inR (rows2 j)) ∧ (∀ j : Int, inR (gro2 j)) ∧ (∀ q : Int, ¬ (0 ≤ q ∧ q < P) → mk2 q = 0) ∧ (i = -1 → rr = c2) ∧ (i ≠ -1 → ((0 ≤ i ∧ i < c2) ∧ 0 ≤ k ∧ k < 5) ∧ rr = rows2 (i * 5 + k))) (fun E9 w9 => ∃ (c2 : Int) (wt2 : Int) (rows2 : Int → Int) (gro2 : Int → Int) (wx2 : Int → Int) (wy2 : Int → Int) (mk2 : Int → Int) (dp2 : Int), E9 = xX ∧ w9 = pSu W H M P c2 wt2 rows2 gro2 wx2 wy2 mk2 dp2 fa ne 0 p0 p1 ∧ (gVal W H P M ne fa p0 p1 dp2 c2 rows2) ∧ (∀ j : Int, inR (rows2 j)) ∧ (∀ j : Int, inR (gro2 j)) ∧ (∀ q : Int, ¬ (0 ≤ q ∧ q < P) → mk2 q = 0) ∧ i ≠ -1 ∧ ¬ ((0 ≤ i ∧ i < c2) ∧ 0 ≤ k ∧ k < 5)) := by
  refine gCT_of hst rfl kX7_box rfl rfl (Nat.le_of_ble_eq_true rfl) (fun X ad hX hE => ?_)
  refine G.go hX 2 (pSu W H M P c wt rows gro wx wy mk dp fa ne sl p0 p1, 4, [(0, gr 0), (1, gi i), (2, gi k)], [gr 1]) rfl trivial ?_
  refine G.callV (av := []) (o := 1) (st := []) hX rfl (fun l D cA => c_X4_refresh l D cA W H M P c wt rows gro wx wy mk dp fa ne sl p0 p1 (by first | assumption | omega) (by first | assumption | omega) (by first | assumption | omega) (by first | assumption | omega) (by first | assumption | omega) (by first | assumption | omega) (by first | assumption | omega) (by first | assumption | omega) (by first | assumption | omega) (by first | assumption | omega) (by first | assumption | omega) (by first | assumption | omega) (by first | assumption | omega) (by first | assumption | omega) (by first | assumption | omega)) (by decide +kernel) aX4_refresh rfl rfl rfl ⟨rfl, rfl⟩ (by decide) (Nat.le_of_ble_eq_true rfl) [1, 2, 3, 4, 5, 6, 7, 8, 9, 10] [0] [(0, gob 8 [gr 1, gr 11, gr 16, gr 21, gr 24, gr 31, gr 36])] rfl rfl rfl (fun r w' hp => ?_)
  obtain ⟨c5, wt5, rows5, gro5, wx5, wy5, mk5, dp5, rfl, rfl, hv5, hrr5, hgr5, hmo5⟩ := hp
  refine G.perm (pSu W H M P c5 wt5 rows5 gro5 wx5 wy5 mk5 dp5 fa ne 0 p0 p1) [0, 1, 2, 3, 4, 5, 6, 7, 8, 9, 10] rfl rfl ?_
  show G X mX7_box ad 0 0 (pSu W H M P c5 wt5 rows5 gro5 wx5 wy5 mk5 dp5 fa ne 0 p0 p1, 7, [(0, gr 0), (1, gi i), (2, gi k)], [])
  have hc5 := hv5.2.2.2
  have hc6 := hv5.2.1.1
  refine G.go hX 6 (pSu W H M P c5 wt5 rows5 gro5 wx5 wy5 mk5 dp5 fa ne 0 p0 p1, 17, [(0, gr 0), (1, gi i), (2, gi k), (3, gr 2)], [gi (-1), gi i]) rfl trivial ?_
  refine g_icmp_ne hX 25 rfl rfl ⟨by omega, by omega⟩ ⟨by omega, by omega⟩ (fun b17 => ?_) (fun b17 => ?_)
  ·
    refine G.go hX 1 (pSu W H M P c5 wt5 rows5 gro5 wx5 wy5 mk5 dp5 fa ne 0 p0 p1, 26, [(0, gr 0), (1, gi i), (2, gi k), (3, gr 2)], [gi i]) rfl trivial ?_
    refine g_if_lt hX 46 rfl rfl ⟨by omega, by omega⟩ (fun b26 => ?_) (fun b26 => ?_)
    ·
      exact gth_X hX hE rfl rfl rfl rfl rfl (List.mem_of_getElem? (i := 2) rfl) rfl ⟨⟨Nat.le_of_ble_eq_true rfl, Nat.le_of_ble_eq_true rfl⟩, Nat.le_of_ble_eq_true rfl, Nat.le_of_ble_eq_true rfl⟩ ⟨Nat.le_of_ble_eq_true rfl, Nat.le_of_ble_eq_true rfl⟩ ⟨c5, wt5, rows5, gro5, wx5, wy5, mk5, dp5, rfl, rfl, hv5, hrr5, hgr5, hmo5, b17, by omega⟩
    ·
      refine G.go hX 3 (pSu W H M P c5 wt5 rows5 gro5 wx5 wy5 mk5 dp5 fa ne 0 p0 p1, 34, [(0, gr 0), (1, gi i), (2, gi k), (3, gr 2)], [gi c5, gi i]) rfl trivial ?_
      refine g_icmp_ge hX 46 rfl rfl (by first | assumption | exact ⟨by omega, by omega⟩) (by first | assumption | exact ⟨by omega, by omega⟩) (fun b34 => ?_) (fun b34 => ?_)
      ·
        exact gth_X hX hE rfl rfl rfl rfl rfl (List.mem_of_getElem? (i := 2) rfl) rfl ⟨⟨Nat.le_of_ble_eq_true rfl, Nat.le_of_ble_eq_true rfl⟩, Nat.le_of_ble_eq_true rfl, Nat.le_of_ble_eq_true rfl⟩ ⟨Nat.le_of_ble_eq_true rfl, Nat.le_of_ble_eq_true rfl⟩ ⟨c5, wt5, rows5, gro5, wx5, wy5, mk5, dp5, rfl, rfl, hv5, hrr5, hgr5, hmo5, b17, by omega⟩
      ·
        refine G.go hX 1 (pSu W H M P c5 wt5 rows5 gro5 wx5 wy5 mk5 dp5 fa ne 0 p0 p1, 38, [(0, gr 0), (1, gi i), (2, gi k), (3, gr 2)], [gi k]) rfl trivial ?_
        refine g_if_lt hX 46 rfl rfl ⟨by omega, by omega⟩ (fun b38 => ?_) (fun b38 => ?_)
        ·
          exact gth_X hX hE rfl rfl rfl rfl rfl (List.mem_of_getElem? (i := 2) rfl) rfl ⟨⟨Nat.le_of_ble_eq_true rfl, Nat.le_of_ble_eq_true rfl⟩, Nat.le_of_ble_eq_true rfl, Nat.le_of_ble_eq_true rfl⟩ ⟨Nat.le_of_ble_eq_true rfl, Nat.le_of_ble_eq_true rfl⟩ ⟨c5, wt5, rows5, gro5, wx5, wy5, mk5, dp5, rfl, rfl, hv5, hrr5, hgr5, hmo5, b17, by omega⟩
        ·
          refine G.go hX 2 (pSu W H M P c5 wt5 rows5 gro5 wx5 wy5 mk5 dp5 fa ne 0 p0 p1, 43, [(0, gr 0), (1, gi i), (2, gi k), (3, gr 2)], [gi 5, gi k]) rfl trivial ?_
          refine g_icmp_lt hX 56 rfl rfl ⟨by omega, by omega⟩ ⟨by omega, by omega⟩ (fun b43 => ?_) (fun b43 => ?_)
          ·
            refine G.go hX 3 (pSu W H M P c5 wt5 rows5 gro5 wx5 wy5 mk5 dp5 fa ne 0 p0 p1, 59, [(0, gr 0), (1, gi i), (2, gi k), (3, gr 2)], [gi k, gi i, gr 2]) rfl trivial ?_
            refine G.callV (av := [gi i, gi k]) (o := 2) (st := []) hX rfl (fun l D cA => c_X1_tell l D cA W H M P c5 wt5 rows5 gro5 wx5 wy5 mk5 i k (by first | assumption | omega) (by first | assumption | omega)) (by decide +kernel) aX1_tell rfl rfl rfl ⟨rfl, rfl⟩ (by decide) (Nat.le_of_ble_eq_true rfl) [5, 6, 7, 8, 9, 10] [0, 1, 2, 3, 4] [(0, gob 8 [gr 1, gr 11, gr 16, gr 21, gr 24, gr 31, gr 36]), (1, gob 5 [gr 2, gi dp5, gi W, gi H, gr 3, gr 6, gi fa, gi ne, gi 0]), (3, gar 2 2 ptq), (4, gai 0 P p0), (5, gai 0 P p1)] rfl rfl rfl (fun r w' hp => ?_)
            obtain ⟨rfl, rfl⟩ := hp
            refine G.perm (pSu W H M P c5 wt5 rows5 gro5 wx5 wy5 mk5 dp5 fa ne 0 p0 p1) [0, 1, 2, 3, 4, 5, 6, 7, 8, 9, 10] rfl rfl ?_
            show G X mX7_box ad 0 0 (pSu W H M P c5 wt5 rows5 gro5 wx5 wy5 mk5 dp5 fa ne 0 p0 p1, 62, [(0, gr 0), (1, gi i), (2, gi k), (3, gr 2)], [gi (rows5 (i * 5 + k))])
            refine G.widen (kc' := 1) (ks' := 6) (Nat.le_of_ble_eq_true rfl) (Nat.le_of_ble_eq_true rfl) ?_
            exact g_toR hX hE (fun X hX hE => g_iret hX hE rfl ⟨c5, wt5, rows5, gro5, wx5, wy5, mk5, dp5, _, rfl, rfl, hv5, hrr5, hgr5, hmo5, fun h9 => absurd h9 b17, fun _ => ⟨by omega, rfl⟩⟩)
          ·
            exact gth_X hX hE rfl rfl rfl rfl rfl (List.mem_of_getElem? (i := 2) rfl) rfl ⟨⟨Nat.le_of_ble_eq_true rfl, Nat.le_of_ble_eq_true rfl⟩, Nat.le_of_ble_eq_true rfl, Nat.le_of_ble_eq_true rfl⟩ ⟨Nat.le_of_ble_eq_true rfl, Nat.le_of_ble_eq_true rfl⟩ ⟨c5, wt5, rows5, gro5, wx5, wy5, mk5, dp5, rfl, rfl, hv5, hrr5, hgr5, hmo5, b17, by omega⟩
  ·
    refine G.go hX 2 (pSu W H M P c5 wt5 rows5 gro5 wx5 wy5 mk5 dp5 fa ne 0 p0 p1, 24, [(0, gr 0), (1, gi i), (2, gi k), (3, gr 2)], [gi c5]) rfl trivial ?_
    refine G.widen (kc' := 1) (ks' := 6) (Nat.le_of_ble_eq_true rfl) (Nat.le_of_ble_eq_true rfl) ?_
    exact g_toR hX hE (fun X hX hE => g_iret hX hE rfl ⟨c5, wt5, rows5, gro5, wx5, wy5, mk5, dp5, c5, rfl, rfl, hv5, hrr5, hgr5, hmo5, fun _ => rfl, fun h9 => absurd (by omega) h9⟩)
set_option maxHeartbeats 4000000 in
set_option maxRecDepth 100000 in
theorem c_X7_word_0 (l : Launch) (D : va_G) (cA : Nat → ClassId) (hst : l.stackTraces = false) (cn : Int) (wst : Int) (rwx : Int → Int) (lg : Int → Int) (n0 : Int) (v0 : Int → Int) (x0 : Int → Int) (y0 : Int → Int) (o0 : Int → Int) (n1 : Int) (v1 : Int → Int) (x1 : Int → Int) (y1 : Int → Int) (o1 : Int → Int) (v : Int) (px : Int) (py : Int) (hn : 0 ≤ n0 ∧ n0 ≤ 40) (hxy : ∀ q : Int, (inR (x0 q) ∧ inR (x1 q)) ∧ inR (y0 q) ∧ inR (y1 q)) (hO : wOrd n0 x0 y0 o0) (hv : inR v) (hpx : inR px) (hpy : inR py) :
    gCT l D cA yX7_word mX7_word (some .int) 1 6 [gr 0, gi 0, gi v, gi px, gi py] (pWr cn wst rwx lg n0 v0 x0 y0 o0 n1 v1 x1 y1 o1) (fun r9 w9 => ∃ (ord2 : Int → Int), r9 = some (gi n0) ∧ w9 = pWr cn 1 rwx lg (n0 + 1) (gu v0 n0 v) (gu x0 n0 px) (gu y0 n0 py) ord2 n1 v1 x1 y1 o1 ∧ (wOrd (n0 + 1) (gu x0 n0 px) (gu y0 n0 py) ord2) ∧ (0 ≤ v) ∧ (n0 < 40)) (fun E9 w9 => w9 = pWr cn wst rwx lg n0 v0 x0 y0 o0 n1 v1 x1 y1 o1 ∧ ((E9 = xI ∧ v < 0) ∨ (E9 = xU ∧ 0 ≤ v ∧ n0 = 40))) := by
  refine gCT_of hst rfl kX7_word rfl rfl (Nat.le_of_ble_eq_true rfl) (fun X ad hX hE => ?_)
  refine G.go hX 1 (pWr cn wst rwx lg n0 v0 x0 y0 o0 n1 v1 x1 y1 o1, 1, [(0, gr 0), (1, gi 0), (2, gi v), (3, gi px), (4, gi py)], [gi 0]) rfl trivial ?_
  refine G.callS (av := [gi 0]) (st := []) hX rfl (fun l D cA => c_X7_isSide l D cA 0 ⟨by omega, by omega⟩) (by decide +kernel) aX7_isSide rfl ⟨rfl, rfl⟩ (by decide) (Nat.le_of_ble_eq_true rfl) [] [0, 1, 2, 3, 4, 5, 6, 7, 8, 9, 10, 11, 12, 13] (pWr cn wst rwx lg n0 v0 x0 y0 o0 n1 v1 x1 y1 o1) rfl rfl rfl (fun r w' hp => ?_)
  obtain ⟨rfl, rfl⟩ := hp
  show G X mX7_word ad 0 0 (pWr cn wst rwx lg n0 v0 x0 y0 o0 n1 v1 x1 y1 o1, 4, [(0, gr 0), (1, gi 0), (2, gi v), (3, gi px), (4, gi py)], [gi (gb (0 ≤ 0 ∧ 0 < 2))])
  refine g_if_ne hX 17 rfl rfl (gb_r _) (fun b4 => ?_) (fun b4 => ?_)
  ·
    have b4 := gb_n0 b4
    refine G.go hX 1 (pWr cn wst rwx lg n0 v0 x0 y0 o0 n1 v1 x1 y1 o1, 18, [(0, gr 0), (1, gi 0), (2, gi v), (3, gi px), (4, gi py)], [gi v]) rfl trivial ?_
    refine g_if_ge hX 31 rfl rfl ⟨by omega, by omega⟩ (fun b18 => ?_) (fun b18 => ?_)
    ·
      refine G.go hX 1 (pWr cn wst rwx lg n0 v0 x0 y0 o0 n1 v1 x1 y1 o1, 32, [(0, gr 0), (1, gi 0), (2, gi v), (3, gi px), (4, gi py)], [gi 0]) rfl trivial ?_
      refine g_if_ne hX 42 rfl rfl ⟨by omega, by omega⟩ (fun b32 => ?_) (fun b32 => ?_)
      ·
        exfalso
        omega
      ·
        refine G.go hX 7 (pWr cn wst rwx lg n0 v0 x0 y0 o0 n1 v1 x1 y1 o1, 55, [(0, gr 0), (1, gi 0), (2, gi v), (3, gi px), (4, gi py), (5, gr 11)], [gi 40, gi n0]) rfl trivial ?_
        refine g_icmp_lt hX 68 rfl rfl ⟨by omega, by omega⟩ ⟨by omega, by omega⟩ (fun b55 => ?_) (fun b55 => ?_)
        ·
          refine G.go hX 8 (pWr cn 1 rwx lg n0 v0 x0 y0 o0 n1 v1 x1 y1 o1, 82, [(0, gr 0), (1, gi 0), (2, gi v), (3, gi px), (4, gi py), (5, gr 11)], [gi py, gi px, gi v, gr 11]) rfl ?_ ?_
          · refine ⟨?_, trivial⟩
            · omega
          refine G.callV (av := [gi v, gi px, gi py]) (o := 11) (st := []) hX rfl (fun l D cA => c_X6_add_0 l D cA n0 v0 x0 y0 o0 v px py (by first | assumption | omega) (fun q => ⟨(hxy q).1.1, (hxy q).2.1⟩) (by first | assumption | omega) (by first | assumption | omega) (by first | assumption | omega)) (by decide +kernel) aX6_add rfl rfl rfl ⟨rfl, rfl⟩ (by decide) (Nat.le_of_ble_eq_true rfl) [4, 5, 6, 7, 8] [0, 1, 2, 3, 9, 10, 11, 12, 13] [(0, gob 8 [gr 1, gr 11, gr 16, gr 21, gr 24, gr 31, gr 36]), (21, gob 6 [gi cn, gi 1, gr 11, gr 16, gr 22, gr 23]), (22, gai 0 320 rwx), (23, gai 0 1681 lg), (16, gob 7 [gi n1, gr 17, gr 18, gr 19, gr 20]), (17, gai 0 40 v1), (18, gai 0 40 x1), (19, gai 0 40 y1), (20, gai 0 40 o1)] rfl rfl rfl (fun r w' hp => ?_)
          obtain ⟨or5, rfl, rfl, hO5⟩ := hp
          refine G.perm (pWr cn 1 rwx lg (n0 + 1) (gu v0 n0 v) (gu x0 n0 px) (gu y0 n0 py) or5 n1 v1 x1 y1 o1) [0, 1, 2, 3, 9, 10, 11, 12, 13, 4, 5, 6, 7, 8] rfl rfl ?_
          show G X mX7_word ad 0 0 (pWr cn 1 rwx lg (n0 + 1) (gu v0 n0 v) (gu x0 n0 px) (gu y0 n0 py) or5 n1 v1 x1 y1 o1, 85, [(0, gr 0), (1, gi 0), (2, gi v), (3, gi px), (4, gi py), (5, gr 11)], [gi n0])
          refine G.widen (kc' := 1) (ks' := 6) (Nat.le_of_ble_eq_true rfl) (Nat.le_of_ble_eq_true rfl) ?_
          exact g_toR hX hE (fun X hX hE => g_iret hX hE rfl ⟨or5, rfl, rfl, hO5, by omega, by omega⟩)
        ·
          exact gth_U hX hE rfl rfl rfl rfl rfl (List.mem_of_getElem? (i := 5) rfl) rfl ⟨⟨Nat.le_of_ble_eq_true rfl, Nat.le_of_ble_eq_true rfl⟩, Nat.le_of_ble_eq_true rfl, Nat.le_of_ble_eq_true rfl⟩ ⟨Nat.le_of_ble_eq_true rfl, Nat.le_of_ble_eq_true rfl⟩ ⟨rfl, Or.inr ⟨rfl, by omega, by omega⟩⟩
    ·
      exact gth_I hX hE rfl rfl rfl rfl rfl (List.mem_of_getElem? (i := 4) rfl) rfl ⟨⟨Nat.le_of_ble_eq_true rfl, Nat.le_of_ble_eq_true rfl⟩, Nat.le_of_ble_eq_true rfl, Nat.le_of_ble_eq_true rfl⟩ ⟨Nat.le_of_ble_eq_true rfl, Nat.le_of_ble_eq_true rfl⟩ ⟨rfl, Or.inl ⟨rfl, by omega⟩⟩
  ·
    have b4 := gb_nn b4
    exfalso
    omega
set_option maxHeartbeats 4000000 in
set_option maxRecDepth 100000 in
theorem c_X7_word_1 (l : Launch) (D : va_G) (cA : Nat → ClassId) (hst : l.stackTraces = false) (cn : Int) (wst : Int) (rwx : Int → Int) (lg : Int → Int) (n0 : Int) (v0 : Int → Int) (x0 : Int → Int) (y0 : Int → Int) (o0 : Int → Int) (n1 : Int) (v1 : Int → Int) (x1 : Int → Int) (y1 : Int → Int) (o1 : Int → Int) (v : Int) (px : Int) (py : Int) (hn : 0 ≤ n1 ∧ n1 ≤ 40) (hxy : ∀ q : Int, (inR (x0 q) ∧ inR (x1 q)) ∧ inR (y0 q) ∧ inR (y1 q)) (hO : wOrd n1 x1 y1 o1) (hv : inR v) (hpx : inR px) (hpy : inR py) :
    gCT l D cA yX7_word mX7_word (some .int) 1 6 [gr 0, gi 1, gi v, gi px, gi py] (pWr cn wst rwx lg n0 v0 x0 y0 o0 n1 v1 x1 y1 o1) (fun r9 w9 => ∃ (ord2 : Int → Int), r9 = some (gi n1) ∧ w9 = pWr cn 1 rwx lg n0 v0 x0 y0 o0 (n1 + 1) (gu v1 n1 v) (gu x1 n1 px) (gu y1 n1 py) ord2 ∧ (wOrd (n1 + 1) (gu x1 n1 px) (gu y1 n1 py) ord2) ∧ (0 ≤ v) ∧ (n1 < 40)) (fun E9 w9 => w9 = pWr cn wst rwx lg n0 v0 x0 y0 o0 n1 v1 x1 y1 o1 ∧ ((E9 = xI ∧ v < 0) ∨ (E9 = xU ∧ 0 ≤ v ∧ n1 = 40))) := by
  refine gCT_of hst rfl kX7_word rfl rfl (Nat.le_of_ble_eq_true rfl) (fun X ad hX hE => ?_)
  refine G.go hX 1 (pWr cn wst rwx lg n0 v0 x0 y0 o0 n1 v1 x1 y1 o1, 1, [(0, gr 0), (1, gi 1), (2, gi v), (3, gi px), (4, gi py)], [gi 1]) rfl trivial ?_
  refine G.callS (av := [gi 1]) (st := []) hX rfl (fun l D cA => c_X7_isSide l D cA 1 ⟨by omega, by omega⟩) (by decide +kernel) aX7_isSide rfl ⟨rfl, rfl⟩ (by decide) (Nat.le_of_ble_eq_true rfl) [] [0, 1, 2, 3, 4, 5, 6, 7, 8, 9, 10, 11, 12, 13] (pWr cn wst rwx lg n0 v0 x0 y0 o0 n1 v1 x1 y1 o1) rfl rfl rfl (fun r w' hp => ?_)
  obtain ⟨rfl, rfl⟩ := hp
  show G X mX7_word ad 0 0 (pWr cn wst rwx lg n0 v0 x0 y0 o0 n1 v1 x1 y1 o1, 4, [(0, gr 0), (1, gi 1), (2, gi v), (3, gi px), (4, gi py)], [gi (gb (0 ≤ 1 ∧ 1 < 2))])
  refine g_if_ne hX 17 rfl rfl (gb_r _) (fun b4 => ?_) (fun b4 => ?_)
  ·
    have b4 := gb_n0 b4
    refine G.go hX 1 (pWr cn wst rwx lg n0 v0 x0 y0 o0 n1 v1 x1 y1 o1, 18, [(0, gr 0), (1, gi 1), (2, gi v), (3, gi px), (4, gi py)], [gi v]) rfl trivial ?_
    refine g_if_ge hX 31 rfl rfl ⟨by omega, by omega⟩ (fun b18 => ?_) (fun b18 => ?_)
    ·
      refine G.go hX 1 (pWr cn wst rwx lg n0 v0 x0 y0 o0 n1 v1 x1 y1 o1, 32, [(0, gr 0), (1, gi 1), (2, gi v), (3, gi px), (4, gi py)], [gi 1]) rfl trivial ?_
      refine g_if_ne hX 42 rfl rfl ⟨by omega, by omega⟩ (fun b32 => ?_) (fun b32 => ?_)
      ·
        refine G.go hX 6 (pWr cn wst rwx lg n0 v0 x0 y0 o0 n1 v1 x1 y1 o1, 55, [(0, gr 0), (1, gi 1), (2, gi v), (3, gi px), (4, gi py), (5, gr 16)], [gi 40, gi n1]) rfl trivial ?_
        refine g_icmp_lt hX 68 rfl rfl ⟨by omega, by omega⟩ ⟨by omega, by omega⟩ (fun b55 => ?_) (fun b55 => ?_)
        ·
          refine G.go hX 8 (pWr cn 1 rwx lg n0 v0 x0 y0 o0 n1 v1 x1 y1 o1, 82, [(0, gr 0), (1, gi 1), (2, gi v), (3, gi px), (4, gi py), (5, gr 16)], [gi py, gi px, gi v, gr 16]) rfl ?_ ?_
          · refine ⟨?_, trivial⟩
            · omega
          refine G.callV (av := [gi v, gi px, gi py]) (o := 16) (st := []) hX rfl (fun l D cA => c_X6_add_1 l D cA n1 v1 x1 y1 o1 v px py (by first | assumption | omega) (fun q => ⟨(hxy q).1.2, (hxy q).2.2⟩) (by first | assumption | omega) (by first | assumption | omega) (by first | assumption | omega)) (by decide +kernel) aX6_add rfl rfl rfl ⟨rfl, rfl⟩ (by decide) (Nat.le_of_ble_eq_true rfl) [9, 10, 11, 12, 13] [0, 1, 2, 3, 4, 5, 6, 7, 8] [(0, gob 8 [gr 1, gr 11, gr 16, gr 21, gr 24, gr 31, gr 36]), (21, gob 6 [gi cn, gi 1, gr 11, gr 16, gr 22, gr 23]), (22, gai 0 320 rwx), (23, gai 0 1681 lg), (11, gob 7 [gi n0, gr 12, gr 13, gr 14, gr 15]), (12, gai 0 40 v0), (13, gai 0 40 x0), (14, gai 0 40 y0), (15, gai 0 40 o0)] rfl rfl rfl (fun r w' hp => ?_)
          obtain ⟨or5, rfl, rfl, hO5⟩ := hp
          refine G.perm (pWr cn 1 rwx lg n0 v0 x0 y0 o0 (n1 + 1) (gu v1 n1 v) (gu x1 n1 px) (gu y1 n1 py) or5) [0, 1, 2, 3, 4, 5, 6, 7, 8, 9, 10, 11, 12, 13] rfl rfl ?_
          show G X mX7_word ad 0 0 (pWr cn 1 rwx lg n0 v0 x0 y0 o0 (n1 + 1) (gu v1 n1 v) (gu x1 n1 px) (gu y1 n1 py) or5, 85, [(0, gr 0), (1, gi 1), (2, gi v), (3, gi px), (4, gi py), (5, gr 16)], [gi n1])
          refine G.widen (kc' := 1) (ks' := 6) (Nat.le_of_ble_eq_true rfl) (Nat.le_of_ble_eq_true rfl) ?_
          exact g_toR hX hE (fun X hX hE => g_iret hX hE rfl ⟨or5, rfl, rfl, hO5, by omega, by omega⟩)
        ·
          exact gth_U hX hE rfl rfl rfl rfl rfl (List.mem_of_getElem? (i := 5) rfl) rfl ⟨⟨Nat.le_of_ble_eq_true rfl, Nat.le_of_ble_eq_true rfl⟩, Nat.le_of_ble_eq_true rfl, Nat.le_of_ble_eq_true rfl⟩ ⟨Nat.le_of_ble_eq_true rfl, Nat.le_of_ble_eq_true rfl⟩ ⟨rfl, Or.inr ⟨rfl, by omega, by omega⟩⟩
      ·
        exfalso
        omega
    ·
      exact gth_I hX hE rfl rfl rfl rfl rfl (List.mem_of_getElem? (i := 4) rfl) rfl ⟨⟨Nat.le_of_ble_eq_true rfl, Nat.le_of_ble_eq_true rfl⟩, Nat.le_of_ble_eq_true rfl, Nat.le_of_ble_eq_true rfl⟩ ⟨Nat.le_of_ble_eq_true rfl, Nat.le_of_ble_eq_true rfl⟩ ⟨rfl, Or.inl ⟨rfl, by omega⟩⟩
  ·
    have b4 := gb_nn b4
    exfalso
    omega
set_option maxHeartbeats 4000000 in
set_option maxRecDepth 100000 in
theorem c_X7_word_n (l : Launch) (D : va_G) (cA : Nat → ClassId) (hst : l.stackTraces = false) (cn : Int) (wst : Int) (rwx : Int → Int) (lg : Int → Int) (n0 : Int) (v0 : Int → Int) (x0 : Int → Int) (y0 : Int → Int) (o0 : Int → Int) (n1 : Int) (v1 : Int → Int) (x1 : Int → Int) (y1 : Int → Int) (o1 : Int → Int) (s : Int) (v : Int) (px : Int) (py : Int) (hs : inR s) (hn : ¬ (0 ≤ s ∧ s < 2)) :
    gCT l D cA yX7_word mX7_word (some .int) 1 6 [gr 0, gi s, gi v, gi px, gi py] (pWr cn wst rwx lg n0 v0 x0 y0 o0 n1 v1 x1 y1 o1) (fun r9 w9 => r9 = some (gi 0) ∧ w9 = pWr cn wst rwx lg n0 v0 x0 y0 o0 n1 v1 x1 y1 o1 ∧ False) (fun E9 w9 => E9 = xA ∧ w9 = pWr cn wst rwx lg n0 v0 x0 y0 o0 n1 v1 x1 y1 o1) := by
  refine gCT_of hst rfl kX7_word rfl rfl (Nat.le_of_ble_eq_true rfl) (fun X ad hX hE => ?_)
  refine G.go hX 1 (pWr cn wst rwx lg n0 v0 x0 y0 o0 n1 v1 x1 y1 o1, 1, [(0, gr 0), (1, gi s), (2, gi v), (3, gi px), (4, gi py)], [gi s]) rfl trivial ?_
  refine G.callS (av := [gi s]) (st := []) hX rfl (fun l D cA => c_X7_isSide l D cA s (by first | assumption | omega)) (by decide +kernel) aX7_isSide rfl ⟨rfl, rfl⟩ (by decide) (Nat.le_of_ble_eq_true rfl) [] [0, 1, 2, 3, 4, 5, 6, 7, 8, 9, 10, 11, 12, 13] (pWr cn wst rwx lg n0 v0 x0 y0 o0 n1 v1 x1 y1 o1) rfl rfl rfl (fun r w' hp => ?_)
  obtain ⟨rfl, rfl⟩ := hp
  show G X mX7_word ad 0 0 (pWr cn wst rwx lg n0 v0 x0 y0 o0 n1 v1 x1 y1 o1, 4, [(0, gr 0), (1, gi s), (2, gi v), (3, gi px), (4, gi py)], [gi (gb (0 ≤ s ∧ s < 2))])
  refine g_if_ne hX 17 rfl rfl (gb_r _) (fun b4 => ?_) (fun b4 => ?_)
  ·
    have b4 := gb_n0 b4
    exfalso
    exact hn b4
  ·
    have b4 := gb_nn b4
    exact gth_A hX hE rfl rfl rfl rfl rfl (List.mem_of_getElem? (i := 3) rfl) rfl ⟨⟨Nat.le_of_ble_eq_true rfl, Nat.le_of_ble_eq_true rfl⟩, Nat.le_of_ble_eq_true rfl, Nat.le_of_ble_eq_true rfl⟩ ⟨Nat.le_of_ble_eq_true rfl, Nat.le_of_ble_eq_true rfl⟩ ⟨rfl, rfl⟩
set_option maxHeartbeats 4000000 in
set_option maxRecDepth 100000 in
theorem c_X7_words (l : Launch) (D : va_G) (cA : Nat → ClassId) (hst : l.stackTraces = false) (cn : Int) (wst : Int) (rwx : Int → Int) (lg : Int → Int) (n0 : Int) (v0 : Int → Int) (x0 : Int → Int) (y0 : Int → Int) (o0 : Int → Int) (n1 : Int) (v1 : Int → Int) (x1 : Int → Int) (y1 : Int → Int) (o1 : Int → Int) (i : Int) (k : Int) (hn : (0 ≤ n0 ∧ n0 ≤ 40) ∧ 0 ≤ n1 ∧ n1 ≤ 40) (ho0 : ∀ j, 0 ≤ j → j < n0 → 0 ≤ o0 j ∧ o0 j < n0) (ho1 : ∀ j, 0 ≤ j → j < n1 → 0 ≤ o1 j ∧ o1 j < n1) (hv : ∀ q : Int, inR (v0 q) ∧ inR (v1 q)) (hxy : ∀ q : Int, (inR (x0 q) ∧ inR (x1 q)) ∧ inR (y0 q) ∧ inR (y1 q)) (hws : wst = 0 ∨ wst = 1) (hcn : 0 ≤ cn ∧ cn ≤ 80) (hrw : ∀ q : Int, inR (rwx q)) (hval : wst = 0 → wVal n0 v0 x0 y0 o0 n1 v1 x1 y1 o1 cn rwx) (hi : inR i) (hk : inR k) :
    gCT l D cA yX7_words mX7_words (some .int) 1 6 [gr 0, gi i, gi k] (pWr cn wst rwx lg n0 v0 x0 y0 o0 n1 v1 x1 y1 o1) (fun r9 w9 => ∃ (cn2 : Int) (rw2 : Int → Int) (lg2 : Int → Int) (rr : Int), r9 = some (gi rr) ∧ w9 = pWr cn2 0 rw2 lg2 n0 v0 x0 y0 o0 n1 v1 x1 y1 o1 ∧ (wVal n0 v0 x0 y0 o0 n1 v1 x1 y1 o1 cn2 rw2) ∧ (0 ≤ cn2 ∧ cn2 ≤ 80) ∧ (∀ q : Int, inR (rw2 q)) ∧ (i = -1 → rr = cn2) ∧ (i ≠ -1 → ((0 ≤ i ∧ i < cn2) ∧ 0 ≤ k ∧ k < 4) ∧ rr = rw2 (i * 4 + k))) (fun E9 w9 => ∃ (cn2 : Int) (rw2 : Int → Int) (lg2 : Int → Int), E9 = xX ∧ w9 = pWr cn2 0 rw2 lg2 n0 v0 x0 y0 o0 n1 v1 x1 y1 o1 ∧ (wVal n0 v0 x0 y0 o0 n1 v1 x1 y1 o1 cn2 rw2) ∧ (0 ≤ cn2 ∧ cn2 ≤ 80) ∧ (∀ q : Int, inR (rw2 q)) ∧ i ≠ -1 ∧ ¬ ((0 ≤ i ∧ i < cn2) ∧ 0 ≤ k ∧ k < 4)) := by
  refine gCT_of hst rfl kX7_words rfl rfl (Nat.le_of_ble_eq_true rfl) (fun X ad hX hE => ?_)
  refine G.go hX 2 (pWr cn wst rwx lg n0 v0 x0 y0 o0 n1 v1 x1 y1 o1, 4, [(0, gr 0), (1, gi i), (2, gi k)], [gr 21]) rfl trivial ?_
  refine G.callV (av := []) (o := 21) (st := []) hX rfl (fun l D cA => c_X5_refresh l D cA cn wst rwx lg n0 v0 x0 y0 o0 n1 v1 x1 y1 o1 (by first | assumption | omega) (by first | assumption | omega) (by first | assumption | omega) (by first | assumption | omega) (by first | assumption | omega) (by first | assumption | omega) (by first | assumption | omega) (by first | assumption | omega) (by first | assumption | omega)) (by decide +kernel) aX5_refresh rfl rfl rfl ⟨rfl, rfl⟩ (by decide) (Nat.le_of_ble_eq_true rfl) [1, 2, 3, 4, 5, 6, 7, 8, 9, 10, 11, 12, 13] [0] [(0, gob 8 [gr 1, gr 11, gr 16, gr 21, gr 24, gr 31, gr 36])] rfl rfl rfl (fun r w' hp => ?_)
  obtain ⟨cn5, rw5, lg5, rfl, rfl, hwv5, hcn5, hrw5⟩ := hp
  refine G.perm (pWr cn5 0 rw5 lg5 n0 v0 x0 y0 o0 n1 v1 x1 y1 o1) [0, 1, 2, 3, 4, 5, 6, 7, 8, 9, 10, 11, 12, 13] rfl rfl ?_
  show G X mX7_words ad 0 0 (pWr cn5 0 rw5 lg5 n0 v0 x0 y0 o0 n1 v1 x1 y1 o1, 7, [(0, gr 0), (1, gi i), (2, gi k)], [])
  refine G.go hX 2 (pWr cn5 0 rw5 lg5 n0 v0 x0 y0 o0 n1 v1 x1 y1 o1, 9, [(0, gr 0), (1, gi i), (2, gi k)], [gi (-1), gi i]) rfl trivial ?_
  refine g_icmp_ne hX 20 rfl rfl ⟨by omega, by omega⟩ ⟨by omega, by omega⟩ (fun b9 => ?_) (fun b9 => ?_)
  ·
    refine G.go hX 1 (pWr cn5 0 rw5 lg5 n0 v0 x0 y0 o0 n1 v1 x1 y1 o1, 21, [(0, gr 0), (1, gi i), (2, gi k)], [gi i]) rfl trivial ?_
    refine g_if_lt hX 44 rfl rfl ⟨by omega, by omega⟩ (fun b21 => ?_) (fun b21 => ?_)
    ·
      exact gth_X hX hE rfl rfl rfl rfl rfl (List.mem_of_getElem? (i := 6) rfl) rfl ⟨⟨Nat.le_of_ble_eq_true rfl, Nat.le_of_ble_eq_true rfl⟩, Nat.le_of_ble_eq_true rfl, Nat.le_of_ble_eq_true rfl⟩ ⟨Nat.le_of_ble_eq_true rfl, Nat.le_of_ble_eq_true rfl⟩ ⟨cn5, rw5, lg5, rfl, rfl, hwv5, hcn5, hrw5, b9, by omega⟩
    ·
      refine G.go hX 4 (pWr cn5 0 rw5 lg5 n0 v0 x0 y0 o0 n1 v1 x1 y1 o1, 32, [(0, gr 0), (1, gi i), (2, gi k)], [gi cn5, gi i]) rfl trivial ?_
      refine g_icmp_ge hX 44 rfl rfl (by first | assumption | exact ⟨by omega, by omega⟩) (by first | assumption | exact ⟨by omega, by omega⟩) (fun b32 => ?_) (fun b32 => ?_)
      ·
        exact gth_X hX hE rfl rfl rfl rfl rfl (List.mem_of_getElem? (i := 6) rfl) rfl ⟨⟨Nat.le_of_ble_eq_true rfl, Nat.le_of_ble_eq_true rfl⟩, Nat.le_of_ble_eq_true rfl, Nat.le_of_ble_eq_true rfl⟩ ⟨Nat.le_of_ble_eq_true rfl, Nat.le_of_ble_eq_true rfl⟩ ⟨cn5, rw5, lg5, rfl, rfl, hwv5, hcn5, hrw5, b9, by omega⟩
      ·
        refine G.go hX 1 (pWr cn5 0 rw5 lg5 n0 v0 x0 y0 o0 n1 v1 x1 y1 o1, 36, [(0, gr 0), (1, gi i), (2, gi k)], [gi k]) rfl trivial ?_
        refine g_if_lt hX 44 rfl rfl ⟨by omega, by omega⟩ (fun b36 => ?_) (fun b36 => ?_)
        ·
          exact gth_X hX hE rfl rfl rfl rfl rfl (List.mem_of_getElem? (i := 6) rfl) rfl ⟨⟨Nat.le_of_ble_eq_true rfl, Nat.le_of_ble_eq_true rfl⟩, Nat.le_of_ble_eq_true rfl, Nat.le_of_ble_eq_true rfl⟩ ⟨Nat.le_of_ble_eq_true rfl, Nat.le_of_ble_eq_true rfl⟩ ⟨cn5, rw5, lg5, rfl, rfl, hwv5, hcn5, hrw5, b9, by omega⟩
        ·
          refine G.go hX 2 (pWr cn5 0 rw5 lg5 n0 v0 x0 y0 o0 n1 v1 x1 y1 o1, 41, [(0, gr 0), (1, gi i), (2, gi k)], [gi 4, gi k]) rfl trivial ?_
          refine g_icmp_lt hX 54 rfl rfl ⟨by omega, by omega⟩ ⟨by omega, by omega⟩ (fun b41 => ?_) (fun b41 => ?_)
          ·
            refine G.go hX 4 (pWr cn5 0 rw5 lg5 n0 v0 x0 y0 o0 n1 v1 x1 y1 o1, 60, [(0, gr 0), (1, gi i), (2, gi k)], [gi k, gi i, gr 21]) rfl trivial ?_
            refine G.callV (av := [gi i, gi k]) (o := 21) (st := []) hX rfl (fun l D cA => c_X5_tell l D cA cn5 0 rw5 lg5 n0 v0 x0 y0 o0 n1 v1 x1 y1 o1 i k (by first | assumption | omega)) (by decide +kernel) aX5_tell rfl rfl rfl ⟨rfl, rfl⟩ (by decide) (Nat.le_of_ble_eq_true rfl) [1, 2, 3, 4, 5, 6, 7, 8, 9, 10, 11, 12, 13] [0] [(0, gob 8 [gr 1, gr 11, gr 16, gr 21, gr 24, gr 31, gr 36])] rfl rfl rfl (fun r w' hp => ?_)
            obtain ⟨rfl, rfl⟩ := hp
            refine G.perm (pWr cn5 0 rw5 lg5 n0 v0 x0 y0 o0 n1 v1 x1 y1 o1) [0, 1, 2, 3, 4, 5, 6, 7, 8, 9, 10, 11, 12, 13] rfl rfl ?_
            show G X mX7_words ad 0 0 (pWr cn5 0 rw5 lg5 n0 v0 x0 y0 o0 n1 v1 x1 y1 o1, 63, [(0, gr 0), (1, gi i), (2, gi k)], [gi (rw5 (i * 4 + k))])
            refine G.widen (kc' := 1) (ks' := 6) (Nat.le_of_ble_eq_true rfl) (Nat.le_of_ble_eq_true rfl) ?_
            exact g_toR hX hE (fun X hX hE => g_iret hX hE rfl ⟨cn5, rw5, lg5, _, rfl, rfl, hwv5, hcn5, hrw5, fun h9 => absurd h9 b9, fun _ => ⟨by omega, rfl⟩⟩)
          ·
            exact gth_X hX hE rfl rfl rfl rfl rfl (List.mem_of_getElem? (i := 6) rfl) rfl ⟨⟨Nat.le_of_ble_eq_true rfl, Nat.le_of_ble_eq_true rfl⟩, Nat.le_of_ble_eq_true rfl, Nat.le_of_ble_eq_true rfl⟩ ⟨Nat.le_of_ble_eq_true rfl, Nat.le_of_ble_eq_true rfl⟩ ⟨cn5, rw5, lg5, rfl, rfl, hwv5, hcn5, hrw5, b9, by omega⟩
  ·
    refine G.go hX 3 (pWr cn5 0 rw5 lg5 n0 v0 x0 y0 o0 n1 v1 x1 y1 o1, 19, [(0, gr 0), (1, gi i), (2, gi k)], [gi cn5]) rfl trivial ?_
    refine G.widen (kc' := 1) (ks' := 6) (Nat.le_of_ble_eq_true rfl) (Nat.le_of_ble_eq_true rfl) ?_
    exact g_toR hX hE (fun X hX hE => g_iret hX hE rfl ⟨cn5, rw5, lg5, cn5, rfl, rfl, hwv5, hcn5, hrw5, fun _ => rfl, fun h9 => absurd (by omega) h9⟩)
set_option maxHeartbeats 4000000 in
set_option maxRecDepth 100000 in
theorem c_X7_size_0 (l : Launch) (D : va_G) (cA : Nat → ClassId) (hst : l.stackTraces = false) (w0 : Int → Int) (w1 : Int → Int) (h0 : Int → Int) (h1 : Int → Int) (p : Int) (w : Int) (h : Int) (hsz : ∀ q : Int, (inR (w0 q) ∧ inR (w1 q)) ∧ inR (h0 q) ∧ inR (h1 q)) (hp : inR p) (hw : inR w) (hh : inR h) :
    gCT l D cA yX7_size mX7_size (some .int) 1 6 [gr 0, gi 0, gi p, gi w, gi h] (pPg w0 w1 h0 h1) (fun r9 w9 => r9 = some (gi (1 - gb (gos (gu w0 p w) w1 (gu h0 p h) h1 p))) ∧ w9 = pPg (gu w0 p w) w1 (gu h0 p h) h1 ∧ (0 ≤ p ∧ p < 20) ∧ (1 ≤ w ∧ 1 ≤ h)) (fun E9 w9 => w9 = pPg w0 w1 h0 h1 ∧ ((E9 = xA ∧ ¬ (0 ≤ p ∧ p < 20)) ∨ (E9 = xI ∧ (0 ≤ p ∧ p < 20) ∧ ¬ (1 ≤ w ∧ 1 ≤ h)))) := by
  refine gCT_of hst rfl kX7_size rfl rfl (Nat.le_of_ble_eq_true rfl) (fun X ad hX hE => ?_)
  refine G.go hX 1 (pPg w0 w1 h0 h1, 1, [(0, gr 0), (1, gi 0), (2, gi p), (3, gi w), (4, gi h)], [gi 0]) rfl trivial ?_
  refine G.callS (av := [gi 0]) (st := []) hX rfl (fun l D cA => c_X7_isSide l D cA 0 ⟨by omega, by omega⟩) (by decide +kernel) aX7_isSide rfl ⟨rfl, rfl⟩ (by decide) (Nat.le_of_ble_eq_true rfl) [] [0, 1, 2, 3, 4, 5, 6, 7] (pPg w0 w1 h0 h1) rfl rfl rfl (fun r w' hp => ?_)
  obtain ⟨rfl, rfl⟩ := hp
  show G X mX7_size ad 0 0 (pPg w0 w1 h0 h1, 4, [(0, gr 0), (1, gi 0), (2, gi p), (3, gi w), (4, gi h)], [gi (gb (0 ≤ 0 ∧ 0 < 2))])
  refine g_if_eq hX 14 rfl rfl (gb_r _) (fun b4 => ?_) (fun b4 => ?_)
  ·
    have b4 := gb_0.mp b4
    exfalso
    omega
  ·
    have b4 := gb_n0 b4
    refine G.go hX 1 (pPg w0 w1 h0 h1, 8, [(0, gr 0), (1, gi 0), (2, gi p), (3, gi w), (4, gi h)], [gi p]) rfl trivial ?_
    refine G.callS (av := [gi p]) (st := []) hX rfl (fun l D cA => c_X7_isPage l D cA p (by first | assumption | omega)) (by decide +kernel) aX7_isPage rfl ⟨rfl, rfl⟩ (by decide) (Nat.le_of_ble_eq_true rfl) [] [0, 1, 2, 3, 4, 5, 6, 7] (pPg w0 w1 h0 h1) rfl rfl rfl (fun r w' hp => ?_)
    obtain ⟨rfl, rfl⟩ := hp
    show G X mX7_size ad 0 0 (pPg w0 w1 h0 h1, 11, [(0, gr 0), (1, gi 0), (2, gi p), (3, gi w), (4, gi h)], [gi (gb (0 ≤ p ∧ p < 20))])
    refine g_if_ne hX 24 rfl rfl (gb_r _) (fun b11 => ?_) (fun b11 => ?_)
    ·
      have b11 := gb_n0 b11
      refine G.go hX 2 (pPg w0 w1 h0 h1, 26, [(0, gr 0), (1, gi 0), (2, gi p), (3, gi w), (4, gi h)], [gi 1, gi w]) rfl trivial ?_
      refine g_icmp_lt hX 35 rfl rfl ⟨by omega, by omega⟩ ⟨by omega, by omega⟩ (fun b26 => ?_) (fun b26 => ?_)
      ·
        exact gth_I hX hE rfl rfl rfl rfl rfl (List.mem_of_getElem? (i := 8) rfl) rfl ⟨⟨Nat.le_of_ble_eq_true rfl, Nat.le_of_ble_eq_true rfl⟩, Nat.le_of_ble_eq_true rfl, Nat.le_of_ble_eq_true rfl⟩ ⟨Nat.le_of_ble_eq_true rfl, Nat.le_of_ble_eq_true rfl⟩ ⟨rfl, Or.inr ⟨rfl, b11, by omega⟩⟩
      ·
        refine G.go hX 2 (pPg w0 w1 h0 h1, 32, [(0, gr 0), (1, gi 0), (2, gi p), (3, gi w), (4, gi h)], [gi 1, gi h]) rfl trivial ?_
        refine g_icmp_ge hX 45 rfl rfl ⟨by omega, by omega⟩ ⟨by omega, by omega⟩ (fun b32 => ?_) (fun b32 => ?_)
        ·
          refine G.go hX 6 (pPg w0 w1 h0 h1, 54, [(0, gr 0), (1, gi 0), (2, gi p), (3, gi w), (4, gi h)], [gi h, gi w, gi p, gi 0, gr 24]) rfl trivial ?_
          refine G.callV (av := [gi 0, gi p, gi w, gi h]) (o := 24) (st := []) hX rfl (fun l D cA => c_X2_put_0 l D cA w0 w1 h0 h1 p w h b11) (by decide +kernel) aX2_put rfl rfl rfl ⟨rfl, rfl⟩ (by decide) (Nat.le_of_ble_eq_true rfl) [1, 2, 3, 4, 5, 6, 7] [0] [(0, gob 8 [gr 1, gr 11, gr 16, gr 21, gr 24, gr 31, gr 36])] rfl rfl rfl (fun r w' hp => ?_)
          obtain ⟨rfl, rfl⟩ := hp
          refine G.perm (pPg (gu w0 p w) w1 (gu h0 p h) h1) [0, 1, 2, 3, 4, 5, 6, 7] rfl rfl ?_
          show G X mX7_size ad 0 0 (pPg (gu w0 p w) w1 (gu h0 p h) h1, 57, [(0, gr 0), (1, gi 0), (2, gi p), (3, gi w), (4, gi h)], [])
          refine G.go hX 3 (pPg (gu w0 p w) w1 (gu h0 p h) h1, 62, [(0, gr 0), (1, gi 0), (2, gi p), (3, gi w), (4, gi h)], [gi p, gr 24]) rfl trivial ?_
          refine G.callV (av := [gi p]) (o := 24) (st := []) hX rfl (fun l D cA => c_X2_hasOtherSizes l D cA (gu w0 p w) w1 (gu h0 p h) h1 p b11 (fun q => ⟨⟨(by first | exact gu_r1 (fun q => (hsz q).1.1) hw q | exact (hsz q).1.1), (by first | exact gu_r1 (fun q => (hsz q).1.2) hw q | exact (hsz q).1.2)⟩, (by first | exact gu_r1 (fun q => (hsz q).2.1) hh q | exact (hsz q).2.1), (by first | exact gu_r1 (fun q => (hsz q).2.2) hh q | exact (hsz q).2.2)⟩)) (by decide +kernel) aX2_hasOtherSizes rfl rfl rfl ⟨rfl, rfl⟩ (by decide) (Nat.le_of_ble_eq_true rfl) [1, 2, 3, 4, 5, 6, 7] [0] [(0, gob 8 [gr 1, gr 11, gr 16, gr 21, gr 24, gr 31, gr 36])] rfl rfl rfl (fun r w' hp => ?_)
          obtain ⟨rfl, rfl⟩ := hp
          refine G.perm (pPg (gu w0 p w) w1 (gu h0 p h) h1) [0, 1, 2, 3, 4, 5, 6, 7] rfl rfl ?_
          show G X mX7_size ad 0 0 (pPg (gu w0 p w) w1 (gu h0 p h) h1, 65, [(0, gr 0), (1, gi 0), (2, gi p), (3, gi w), (4, gi h)], [gi (gb (gos (gu w0 p w) w1 (gu h0 p h) h1 p))])
          refine g_if_eq hX 72 rfl rfl (gb_r _) (fun b65 => ?_) (fun b65 => ?_)
          ·
            have b65 := gb_0.mp b65
            refine G.go hX 1 (pPg (gu w0 p w) w1 (gu h0 p h) h1, 73, [(0, gr 0), (1, gi 0), (2, gi p), (3, gi w), (4, gi h)], [gi 1]) rfl trivial ?_
            refine G.widen (kc' := 1) (ks' := 6) (Nat.le_of_ble_eq_true rfl) (Nat.le_of_ble_eq_true rfl) ?_
            exact g_toR hX hE (fun X hX hE => g_iret hX hE rfl ⟨by rw [gb_f b65]; rfl, rfl, b11, by omega⟩)
          ·
            have b65 := gb_n0 b65
            refine G.go hX 2 (pPg (gu w0 p w) w1 (gu h0 p h) h1, 73, [(0, gr 0), (1, gi 0), (2, gi p), (3, gi w), (4, gi h)], [gi 0]) rfl trivial ?_
            refine G.widen (kc' := 1) (ks' := 6) (Nat.le_of_ble_eq_true rfl) (Nat.le_of_ble_eq_true rfl) ?_
            exact g_toR hX hE (fun X hX hE => g_iret hX hE rfl ⟨by rw [gb_t b65]; rfl, rfl, b11, by omega⟩)
        ·
          exact gth_I hX hE rfl rfl rfl rfl rfl (List.mem_of_getElem? (i := 8) rfl) rfl ⟨⟨Nat.le_of_ble_eq_true rfl, Nat.le_of_ble_eq_true rfl⟩, Nat.le_of_ble_eq_true rfl, Nat.le_of_ble_eq_true rfl⟩ ⟨Nat.le_of_ble_eq_true rfl, Nat.le_of_ble_eq_true rfl⟩ ⟨rfl, Or.inr ⟨rfl, b11, by omega⟩⟩
    ·
      have b11 := gb_nn b11
      exact gth_A hX hE rfl rfl rfl rfl rfl (List.mem_of_getElem? (i := 7) rfl) rfl ⟨⟨Nat.le_of_ble_eq_true rfl, Nat.le_of_ble_eq_true rfl⟩, Nat.le_of_ble_eq_true rfl, Nat.le_of_ble_eq_true rfl⟩ ⟨Nat.le_of_ble_eq_true rfl, Nat.le_of_ble_eq_true rfl⟩ ⟨rfl, Or.inl ⟨rfl, b11⟩⟩
set_option maxHeartbeats 4000000 in
set_option maxRecDepth 100000 in
theorem c_X7_size_1 (l : Launch) (D : va_G) (cA : Nat → ClassId) (hst : l.stackTraces = false) (w0 : Int → Int) (w1 : Int → Int) (h0 : Int → Int) (h1 : Int → Int) (p : Int) (w : Int) (h : Int) (hsz : ∀ q : Int, (inR (w0 q) ∧ inR (w1 q)) ∧ inR (h0 q) ∧ inR (h1 q)) (hp : inR p) (hw : inR w) (hh : inR h) :
    gCT l D cA yX7_size mX7_size (some .int) 1 6 [gr 0, gi 1, gi p, gi w, gi h] (pPg w0 w1 h0 h1) (fun r9 w9 => r9 = some (gi (1 - gb (gos w0 (gu w1 p w) h0 (gu h1 p h) p))) ∧ w9 = pPg w0 (gu w1 p w) h0 (gu h1 p h) ∧ (0 ≤ p ∧ p < 20) ∧ (1 ≤ w ∧ 1 ≤ h)) (fun E9 w9 => w9 = pPg w0 w1 h0 h1 ∧ ((E9 = xA ∧ ¬ (0 ≤ p ∧ p < 20)) ∨ (E9 = xI ∧ (0 ≤ p ∧ p < 20) ∧ ¬ (1 ≤ w ∧ 1 ≤ h)))) := by
  refine gCT_of hst rfl kX7_size rfl rfl (Nat.le_of_ble_eq_true rfl) (fun X ad hX hE => ?_)
  refine G.go hX 1 (pPg w0 w1 h0 h1, 1, [(0, gr 0), (1, gi 1), (2, gi p), (3, gi w), (4, gi h)], [gi 1]) rfl trivial ?_
  refine G.callS (av := [gi 1]) (st := []) hX rfl (fun l D cA => c_X7_isSide l D cA 1 ⟨by omega, by omega⟩) (by decide +kernel) aX7_isSide rfl ⟨rfl, rfl⟩ (by decide) (Nat.le_of_ble_eq_true rfl) [] [0, 1, 2, 3, 4, 5, 6, 7] (pPg w0 w1 h0 h1) rfl rfl rfl (fun r w' hp => ?_)
  obtain ⟨rfl, rfl⟩ := hp
  show G X mX7_size ad 0 0 (pPg w0 w1 h0 h1, 4, [(0, gr 0), (1, gi 1), (2, gi p), (3, gi w), (4, gi h)], [gi (gb (0 ≤ 1 ∧ 1 < 2))])
  refine g_if_eq hX 14 rfl rfl (gb_r _) (fun b4 => ?_) (fun b4 => ?_)
  ·
    have b4 := gb_0.mp b4
    exfalso
    omega
  ·
    have b4 := gb_n0 b4
    refine G.go hX 1 (pPg w0 w1 h0 h1, 8, [(0, gr 0), (1, gi 1), (2, gi p), (3, gi w), (4, gi h)], [gi p]) rfl trivial ?_
    refine G.callS (av := [gi p]) (st := []) hX rfl (fun l D cA => c_X7_isPage l D cA p (by first | assumption | omega)) (by decide +kernel) aX7_isPage rfl ⟨rfl, rfl⟩ (by decide) (Nat.le_of_ble_eq_true rfl) [] [0, 1, 2, 3, 4, 5, 6, 7] (pPg w0 w1 h0 h1) rfl rfl rfl (fun r w' hp => ?_)
    obtain ⟨rfl, rfl⟩ := hp
    show G X mX7_size ad 0 0 (pPg w0 w1 h0 h1, 11, [(0, gr 0), (1, gi 1), (2, gi p), (3, gi w), (4, gi h)], [gi (gb (0 ≤ p ∧ p < 20))])
    refine g_if_ne hX 24 rfl rfl (gb_r _) (fun b11 => ?_) (fun b11 => ?_)
    ·
      have b11 := gb_n0 b11
      refine G.go hX 2 (pPg w0 w1 h0 h1, 26, [(0, gr 0), (1, gi 1), (2, gi p), (3, gi w), (4, gi h)], [gi 1, gi w]) rfl trivial ?_
      refine g_icmp_lt hX 35 rfl rfl ⟨by omega, by omega⟩ ⟨by omega, by omega⟩ (fun b26 => ?_) (fun b26 => ?_)
      ·
        exact gth_I hX hE rfl rfl rfl rfl rfl (List.mem_of_getElem? (i := 8) rfl) rfl ⟨⟨Nat.le_of_ble_eq_true rfl, Nat.le_of_ble_eq_true rfl⟩, Nat.le_of_ble_eq_true rfl, Nat.le_of_ble_eq_true rfl⟩ ⟨Nat.le_of_ble_eq_true rfl, Nat.le_of_ble_eq_true rfl⟩ ⟨rfl, Or.inr ⟨rfl, b11, by omega⟩⟩
      ·
        refine G.go hX 2 (pPg w0 w1 h0 h1, 32, [(0, gr 0), (1, gi 1), (2, gi p), (3, gi w), (4, gi h)], [gi 1, gi h]) rfl trivial ?_
        refine g_icmp_ge hX 45 rfl rfl ⟨by omega, by omega⟩ ⟨by omega, by omega⟩ (fun b32 => ?_) (fun b32 => ?_)
        ·
          refine G.go hX 6 (pPg w0 w1 h0 h1, 54, [(0, gr 0), (1, gi 1), (2, gi p), (3, gi w), (4, gi h)], [gi h, gi w, gi p, gi 1, gr 24]) rfl trivial ?_
          refine G.callV (av := [gi 1, gi p, gi w, gi h]) (o := 24) (st := []) hX rfl (fun l D cA => c_X2_put_1 l D cA w0 w1 h0 h1 p w h b11) (by decide +kernel) aX2_put rfl rfl rfl ⟨rfl, rfl⟩ (by decide) (Nat.le_of_ble_eq_true rfl) [1, 2, 3, 4, 5, 6, 7] [0] [(0, gob 8 [gr 1, gr 11, gr 16, gr 21, gr 24, gr 31, gr 36])] rfl rfl rfl (fun r w' hp => ?_)
          obtain ⟨rfl, rfl⟩ := hp
          refine G.perm (pPg w0 (gu w1 p w) h0 (gu h1 p h)) [0, 1, 2, 3, 4, 5, 6, 7] rfl rfl ?_
          show G X mX7_size ad 0 0 (pPg w0 (gu w1 p w) h0 (gu h1 p h), 57, [(0, gr 0), (1, gi 1), (2, gi p), (3, gi w), (4, gi h)], [])
          refine G.go hX 3 (pPg w0 (gu w1 p w) h0 (gu h1 p h), 62, [(0, gr 0), (1, gi 1), (2, gi p), (3, gi w), (4, gi h)], [gi p, gr 24]) rfl trivial ?_
          refine G.callV (av := [gi p]) (o := 24) (st := []) hX rfl (fun l D cA => c_X2_hasOtherSizes l D cA w0 (gu w1 p w) h0 (gu h1 p h) p b11 (fun q => ⟨⟨(by first | exact gu_r1 (fun q => (hsz q).1.1) hw q | exact (hsz q).1.1), (by first | exact gu_r1 (fun q => (hsz q).1.2) hw q | exact (hsz q).1.2)⟩, (by first | exact gu_r1 (fun q => (hsz q).2.1) hh q | exact (hsz q).2.1), (by first | exact gu_r1 (fun q => (hsz q).2.2) hh q | exact (hsz q).2.2)⟩)) (by decide +kernel) aX2_hasOtherSizes rfl rfl rfl ⟨rfl, rfl⟩ (by decide) (Nat.le_of_ble_eq_true rfl) [1, 2, 3, 4, 5, 6, 7] [0] [(0, gob 8 [gr 1, gr 11, gr 16, gr 21, gr 24, gr 31, gr 36])] rfl rfl rfl (fun r w' hp => ?_)
          obtain ⟨rfl, rfl⟩ := hp
          refine G.perm (pPg w0 (gu w1 p w) h0 (gu h1 p h)) [0, 1, 2, 3, 4, 5, 6, 7] rfl rfl ?_
          show G X mX7_size ad 0 0 (pPg w0 (gu w1 p w) h0 (gu h1 p h), 65, [(0, gr 0), (1, gi 1), (2, gi p), (3, gi w), (4, gi h)], [gi (gb (gos w0 (gu w1 p w) h0 (gu h1 p h) p))])
          refine g_if_eq hX 72 rfl rfl (gb_r _) (fun b65 => ?_) (fun b65 => ?_)
          ·
            have b65 := gb_0.mp b65
            refine G.go hX 1 (pPg w0 (gu w1 p w) h0 (gu h1 p h), 73, [(0, gr 0), (1, gi 1), (2, gi p), (3, gi w), (4, gi h)], [gi 1]) rfl trivial ?_
            refine G.widen (kc' := 1) (ks' := 6) (Nat.le_of_ble_eq_true rfl) (Nat.le_of_ble_eq_true rfl) ?_
            exact g_toR hX hE (fun X hX hE => g_iret hX hE rfl ⟨by rw [gb_f b65]; rfl, rfl, b11, by omega⟩)
          ·
            have b65 := gb_n0 b65
            refine G.go hX 2 (pPg w0 (gu w1 p w) h0 (gu h1 p h), 73, [(0, gr 0), (1, gi 1), (2, gi p), (3, gi w), (4, gi h)], [gi 0]) rfl trivial ?_
            refine G.widen (kc' := 1) (ks' := 6) (Nat.le_of_ble_eq_true rfl) (Nat.le_of_ble_eq_true rfl) ?_
            exact g_toR hX hE (fun X hX hE => g_iret hX hE rfl ⟨by rw [gb_t b65]; rfl, rfl, b11, by omega⟩)
        ·
          exact gth_I hX hE rfl rfl rfl rfl rfl (List.mem_of_getElem? (i := 8) rfl) rfl ⟨⟨Nat.le_of_ble_eq_true rfl, Nat.le_of_ble_eq_true rfl⟩, Nat.le_of_ble_eq_true rfl, Nat.le_of_ble_eq_true rfl⟩ ⟨Nat.le_of_ble_eq_true rfl, Nat.le_of_ble_eq_true rfl⟩ ⟨rfl, Or.inr ⟨rfl, b11, by omega⟩⟩
    ·
      have b11 := gb_nn b11
      exact gth_A hX hE rfl rfl rfl rfl rfl (List.mem_of_getElem? (i := 7) rfl) rfl ⟨⟨Nat.le_of_ble_eq_true rfl, Nat.le_of_ble_eq_true rfl⟩, Nat.le_of_ble_eq_true rfl, Nat.le_of_ble_eq_true rfl⟩ ⟨Nat.le_of_ble_eq_true rfl, Nat.le_of_ble_eq_true rfl⟩ ⟨rfl, Or.inl ⟨rfl, b11⟩⟩
set_option maxHeartbeats 4000000 in
set_option maxRecDepth 100000 in
theorem c_X7_size_n (l : Launch) (D : va_G) (cA : Nat → ClassId) (hst : l.stackTraces = false) (w0 : Int → Int) (w1 : Int → Int) (h0 : Int → Int) (h1 : Int → Int) (s : Int) (p : Int) (w : Int) (h : Int) (hs : inR s) (hn : ¬ (0 ≤ s ∧ s < 2)) :
    gCT l D cA yX7_size mX7_size (some .int) 1 6 [gr 0, gi s, gi p, gi w, gi h] (pPg w0 w1 h0 h1) (fun r9 w9 => r9 = some (gi 0) ∧ w9 = pPg w0 w1 h0 h1 ∧ False) (fun E9 w9 => E9 = xA ∧ w9 = pPg w0 w1 h0 h1) := by
  refine gCT_of hst rfl kX7_size rfl rfl (Nat.le_of_ble_eq_true rfl) (fun X ad hX hE => ?_)
  refine G.go hX 1 (pPg w0 w1 h0 h1, 1, [(0, gr 0), (1, gi s), (2, gi p), (3, gi w), (4, gi h)], [gi s]) rfl trivial ?_
  refine G.callS (av := [gi s]) (st := []) hX rfl (fun l D cA => c_X7_isSide l D cA s (by first | assumption | omega)) (by decide +kernel) aX7_isSide rfl ⟨rfl, rfl⟩ (by decide) (Nat.le_of_ble_eq_true rfl) [] [0, 1, 2, 3, 4, 5, 6, 7] (pPg w0 w1 h0 h1) rfl rfl rfl (fun r w' hp => ?_)
  obtain ⟨rfl, rfl⟩ := hp
  show G X mX7_size ad 0 0 (pPg w0 w1 h0 h1, 4, [(0, gr 0), (1, gi s), (2, gi p), (3, gi w), (4, gi h)], [gi (gb (0 ≤ s ∧ s < 2))])
  refine g_if_eq hX 14 rfl rfl (gb_r _) (fun b4 => ?_) (fun b4 => ?_)
  ·
    have b4 := gb_0.mp b4
    exact gth_A hX hE rfl rfl rfl rfl rfl (List.mem_of_getElem? (i := 7) rfl) rfl ⟨⟨Nat.le_of_ble_eq_true rfl, Nat.le_of_ble_eq_true rfl⟩, Nat.le_of_ble_eq_true rfl, Nat.le_of_ble_eq_true rfl⟩ ⟨Nat.le_of_ble_eq_true rfl, Nat.le_of_ble_eq_true rfl⟩ ⟨rfl, rfl⟩
  ·
    have b4 := gb_n0 b4
    exfalso
    exact hn b4
set_option maxHeartbeats 4000000 in
set_option maxRecDepth 100000 in
theorem c_X7_missing (l : Launch) (D : va_G) (cA : Nat → ClassId) (hst : l.stackTraces = false) (w0 : Int → Int) (w1 : Int → Int) (h0 : Int → Int) (h1 : Int → Int) (i : Int) (hsz : ∀ q : Int, (inR (w0 q) ∧ inR (w1 q)) ∧ inR (h0 q) ∧ inR (h1 q)) (hi : inR i) :
    gCT l D cA yX7_missing mX7_missing (some .int) 1 6 [gr 0, gi i] (pPg w0 w1 h0 h1) (fun r9 w9 => ∃ (rr : Int), r9 = some (gi rr) ∧ w9 = pPg w0 w1 h0 h1 ∧ (i = -1 → rr = gsm (fun q => gb (gms w0 w1 q)) 20) ∧ (i ≠ -1 → (0 ≤ i ∧ i < gsm (fun q => gb (gms w0 w1 q)) 20) ∧ ∃ pg : Int, rr = 2 * pg + gb (0 < w0 pg) ∧ ((0 ≤ pg ∧ pg < 20) ∧ gms w0 w1 pg) ∧ gsm (fun q => gb (gms w0 w1 q)) pg.toNat = i)) (fun E9 w9 => E9 = xX ∧ w9 = pPg w0 w1 h0 h1 ∧ i ≠ -1 ∧ ¬ (0 ≤ i ∧ i < gsm (fun q => gb (gms w0 w1 q)) 20)) := by
  refine gCT_of hst rfl kX7_missing rfl rfl (Nat.le_of_ble_eq_true rfl) (fun X ad hX hE => ?_)
  refine G.go hX 2 (pPg w0 w1 h0 h1, 4, [(0, gr 0), (1, gi i)], [gr 24]) rfl trivial ?_
  refine G.callV (av := []) (o := 24) (st := []) hX rfl (fun l D cA => c_X2_countMissing l D cA w0 w1 h0 h1 (by first | assumption | omega)) (by decide +kernel) aX2_countMissing rfl rfl rfl ⟨rfl, rfl⟩ (by decide) (Nat.le_of_ble_eq_true rfl) [1, 2, 3, 4, 5, 6, 7] [0] [(0, gob 8 [gr 1, gr 11, gr 16, gr 21, gr 24, gr 31, gr 36])] rfl rfl rfl (fun r w' hp => ?_)
  obtain ⟨rfl, rfl⟩ := hp
  refine G.perm (pPg w0 w1 h0 h1) [0, 1, 2, 3, 4, 5, 6, 7] rfl rfl ?_
  show G X mX7_missing ad 0 0 (pPg w0 w1 h0 h1, 7, [(0, gr 0), (1, gi i)], [gi (gsm (fun q => gb (gms w0 w1 q)) 20)])
  have hgm := gsm_gb (fun q => gms w0 w1 q) 20
  refine G.go hX 3 (pPg w0 w1 h0 h1, 10, [(0, gr 0), (1, gi i), (2, gi (gsm (fun q => gb (gms w0 w1 q)) 20))], [gi (-1), gi i]) rfl trivial ?_
  refine g_icmp_ne hX 15 rfl rfl ⟨by omega, by omega⟩ ⟨by omega, by omega⟩ (fun b10 => ?_) (fun b10 => ?_)
  ·
    refine G.go hX 1 (pPg w0 w1 h0 h1, 16, [(0, gr 0), (1, gi i), (2, gi (gsm (fun q => gb (gms w0 w1 q)) 20))], [gi i]) rfl trivial ?_
    refine g_if_lt hX 24 rfl rfl ⟨by omega, by omega⟩ (fun b16 => ?_) (fun b16 => ?_)
    ·
      exact gth_X hX hE rfl rfl rfl rfl rfl (List.mem_of_getElem? (i := 9) rfl) rfl ⟨⟨Nat.le_of_ble_eq_true rfl, Nat.le_of_ble_eq_true rfl⟩, Nat.le_of_ble_eq_true rfl, Nat.le_of_ble_eq_true rfl⟩ ⟨Nat.le_of_ble_eq_true rfl, Nat.le_of_ble_eq_true rfl⟩ ⟨rfl, rfl, b10, by omega⟩
    ·
      refine G.go hX 2 (pPg w0 w1 h0 h1, 21, [(0, gr 0), (1, gi i), (2, gi (gsm (fun q => gb (gms w0 w1 q)) 20))], [gi (gsm (fun q => gb (gms w0 w1 q)) 20), gi i]) rfl trivial ?_
      refine g_icmp_lt hX 34 rfl rfl (by first | assumption | exact ⟨by omega, by omega⟩) (by first | assumption | exact ⟨by omega, by omega⟩) (fun b21 => ?_) (fun b21 => ?_)
      ·
        refine G.go hX 3 (pPg w0 w1 h0 h1, 39, [(0, gr 0), (1, gi i), (2, gi (gsm (fun q => gb (gms w0 w1 q)) 20))], [gi i, gr 24]) rfl trivial ?_
        refine G.callV (av := [gi i]) (o := 24) (st := []) hX rfl (fun l D cA => c_X2_tellMissing l D cA w0 w1 h0 h1 i (by first | assumption | omega) (by first | assumption | omega)) (by decide +kernel) aX2_tellMissing rfl rfl rfl ⟨rfl, rfl⟩ (by decide) (Nat.le_of_ble_eq_true rfl) [1, 2, 3, 4, 5, 6, 7] [0] [(0, gob 8 [gr 1, gr 11, gr 16, gr 21, gr 24, gr 31, gr 36])] rfl rfl rfl (fun r w' hp => ?_)
        obtain ⟨pg5, rfl, rfl, hpg5, hpi5⟩ := hp
        refine G.perm (pPg w0 w1 h0 h1) [0, 1, 2, 3, 4, 5, 6, 7] rfl rfl ?_
        show G X mX7_missing ad 0 0 (pPg w0 w1 h0 h1, 42, [(0, gr 0), (1, gi i), (2, gi (gsm (fun q => gb (gms w0 w1 q)) 20))], [gi (2 * pg5 + gb (0 < w0 pg5))])
        refine G.widen (kc' := 1) (ks' := 6) (Nat.le_of_ble_eq_true rfl) (Nat.le_of_ble_eq_true rfl) ?_
        exact g_toR hX hE (fun X hX hE => g_iret hX hE rfl ⟨_, rfl, rfl, fun h9 => absurd h9 b10, fun _ => ⟨by omega, pg5, rfl, hpg5, hpi5⟩⟩)
      ·
        exact gth_X hX hE rfl rfl rfl rfl rfl (List.mem_of_getElem? (i := 9) rfl) rfl ⟨⟨Nat.le_of_ble_eq_true rfl, Nat.le_of_ble_eq_true rfl⟩, Nat.le_of_ble_eq_true rfl, Nat.le_of_ble_eq_true rfl⟩ ⟨Nat.le_of_ble_eq_true rfl, Nat.le_of_ble_eq_true rfl⟩ ⟨rfl, rfl, b10, by omega⟩
  ·
    refine G.go hX 1 (pPg w0 w1 h0 h1, 14, [(0, gr 0), (1, gi i), (2, gi (gsm (fun q => gb (gms w0 w1 q)) 20))], [gi (gsm (fun q => gb (gms w0 w1 q)) 20)]) rfl trivial ?_
    refine G.widen (kc' := 1) (ks' := 6) (Nat.le_of_ble_eq_true rfl) (Nat.le_of_ble_eq_true rfl) ?_
    exact g_toR hX hE (fun X hX hE => g_iret hX hE rfl ⟨_, rfl, rfl, fun _ => rfl, fun h9 => absurd (by omega) h9⟩)
set_option maxHeartbeats 4000000 in
set_option maxRecDepth 100000 in
theorem c_X7_rule (l : Launch) (D : va_G) (cA : Nat → ClassId) (hst : l.stackTraces = false) (rc : Int) (fc : Int) (kd : Int → Int) (fl : Int → Int) (lm : Int → Int) (fs : Int → Int) (k : Int) (a : Int) (f : Int) (hrc : 0 ≤ rc ∧ rc ≤ 12) (hk : inR k) (ha : inR a) (hf : f = 0 ∨ f = 1) :
    gCT l D cA yX7_rule mX7_rule (some .int) 1 6 [gr 0, gi k, gi a, gi f] (pRu rc fc kd fl lm fs) (fun r9 w9 => r9 = some (gi rc) ∧ w9 = pRu (rc + 1) fc (gu kd rc k) (gu fl rc f) (gu lm rc a) fs ∧ ((0 ≤ k ∧ k < 6) ∧ 0 ≤ a) ∧ (rc < 12)) (fun E9 w9 => w9 = pRu rc fc kd fl lm fs ∧ ((E9 = xI ∧ ¬ ((0 ≤ k ∧ k < 6) ∧ 0 ≤ a)) ∨ (E9 = xU ∧ ((0 ≤ k ∧ k < 6) ∧ 0 ≤ a) ∧ rc = 12))) := by
  refine gCT_of hst rfl kX7_rule rfl rfl (Nat.le_of_ble_eq_true rfl) (fun X ad hX hE => ?_)
  refine G.go hX 1 (pRu rc fc kd fl lm fs, 1, [(0, gr 0), (1, gi k), (2, gi a), (3, gi f)], [gi k]) rfl trivial ?_
  refine g_if_lt hX 14 rfl rfl ⟨by omega, by omega⟩ (fun b1 => ?_) (fun b1 => ?_)
  ·
    exact gth_I hX hE rfl rfl rfl rfl rfl (List.mem_of_getElem? (i := 10) rfl) rfl ⟨⟨Nat.le_of_ble_eq_true rfl, Nat.le_of_ble_eq_true rfl⟩, Nat.le_of_ble_eq_true rfl, Nat.le_of_ble_eq_true rfl⟩ ⟨Nat.le_of_ble_eq_true rfl, Nat.le_of_ble_eq_true rfl⟩ ⟨rfl, Or.inl ⟨rfl, by omega⟩⟩
  ·
    refine G.go hX 2 (pRu rc fc kd fl lm fs, 7, [(0, gr 0), (1, gi k), (2, gi a), (3, gi f)], [gi 6, gi k]) rfl trivial ?_
    refine g_icmp_ge hX 14 rfl rfl ⟨by omega, by omega⟩ ⟨by omega, by omega⟩ (fun b7 => ?_) (fun b7 => ?_)
    ·
      exact gth_I hX hE rfl rfl rfl rfl rfl (List.mem_of_getElem? (i := 10) rfl) rfl ⟨⟨Nat.le_of_ble_eq_true rfl, Nat.le_of_ble_eq_true rfl⟩, Nat.le_of_ble_eq_true rfl, Nat.le_of_ble_eq_true rfl⟩ ⟨Nat.le_of_ble_eq_true rfl, Nat.le_of_ble_eq_true rfl⟩ ⟨rfl, Or.inl ⟨rfl, by omega⟩⟩
    ·
      refine G.go hX 1 (pRu rc fc kd fl lm fs, 11, [(0, gr 0), (1, gi k), (2, gi a), (3, gi f)], [gi a]) rfl trivial ?_
      refine g_if_ge hX 24 rfl rfl ⟨by omega, by omega⟩ (fun b11 => ?_) (fun b11 => ?_)
      ·
        refine G.go hX 4 (pRu rc fc kd fl lm fs, 33, [(0, gr 0), (1, gi k), (2, gi a), (3, gi f)], [gi 12, gi rc]) rfl trivial ?_
        refine g_icmp_lt hX 46 rfl rfl ⟨by omega, by omega⟩ ⟨by omega, by omega⟩ (fun b33 => ?_) (fun b33 => ?_)
        ·
          refine G.go hX 5 (pRu rc fc kd fl lm fs, 53, [(0, gr 0), (1, gi k), (2, gi a), (3, gi f)], [gi f, gi a, gi k, gr 31]) rfl trivial ?_
          refine G.callV (av := [gi k, gi a, gi f]) (o := 31) (st := []) hX rfl (fun l D cA => c_X3_add l D cA rc fc kd fl lm fs k a f (by first | assumption | omega) (by first | assumption | omega)) (by decide +kernel) aX3_add rfl rfl rfl ⟨rfl, rfl⟩ (by decide) (Nat.le_of_ble_eq_true rfl) [1, 2, 3, 4, 5] [0] [(0, gob 8 [gr 1, gr 11, gr 16, gr 21, gr 24, gr 31, gr 36])] rfl rfl rfl (fun r w' hp => ?_)
          obtain ⟨rfl, rfl⟩ := hp
          refine G.perm (pRu (rc + 1) fc (gu kd rc k) (gu fl rc f) (gu lm rc a) fs) [0, 1, 2, 3, 4, 5] rfl rfl ?_
          show G X mX7_rule ad 0 0 (pRu (rc + 1) fc (gu kd rc k) (gu fl rc f) (gu lm rc a) fs, 56, [(0, gr 0), (1, gi k), (2, gi a), (3, gi f)], [gi rc])
          refine G.widen (kc' := 1) (ks' := 6) (Nat.le_of_ble_eq_true rfl) (Nat.le_of_ble_eq_true rfl) ?_
          exact g_toR hX hE (fun X hX hE => g_iret hX hE rfl ⟨rfl, rfl, (by omega), (by omega)⟩)
        ·
          exact gth_U hX hE rfl rfl rfl rfl rfl (List.mem_of_getElem? (i := 11) rfl) rfl ⟨⟨Nat.le_of_ble_eq_true rfl, Nat.le_of_ble_eq_true rfl⟩, Nat.le_of_ble_eq_true rfl, Nat.le_of_ble_eq_true rfl⟩ ⟨Nat.le_of_ble_eq_true rfl, Nat.le_of_ble_eq_true rfl⟩ ⟨rfl, Or.inr ⟨rfl, by omega, by omega⟩⟩
      ·
        exact gth_I hX hE rfl rfl rfl rfl rfl (List.mem_of_getElem? (i := 10) rfl) rfl ⟨⟨Nat.le_of_ble_eq_true rfl, Nat.le_of_ble_eq_true rfl⟩, Nat.le_of_ble_eq_true rfl, Nat.le_of_ble_eq_true rfl⟩ ⟨Nat.le_of_ble_eq_true rfl, Nat.le_of_ble_eq_true rfl⟩ ⟨rfl, Or.inl ⟨rfl, by omega⟩⟩
set_option maxHeartbeats 4000000 in
set_option maxRecDepth 100000 in
theorem c_X7_fault (l : Launch) (D : va_G) (cA : Nat → ClassId) (hst : l.stackTraces = false) (rc : Int) (fc : Int) (kd : Int → Int) (fl : Int → Int) (lm : Int → Int) (fs : Int → Int) (i : Int) (k : Int) (hfc : 0 ≤ fc ∧ fc ≤ 12) (hi : inR i) (hk : inR k) :
    gCT l D cA yX7_fault mX7_fault (some .int) 1 6 [gr 0, gi i, gi k] (pRu rc fc kd fl lm fs) (fun r9 w9 => r9 = some (gi (fs (i * 3 + k))) ∧ w9 = pRu rc fc kd fl lm fs ∧ ((0 ≤ i ∧ i < fc) ∧ 0 ≤ k ∧ k < 3)) (fun E9 w9 => E9 = xX ∧ w9 = pRu rc fc kd fl lm fs ∧ ¬ ((0 ≤ i ∧ i < fc) ∧ 0 ≤ k ∧ k < 3)) := by
  refine gCT_of hst rfl kX7_fault rfl rfl (Nat.le_of_ble_eq_true rfl) (fun X ad hX hE => ?_)
  refine G.go hX 1 (pRu rc fc kd fl lm fs, 1, [(0, gr 0), (1, gi i), (2, gi k)], [gi i]) rfl trivial ?_
  refine g_if_lt hX 24 rfl rfl ⟨by omega, by omega⟩ (fun b1 => ?_) (fun b1 => ?_)
  ·
    exact gth_X hX hE rfl rfl rfl rfl rfl (List.mem_of_getElem? (i := 12) rfl) rfl ⟨⟨Nat.le_of_ble_eq_true rfl, Nat.le_of_ble_eq_true rfl⟩, Nat.le_of_ble_eq_true rfl, Nat.le_of_ble_eq_true rfl⟩ ⟨Nat.le_of_ble_eq_true rfl, Nat.le_of_ble_eq_true rfl⟩ ⟨rfl, rfl, by omega⟩
  ·
    refine G.go hX 4 (pRu rc fc kd fl lm fs, 12, [(0, gr 0), (1, gi i), (2, gi k)], [gi fc, gi i]) rfl trivial ?_
    refine g_icmp_ge hX 24 rfl rfl (by first | assumption | exact ⟨by omega, by omega⟩) (by first | assumption | exact ⟨by omega, by omega⟩) (fun b12 => ?_) (fun b12 => ?_)
    ·
      exact gth_X hX hE rfl rfl rfl rfl rfl (List.mem_of_getElem? (i := 12) rfl) rfl ⟨⟨Nat.le_of_ble_eq_true rfl, Nat.le_of_ble_eq_true rfl⟩, Nat.le_of_ble_eq_true rfl, Nat.le_of_ble_eq_true rfl⟩ ⟨Nat.le_of_ble_eq_true rfl, Nat.le_of_ble_eq_true rfl⟩ ⟨rfl, rfl, by omega⟩
    ·
      refine G.go hX 1 (pRu rc fc kd fl lm fs, 16, [(0, gr 0), (1, gi i), (2, gi k)], [gi k]) rfl trivial ?_
      refine g_if_lt hX 24 rfl rfl ⟨by omega, by omega⟩ (fun b16 => ?_) (fun b16 => ?_)
      ·
        exact gth_X hX hE rfl rfl rfl rfl rfl (List.mem_of_getElem? (i := 12) rfl) rfl ⟨⟨Nat.le_of_ble_eq_true rfl, Nat.le_of_ble_eq_true rfl⟩, Nat.le_of_ble_eq_true rfl, Nat.le_of_ble_eq_true rfl⟩ ⟨Nat.le_of_ble_eq_true rfl, Nat.le_of_ble_eq_true rfl⟩ ⟨rfl, rfl, by omega⟩
      ·
        refine G.go hX 2 (pRu rc fc kd fl lm fs, 21, [(0, gr 0), (1, gi i), (2, gi k)], [gi 3, gi k]) rfl trivial ?_
        refine g_icmp_lt hX 34 rfl rfl ⟨by omega, by omega⟩ ⟨by omega, by omega⟩ (fun b21 => ?_) (fun b21 => ?_)
        ·
          refine G.go hX 4 (pRu rc fc kd fl lm fs, 40, [(0, gr 0), (1, gi i), (2, gi k)], [gi k, gi i, gr 31]) rfl trivial ?_
          refine G.callV (av := [gi i, gi k]) (o := 31) (st := []) hX rfl (fun l D cA => c_X3_tellFault l D cA rc fc kd fl lm fs i k (by first | assumption | omega)) (by decide +kernel) aX3_tellFault rfl rfl rfl ⟨rfl, rfl⟩ (by decide) (Nat.le_of_ble_eq_true rfl) [1, 2, 3, 4, 5] [0] [(0, gob 8 [gr 1, gr 11, gr 16, gr 21, gr 24, gr 31, gr 36])] rfl rfl rfl (fun r w' hp => ?_)
          obtain ⟨rfl, rfl⟩ := hp
          refine G.perm (pRu rc fc kd fl lm fs) [0, 1, 2, 3, 4, 5] rfl rfl ?_
          show G X mX7_fault ad 0 0 (pRu rc fc kd fl lm fs, 43, [(0, gr 0), (1, gi i), (2, gi k)], [gi (fs (i * 3 + k))])
          refine G.widen (kc' := 1) (ks' := 6) (Nat.le_of_ble_eq_true rfl) (Nat.le_of_ble_eq_true rfl) ?_
          exact g_toR hX hE (fun X hX hE => g_iret hX hE rfl ⟨rfl, rfl, (by omega)⟩)
        ·
          exact gth_X hX hE rfl rfl rfl rfl rfl (List.mem_of_getElem? (i := 12) rfl) rfl ⟨⟨Nat.le_of_ble_eq_true rfl, Nat.le_of_ble_eq_true rfl⟩, Nat.le_of_ble_eq_true rfl, Nat.le_of_ble_eq_true rfl⟩ ⟨Nat.le_of_ble_eq_true rfl, Nat.le_of_ble_eq_true rfl⟩ ⟨rfl, rfl, by omega⟩
set_option maxHeartbeats 4000000 in
set_option maxRecDepth 100000 in
theorem c_X7_approve (l : Launch) (D : va_G) (cA : Nat → ClassId) (hst : l.stackTraces = false) (ct : Int → Int) (ed : Int → Int) (ppl : Int → Int → Int) (p : Int) (e : Int) (who : Int) (hp : inR p) (hct : ∀ q : Int, 0 ≤ ct q ∧ ct q ≤ 6) (hed : ∀ q : Int, inR (ed q)) (he : inR e) (hq : ∀ p j : Int, inR (ppl p j)) (hw : inR who) :
    gCT l D cA yX7_approve mX7_approve (some .int) 1 6 [gr 0, gi p, gi e, gi who] (pAp ct ed ppl) (fun r9 w9 => ∃ (rr : Int) (ct2 : Int → Int) (ed2 : Int → Int) (ppl2 : Int → Int → Int), r9 = some (gi rr) ∧ w9 = pAp ct2 ed2 ppl2 ∧ ((0 ≤ p ∧ p < 20) ∧ 0 ≤ e) ∧ (((0 < ct p ∧ e < ed p) ∨ (gLt ct ed p e ∧ ∃ j : Int, 0 ≤ j ∧ j < ct p ∧ ppl p j = who)) → rr = 0 ∧ ct2 = ct ∧ ed2 = ed ∧ ppl2 = ppl) ∧ (¬ ((0 < ct p ∧ e < ed p) ∨ (gLt ct ed p e ∧ ∃ j : Int, 0 ≤ j ∧ j < ct p ∧ ppl p j = who)) → ¬ (gLt ct ed p e ∧ 6 ≤ ct p) ∧ rr = 1 ∧ ∃ k2 : Int, k2 = (if gb (gLt ct ed p e) = 1 then ct p else 0) ∧ ct2 = gu ct p (k2 + 1) ∧ ed2 = gu ed p e ∧ ppl2 = gu2 ppl p k2 who)) (fun E9 w9 => w9 = pAp ct ed ppl ∧ ((E9 = xA ∧ ¬ (0 ≤ p ∧ p < 20)) ∨ (E9 = xI ∧ (0 ≤ p ∧ p < 20) ∧ e < 0) ∨ (E9 = xU ∧ (0 ≤ p ∧ p < 20) ∧ 0 ≤ e ∧ ¬ ((0 < ct p ∧ e < ed p) ∨ (gLt ct ed p e ∧ ∃ j : Int, 0 ≤ j ∧ j < ct p ∧ ppl p j = who)) ∧ gLt ct ed p e ∧ 6 ≤ ct p))) := by
  refine gCT_of hst rfl kX7_approve rfl rfl (Nat.le_of_ble_eq_true rfl) (fun X ad hX hE => ?_)
  refine G.go hX 1 (pAp ct ed ppl, 1, [(0, gr 0), (1, gi p), (2, gi e), (3, gi who)], [gi p]) rfl trivial ?_
  refine G.callS (av := [gi p]) (st := []) hX rfl (fun l D cA => c_X7_isPage l D cA p (by first | assumption | omega)) (by decide +kernel) aX7_isPage rfl ⟨rfl, rfl⟩ (by decide) (Nat.le_of_ble_eq_true rfl) [] [0, 1, 2, 3, 4, 5, 6, 7, 8, 9, 10, 11, 12, 13, 14, 15, 16, 17, 18, 19, 20, 21, 22, 23, 24] (pAp ct ed ppl) rfl rfl rfl (fun r w' hp => ?_)
  obtain ⟨rfl, rfl⟩ := hp
  show G X mX7_approve ad 0 0 (pAp ct ed ppl, 4, [(0, gr 0), (1, gi p), (2, gi e), (3, gi who)], [gi (gb (0 ≤ p ∧ p < 20))])
  refine g_if_ne hX 17 rfl rfl (gb_r _) (fun b4 => ?_) (fun b4 => ?_)
  ·
    have b4 := gb_n0 b4
    refine G.go hX 1 (pAp ct ed ppl, 18, [(0, gr 0), (1, gi p), (2, gi e), (3, gi who)], [gi e]) rfl trivial ?_
    refine g_if_ge hX 31 rfl rfl ⟨by omega, by omega⟩ (fun b18 => ?_) (fun b18 => ?_)
    ·
      refine G.go hX 4 (pAp ct ed ppl, 37, [(0, gr 0), (1, gi p), (2, gi e), (3, gi who)], [gi e, gi p, gr 36]) rfl trivial ?_
      refine G.callV (av := [gi p, gi e]) (o := 36) (st := []) hX rfl (fun l D cA => c_X0_isOlder_x l D cA ct ed ppl p e b4 (by first | assumption | omega) (by first | assumption | omega) (by first | assumption | omega)) (by decide +kernel) aX0_isOlder rfl rfl rfl ⟨rfl, rfl⟩ (by decide) (Nat.le_of_ble_eq_true rfl) [1, 2, 3, 4, 5, 6, 7, 8, 9, 10, 11, 12, 13, 14, 15, 16, 17, 18, 19, 20, 21, 22, 23, 24] [0] [(0, gob 8 [gr 1, gr 11, gr 16, gr 21, gr 24, gr 31, gr 36])] rfl rfl rfl (fun r w' hp => ?_)
      obtain ⟨rfl, rfl⟩ := hp
      refine G.perm (pAp ct ed ppl) [0, 1, 2, 3, 4, 5, 6, 7, 8, 9, 10, 11, 12, 13, 14, 15, 16, 17, 18, 19, 20, 21, 22, 23, 24] rfl rfl ?_
      show G X mX7_approve ad 0 0 (pAp ct ed ppl, 40, [(0, gr 0), (1, gi p), (2, gi e), (3, gi who)], [gi (gb (0 < ct p ∧ e < ed p))])
      refine g_if_ne hX 56 rfl rfl (gb_r _) (fun b40 => ?_) (fun b40 => ?_)
      ·
        have b40 := gb_n0 b40
        refine G.go hX 1 (pAp ct ed ppl, 57, [(0, gr 0), (1, gi p), (2, gi e), (3, gi who)], [gi 0]) rfl trivial ?_
        refine G.widen (kc' := 1) (ks' := 6) (Nat.le_of_ble_eq_true rfl) (Nat.le_of_ble_eq_true rfl) ?_
        exact g_toR hX hE (fun X hX hE => g_iret hX hE rfl ⟨0, ct, ed, ppl, rfl, rfl, ⟨b4, by omega⟩, fun _ => ⟨rfl, rfl, rfl, rfl⟩, fun h9 => absurd (Or.inl b40) h9⟩)
      ·
        have b40 := gb_nn b40
        refine G.go hX 5 (pAp ct ed ppl, 50, [(0, gr 0), (1, gi p), (2, gi e), (3, gi who)], [gi who, gi e, gi p, gr 36]) rfl trivial ?_
        refine G.callV (av := [gi p, gi e, gi who]) (o := 36) (st := []) hX rfl (fun l D cA => c_X0_has_x l D cA ct ed ppl p e who b4 (by first | assumption | omega) (by first | assumption | omega) (by first | assumption | omega) (by first | assumption | omega) (by first | assumption | omega)) (by decide +kernel) aX0_has rfl rfl rfl ⟨rfl, rfl⟩ (by decide) (Nat.le_of_ble_eq_true rfl) [1, 2, 3, 4, 5, 6, 7, 8, 9, 10, 11, 12, 13, 14, 15, 16, 17, 18, 19, 20, 21, 22, 23, 24] [0] [(0, gob 8 [gr 1, gr 11, gr 16, gr 21, gr 24, gr 31, gr 36])] rfl rfl rfl (fun r w' hp => ?_)
        obtain ⟨rfl, rfl⟩ := hp
        refine G.perm (pAp ct ed ppl) [0, 1, 2, 3, 4, 5, 6, 7, 8, 9, 10, 11, 12, 13, 14, 15, 16, 17, 18, 19, 20, 21, 22, 23, 24] rfl rfl ?_
        show G X mX7_approve ad 0 0 (pAp ct ed ppl, 53, [(0, gr 0), (1, gi p), (2, gi e), (3, gi who)], [gi (gb (gLt ct ed p e ∧ ∃ j : Int, 0 ≤ j ∧ j < ct p ∧ ppl p j = who))])
        refine g_if_eq hX 58 rfl rfl (gb_r _) (fun b53 => ?_) (fun b53 => ?_)
        ·
          have b53 := gb_0.mp b53
          refine G.go hX 4 (pAp ct ed ppl, 64, [(0, gr 0), (1, gi p), (2, gi e), (3, gi who)], [gi e, gi p, gr 36]) rfl trivial ?_
          refine G.callV (av := [gi p, gi e]) (o := 36) (st := []) hX rfl (fun l D cA => c_X0_isFull_x l D cA ct ed ppl p e b4 (by first | assumption | omega) (by first | assumption | omega) (by first | assumption | omega)) (by decide +kernel) aX0_isFull rfl rfl rfl ⟨rfl, rfl⟩ (by decide) (Nat.le_of_ble_eq_true rfl) [1, 2, 3, 4, 5, 6, 7, 8, 9, 10, 11, 12, 13, 14, 15, 16, 17, 18, 19, 20, 21, 22, 23, 24] [0] [(0, gob 8 [gr 1, gr 11, gr 16, gr 21, gr 24, gr 31, gr 36])] rfl rfl rfl (fun r w' hp => ?_)
          obtain ⟨rfl, rfl⟩ := hp
          refine G.perm (pAp ct ed ppl) [0, 1, 2, 3, 4, 5, 6, 7, 8, 9, 10, 11, 12, 13, 14, 15, 16, 17, 18, 19, 20, 21, 22, 23, 24] rfl rfl ?_
          show G X mX7_approve ad 0 0 (pAp ct ed ppl, 67, [(0, gr 0), (1, gi p), (2, gi e), (3, gi who)], [gi (gb (gLt ct ed p e ∧ 6 ≤ ct p))])
          refine g_if_eq hX 80 rfl rfl (gb_r _) (fun b67 => ?_) (fun b67 => ?_)
          ·
            have b67 := gb_0.mp b67
            refine G.go hX 5 (pAp ct ed ppl, 87, [(0, gr 0), (1, gi p), (2, gi e), (3, gi who)], [gi who, gi e, gi p, gr 36]) rfl trivial ?_
            refine G.callV (av := [gi p, gi e, gi who]) (o := 36) (st := []) hX rfl (fun l D cA => c_X0_add_x l D cA ct ed ppl p e who b4 (by first | assumption | omega) (by first | assumption | omega) (by first | assumption | omega) (fun h9 => Classical.byContradiction fun h8 => b67 ⟨h9, by omega⟩)) (by decide +kernel) aX0_add rfl rfl rfl ⟨rfl, rfl⟩ (by decide) (Nat.le_of_ble_eq_true rfl) [1, 2, 3, 4, 5, 6, 7, 8, 9, 10, 11, 12, 13, 14, 15, 16, 17, 18, 19, 20, 21, 22, 23, 24] [0] [(0, gob 8 [gr 1, gr 11, gr 16, gr 21, gr 24, gr 31, gr 36])] rfl rfl rfl (fun r w' hp => ?_)
            obtain ⟨k5, rfl, rfl, hk5⟩ := hp
            refine G.perm (pAp (gu ct p (k5 + 1)) (gu ed p e) (gu2 ppl p k5 who)) [0, 1, 2, 3, 4, 5, 6, 7, 8, 9, 10, 11, 12, 13, 14, 15, 16, 17, 18, 19, 20, 21, 22, 23, 24] rfl rfl ?_
            show G X mX7_approve ad 0 0 (pAp (gu ct p (k5 + 1)) (gu ed p e) (gu2 ppl p k5 who), 90, [(0, gr 0), (1, gi p), (2, gi e), (3, gi who)], [])
            refine G.go hX 1 (pAp (gu ct p (k5 + 1)) (gu ed p e) (gu2 ppl p k5 who), 91, [(0, gr 0), (1, gi p), (2, gi e), (3, gi who)], [gi 1]) rfl trivial ?_
            refine G.widen (kc' := 1) (ks' := 6) (Nat.le_of_ble_eq_true rfl) (Nat.le_of_ble_eq_true rfl) ?_
            exact g_toR hX hE (fun X hX hE => g_iret hX hE rfl ⟨1, _, _, _, rfl, rfl, ⟨b4, by omega⟩, fun h9 => absurd h9 (fun h8 => h8.elim b40 b53), fun _ => ⟨b67, rfl, k5, hk5, rfl, rfl, rfl⟩⟩)
          ·
            have b67 := gb_n0 b67
            exact gth_U hX hE rfl rfl rfl rfl rfl (List.mem_of_getElem? (i := 15) rfl) rfl ⟨⟨Nat.le_of_ble_eq_true rfl, Nat.le_of_ble_eq_true rfl⟩, Nat.le_of_ble_eq_true rfl, Nat.le_of_ble_eq_true rfl⟩ ⟨Nat.le_of_ble_eq_true rfl, Nat.le_of_ble_eq_true rfl⟩ ⟨rfl, Or.inr (Or.inr ⟨rfl, b4, by omega, fun h8 => h8.elim b40 b53, b67⟩)⟩
        ·
          have b53 := gb_n0 b53
          refine G.go hX 1 (pAp ct ed ppl, 57, [(0, gr 0), (1, gi p), (2, gi e), (3, gi who)], [gi 0]) rfl trivial ?_
          refine G.widen (kc' := 1) (ks' := 6) (Nat.le_of_ble_eq_true rfl) (Nat.le_of_ble_eq_true rfl) ?_
          exact g_toR hX hE (fun X hX hE => g_iret hX hE rfl ⟨0, ct, ed, ppl, rfl, rfl, ⟨b4, by omega⟩, fun _ => ⟨rfl, rfl, rfl, rfl⟩, fun h9 => absurd (Or.inr b53) h9⟩)
    ·
      exact gth_I hX hE rfl rfl rfl rfl rfl (List.mem_of_getElem? (i := 14) rfl) rfl ⟨⟨Nat.le_of_ble_eq_true rfl, Nat.le_of_ble_eq_true rfl⟩, Nat.le_of_ble_eq_true rfl, Nat.le_of_ble_eq_true rfl⟩ ⟨Nat.le_of_ble_eq_true rfl, Nat.le_of_ble_eq_true rfl⟩ ⟨rfl, Or.inr (Or.inl ⟨rfl, b4, by omega⟩)⟩
  ·
    have b4 := gb_nn b4
    exact gth_A hX hE rfl rfl rfl rfl rfl (List.mem_of_getElem? (i := 13) rfl) rfl ⟨⟨Nat.le_of_ble_eq_true rfl, Nat.le_of_ble_eq_true rfl⟩, Nat.le_of_ble_eq_true rfl, Nat.le_of_ble_eq_true rfl⟩ ⟨Nat.le_of_ble_eq_true rfl, Nat.le_of_ble_eq_true rfl⟩ ⟨rfl, Or.inl ⟨rfl, b4⟩⟩
set_option maxHeartbeats 4000000 in
set_option maxRecDepth 100000 in
theorem c_X7_approved (l : Launch) (D : va_G) (cA : Nat → ClassId) (hst : l.stackTraces = false) (ct : Int → Int) (ed : Int → Int) (ppl : Int → Int → Int) (p : Int) (hp : inR p) (hct : ∀ q : Int, 0 ≤ ct q ∧ ct q ≤ 6) :
    gCT l D cA yX7_approved mX7_approved (some .boolean) 1 6 [gr 0, gi p] (pAp ct ed ppl) (fun r9 w9 => r9 = some (gi (gb (2 ≤ ct p))) ∧ w9 = pAp ct ed ppl ∧ (0 ≤ p ∧ p < 20)) (fun E9 w9 => E9 = xA ∧ w9 = pAp ct ed ppl ∧ ¬ (0 ≤ p ∧ p < 20)) := by
  refine gCT_of hst rfl kX7_approved rfl rfl (Nat.le_of_ble_eq_true rfl) (fun X ad hX hE => ?_)
  refine G.go hX 1 (pAp ct ed ppl, 1, [(0, gr 0), (1, gi p)], [gi p]) rfl trivial ?_
  refine G.callS (av := [gi p]) (st := []) hX rfl (fun l D cA => c_X7_isPage l D cA p (by first | assumption | omega)) (by decide +kernel) aX7_isPage rfl ⟨rfl, rfl⟩ (by decide) (Nat.le_of_ble_eq_true rfl) [] [0, 1, 2, 3, 4, 5, 6, 7, 8, 9, 10, 11, 12, 13, 14, 15, 16, 17, 18, 19, 20, 21, 22, 23, 24] (pAp ct ed ppl) rfl rfl rfl (fun r w' hp => ?_)
  obtain ⟨rfl, rfl⟩ := hp
  show G X mX7_approved ad 0 0 (pAp ct ed ppl, 4, [(0, gr 0), (1, gi p)], [gi (gb (0 ≤ p ∧ p < 20))])
  refine g_if_ne hX 17 rfl rfl (gb_r _) (fun b4 => ?_) (fun b4 => ?_)
  ·
    have b4 := gb_n0 b4
    refine G.go hX 3 (pAp ct ed ppl, 24, [(0, gr 0), (1, gi p)], [gr 37]) rfl trivial ?_
    have hc9 := hct p
    refine G.go hX 3 (pAp ct ed ppl, 27, [(0, gr 0), (1, gi p)], [gi 2, gi (ct p)]) rfl ?_ ?_
    · refine ⟨?_, trivial⟩
      · omega
    refine g_icmp_lt hX 34 rfl rfl ⟨by omega, by omega⟩ ⟨by omega, by omega⟩ (fun b27 => ?_) (fun b27 => ?_)
    ·
      refine G.go hX 1 (pAp ct ed ppl, 35, [(0, gr 0), (1, gi p)], [gi 0]) rfl trivial ?_
      refine G.widen (kc' := 1) (ks' := 6) (Nat.le_of_ble_eq_true rfl) (Nat.le_of_ble_eq_true rfl) ?_
      exact g_toR hX hE (fun X hX hE => g_zret hX hE rfl (Or.inl rfl) ⟨(congrArg (fun z => some (gi z)) (gb_f (by first | omega | exact b4)).symm), rfl, (by first | omega | exact b4)⟩)
    ·
      refine G.go hX 2 (pAp ct ed ppl, 35, [(0, gr 0), (1, gi p)], [gi 1]) rfl trivial ?_
      refine G.widen (kc' := 1) (ks' := 6) (Nat.le_of_ble_eq_true rfl) (Nat.le_of_ble_eq_true rfl) ?_
      exact g_toR hX hE (fun X hX hE => g_zret hX hE rfl (Or.inr rfl) ⟨(congrArg (fun z => some (gi z)) (gb_t (by first | omega | exact b4)).symm), rfl, (by first | omega | exact b4)⟩)
  ·
    have b4 := gb_nn b4
    exact gth_A hX hE rfl rfl rfl rfl rfl (List.mem_of_getElem? (i := 13) rfl) rfl ⟨⟨Nat.le_of_ble_eq_true rfl, Nat.le_of_ble_eq_true rfl⟩, Nat.le_of_ble_eq_true rfl, Nat.le_of_ble_eq_true rfl⟩ ⟨Nat.le_of_ble_eq_true rfl, Nat.le_of_ble_eq_true rfl⟩ ⟨rfl, rfl, b4⟩
