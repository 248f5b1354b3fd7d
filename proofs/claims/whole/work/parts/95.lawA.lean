/-! the law's wrappers: one post for answer and throw -/
theorem gCW.mono {l : Launch} {D : va_G} {cA : Nat → ClassId} {y : MethodName} {mm : gM} {hh : List (Nat × Nat × Nat × Nat)} {ret : Option FieldType} {mc ms : Nat} {av : List gV} {w : gW} {post post' : Option gV → gW → Prop} (h : gCW l D cA y mm hh ret mc ms av w post) (hq : ∀ r w', post r w' → post' r w') : gCW l D cA y mm hh ret mc ms av w post' := fun ad sz =>
  Jvm.Free.MetFree.mono (h ad sz) (fun _ _ h => h) (fun _ _ _ _ _ h => h) (fun a s o s' _ hQ => by
    obtain ⟨⟨⟨r, w9, e, hp, q⟩, hF⟩, hL⟩ := hQ
    exact ⟨⟨⟨r, w9, e, hq r w9 hp, q⟩, hF⟩, hL⟩)
theorem gmsk (a : Int32) (n : Nat) (hn : n < 2147483648) : 0 ≤ (a &&& Int32.ofInt (n : Int)).toInt ∧ (a &&& Int32.ofInt (n : Int)).toInt ≤ n := by
  have h1 : (a &&& Int32.ofInt (n : Int)).toBitVec.toNat ≤ n := by
    rw [show (a &&& Int32.ofInt (n : Int)).toBitVec = a.toBitVec &&& BitVec.ofInt 32 (n : Int) from rfl, BitVec.toNat_and]
    refine Nat.le_trans Nat.and_le_right ?_
    rw [BitVec.toNat_ofInt]
    omega
  have h2 : (a &&& Int32.ofInt (n : Int)).toInt = ((a &&& Int32.ofInt (n : Int)).toBitVec.toNat : Int) := BitVec.toInt_eq_toNat_of_lt (by omega)
  omega
theorem gmsk255 (v : Int) : 0 ≤ (Int32.ofInt v &&& Int32.ofInt 255).toInt ∧ (Int32.ofInt v &&& Int32.ofInt 255).toInt ≤ 255 := gmsk (Int32.ofInt v) 255 (by omega)
theorem gmsk15 (v : Int) : 0 ≤ (Int32.ofInt v &&& Int32.ofInt 15).toInt ∧ (Int32.ofInt v &&& Int32.ofInt 15).toInt ≤ 15 := gmsk (Int32.ofInt v) 15 (by omega)
theorem gso {a b : Int} (h : (some (gi a) : Option gV) = some (gi b)) : a = b := Sum.inl.inj (Option.some.inj h)
theorem gx1 {E : String} {k a : Int} (h : (E, k) ∈ [(E, a)]) : k = a := by
  simp only [List.mem_cons, Prod.mk.injEq, List.not_mem_nil, or_false] at h
  exact h.2
theorem gxne : (xA ≠ xI ∧ xA ≠ xU) ∧ (xI ≠ xA ∧ xI ≠ xU) ∧ xU ≠ xA ∧ xU ≠ xI := by decide +kernel
theorem gx3A {k : Int} (h : (xA, k) ∈ [(xA, (1 : Int)), (xI, 2), (xU, 3)]) : k = 1 := by
  simp only [List.mem_cons, Prod.mk.injEq, List.not_mem_nil, or_false] at h
  rcases h with h | h | h
  · exact h.2
  · exact absurd h.1 gxne.1.1
  · exact absurd h.1 gxne.1.2
theorem gx3I {k : Int} (h : (xI, k) ∈ [(xA, (1 : Int)), (xI, 2), (xU, 3)]) : k = 2 := by
  simp only [List.mem_cons, Prod.mk.injEq, List.not_mem_nil, or_false] at h
  rcases h with h | h | h
  · exact absurd h.1 gxne.2.1.1
  · exact h.2
  · exact absurd h.1 gxne.2.1.2
theorem gx3U {k : Int} (h : (xU, k) ∈ [(xA, (1 : Int)), (xI, 2), (xU, 3)]) : k = 3 := by
  simp only [List.mem_cons, Prod.mk.injEq, List.not_mem_nil, or_false] at h
  rcases h with h | h | h
  · exact absurd h.1 gxne.2.2.1
  · exact absurd h.1 gxne.2.2.2
  · exact h.2
theorem gx2A {k : Int} (h : (xA, k) ∈ [(xA, (1 : Int)), (xI, 2)]) : k = 1 := by
  simp only [List.mem_cons, Prod.mk.injEq, List.not_mem_nil, or_false] at h
  rcases h with h | h
  · exact h.2
  · exact absurd h.1 gxne.1.1
theorem gx2I {k : Int} (h : (xI, k) ∈ [(xA, (1 : Int)), (xI, 2)]) : k = 2 := by
  simp only [List.mem_cons, Prod.mk.injEq, List.not_mem_nil, or_false] at h
  rcases h with h | h
  · exact absurd h.1 gxne.2.1.1
  · exact h.2
theorem gx2J {k : Int} (h : (xI, k) ∈ [(xI, (1 : Int)), (xU, 2)]) : k = 1 := by
  simp only [List.mem_cons, Prod.mk.injEq, List.not_mem_nil, or_false] at h
  rcases h with h | h
  · exact h.2
  · exact absurd h.1 gxne.2.1.2
theorem gx2U {k : Int} (h : (xU, k) ∈ [(xI, (1 : Int)), (xU, 2)]) : k = 2 := by
  simp only [List.mem_cons, Prod.mk.injEq, List.not_mem_nil, or_false] at h
  rcases h with h | h
  · exact absurd h.1 gxne.2.2.2
  · exact h.2
def l_point (W : Nat) (H : Nat) (M : Nat) (P : Nat) (c : Int) (wt : Int) (rows : Int → Int) (gro : Int → Int) (wx : Int → Int) (wy : Int → Int) (mk : Int → Int) (dp : Int) (fa : Int) (ne : Int) (sl : Int) (p0 : Int → Int) (p1 : Int → Int) (s : Int) (x : Int) (y : Int) (v : Int) (z9 kk : Int) (sl2 : Int) (p02 : Int → Int) (p12 : Int → Int) : Prop := (kk = 0 ∧ s = 0 ∧ ((0 ≤ x ∧ x < W) ∧ 0 ≤ y ∧ y < H) ∧ z9 = p0 (y * W + x) ∧ sl2 = 1 ∧ p02 = gu p0 (y * W + x) (Int32.ofInt v &&& Int32.ofInt 255).toInt ∧ p12 = p1) ∨ (kk = 0 ∧ s = 1 ∧ ((0 ≤ x ∧ x < W) ∧ 0 ≤ y ∧ y < H) ∧ z9 = p1 (y * W + x) ∧ sl2 = 1 ∧ p02 = p0 ∧ p12 = gu p1 (y * W + x) (Int32.ofInt v &&& Int32.ofInt 255).toInt) ∨ (kk = 1 ∧ ¬ ((0 ≤ s ∧ s ≤ 1) ∧ ((0 ≤ x ∧ x < W) ∧ 0 ≤ y ∧ y < H)) ∧ sl2 = sl ∧ p02 = p0 ∧ p12 = p1)
theorem wl_point (l : Launch) (D : va_G) (cA : Nat → ClassId) (hst : l.stackTraces = false) (W : Nat) (H : Nat) (M : Nat) (P : Nat) (c : Int) (wt : Int) (rows : Int → Int) (gro : Int → Int) (wx : Int → Int) (wy : Int → Int) (mk : Int → Int) (dp : Int) (fa : Int) (ne : Int) (sl : Int) (p0 : Int → Int) (p1 : Int → Int) (s : Int) (x : Int) (y : Int) (v : Int) (f9 : Int → Int) (hW : W ≤ 32) (hH : H ≤ 32) (hP : P = W * H) (hPl : P ≤ 1024) (hp0 : ∀ q, 0 ≤ p0 q ∧ p0 q ≤ 255) (hp1 : ∀ q, 0 ≤ p1 q ∧ p1 q ≤ 255) (hs : inR s) (hx : inR x) (hy : inR y) (hv : inR v) : gCW l D cA yL_point mL_point [(0, 14, 17, 13)] (some .int) 1 6 [gr 0, gi s, gi x, gi y, gi v, gr 82] ((82, gal 3 1 f9) :: pSu W H M P c wt rows gro wx wy mk dp fa ne sl p0 p1) (fun r9 w9 => ∃ (kk : Int) (f2 : Int → Int) (sl2 : Int) (p02 : Int → Int) (p12 : Int → Int), r9 = some (gi kk) ∧ w9 = (82, gal 3 1 f2) :: pSu W H M P c wt rows gro wx wy mk dp fa ne sl2 p02 p12 ∧ l_point W H M P c wt rows gro wx wy mk dp fa ne sl p0 p1 s x y v (f2 0) kk sl2 p02 p12) := by
  by_cases h0 : s = 0
  · subst h0
    refine gCW.mono (cw_point l D cA hst 0 x y v f9 (fun l D cA hst => c_X7_point_0 l D cA hst W H M P c wt rows gro wx wy mk dp fa ne sl p0 p1 x y v hW hH hP hPl hx hy hv) rfl (fun r w' h => ⟨_, h.1, by have := hp0 (y * W + x); exact ⟨by omega, by omega⟩⟩) (fun E w' h => h.1)) ?_
    rintro r w' (⟨z, w2, ⟨e1, rfl, e3⟩, rfl, rfl⟩ | ⟨E, k, w2, ⟨rfl, rfl, e3⟩, hm, rfl, rfl⟩)
    · exact ⟨0, _, 1, _, _, rfl, rfl, Or.inl ⟨rfl, rfl, e3, (gu_s _ _ _).trans (gso e1), rfl, rfl, rfl⟩⟩
    · exact ⟨_, _, _, _, _, rfl, rfl, Or.inr (Or.inr ⟨gx1 hm, fun h => e3 h.2, rfl, rfl, rfl⟩)⟩
  · by_cases h1 : s = 1
    · subst h1
      refine gCW.mono (cw_point l D cA hst 1 x y v f9 (fun l D cA hst => c_X7_point_1 l D cA hst W H M P c wt rows gro wx wy mk dp fa ne sl p0 p1 x y v hW hH hP hPl hx hy hv) rfl (fun r w' h => ⟨_, h.1, by have := hp1 (y * W + x); exact ⟨by omega, by omega⟩⟩) (fun E w' h => h.1)) ?_
      rintro r w' (⟨z, w2, ⟨e1, rfl, e3⟩, rfl, rfl⟩ | ⟨E, k, w2, ⟨rfl, rfl, e3⟩, hm, rfl, rfl⟩)
      · exact ⟨0, _, 1, _, _, rfl, rfl, Or.inr (Or.inl ⟨rfl, rfl, e3, (gu_s _ _ _).trans (gso e1), rfl, rfl, rfl⟩)⟩
      · exact ⟨_, _, _, _, _, rfl, rfl, Or.inr (Or.inr ⟨gx1 hm, fun h => e3 h.2, rfl, rfl, rfl⟩)⟩
    · refine gCW.mono (cw_point l D cA hst s x y v f9 (fun l D cA hst => c_X7_point_n l D cA hst W H M P c wt rows gro wx wy mk dp fa ne sl p0 p1 s x y v hW hH hP hPl hx hy hv hs (by omega)) rfl (fun r w' h => h.2.2.elim) (fun E w' h => h.1)) ?_
      rintro r w' (⟨z, w2, ⟨e1, rfl, e3⟩, rfl, rfl⟩ | ⟨E, k, w2, ⟨rfl, rfl⟩, hm, rfl, rfl⟩)
      · exact e3.elim
      · exact ⟨_, _, _, _, _, rfl, rfl, Or.inr (Or.inr ⟨gx1 hm, fun h => by omega, rfl, rfl, rfl⟩)⟩
def l_bound (W : Nat) (H : Nat) (M : Nat) (P : Nat) (c : Int) (wt : Int) (rows : Int → Int) (gro : Int → Int) (wx : Int → Int) (wy : Int → Int) (mk : Int → Int) (dp : Int) (fa : Int) (ne : Int) (sl : Int) (p0 : Int → Int) (p1 : Int → Int) (a : Int) (b : Int) (z9 kk : Int) (fa2 : Int) (ne2 : Int) (sl2 : Int) : Prop := (kk = 0 ∧ ((0 ≤ a ∧ a ≤ 255) ∧ 0 ≤ b ∧ b ≤ 2) ∧ z9 = 10 * fa + ne ∧ fa2 = a ∧ ne2 = b ∧ sl2 = 1) ∨ (kk = 1 ∧ ¬ ((0 ≤ a ∧ a ≤ 255) ∧ 0 ≤ b ∧ b ≤ 2) ∧ fa2 = fa ∧ ne2 = ne ∧ sl2 = sl)
theorem wl_bound (l : Launch) (D : va_G) (cA : Nat → ClassId) (hst : l.stackTraces = false) (W : Nat) (H : Nat) (M : Nat) (P : Nat) (c : Int) (wt : Int) (rows : Int → Int) (gro : Int → Int) (wx : Int → Int) (wy : Int → Int) (mk : Int → Int) (dp : Int) (fa : Int) (ne : Int) (sl : Int) (p0 : Int → Int) (p1 : Int → Int) (a : Int) (b : Int) (f9 : Int → Int) (hfa : 0 ≤ fa ∧ fa ≤ 255) (hne : 0 ≤ ne ∧ ne ≤ 2) (ha : inR a) (hb : inR b) : gCW l D cA yL_bound mL_bound [(0, 10, 13, 19)] (some .int) 1 6 [gr 0, gi a, gi b, gr 82] ((82, gal 3 1 f9) :: pSu W H M P c wt rows gro wx wy mk dp fa ne sl p0 p1) (fun r9 w9 => ∃ (kk : Int) (f2 : Int → Int) (fa2 : Int) (ne2 : Int) (sl2 : Int), r9 = some (gi kk) ∧ w9 = (82, gal 3 1 f2) :: pSu W H M P c wt rows gro wx wy mk dp fa2 ne2 sl2 p0 p1 ∧ l_bound W H M P c wt rows gro wx wy mk dp fa ne sl p0 p1 a b (f2 0) kk fa2 ne2 sl2) := by
  refine gCW.mono (cw_bound l D cA hst a b f9 (fun l D cA hst => c_X7_bound l D cA hst W H M P c wt rows gro wx wy mk dp fa ne sl p0 p1 a b ha hb) rfl (fun r w' h => ⟨_, h.1, ⟨by omega, by omega⟩⟩) (fun E w' h => h.1)) ?_
  rintro r w' (⟨z, w2, ⟨e1, rfl, e3⟩, rfl, rfl⟩ | ⟨E, k, w2, ⟨rfl, rfl, e3⟩, hm, rfl, rfl⟩)
  · exact ⟨0, _, _, _, _, rfl, rfl, Or.inl ⟨rfl, e3, (gu_s _ _ _).trans (gso e1), rfl, rfl, rfl⟩⟩
  · exact ⟨_, _, _, _, _, rfl, rfl, Or.inr ⟨gx1 hm, e3, rfl, rfl, rfl⟩⟩
def l_box (W : Nat) (H : Nat) (M : Nat) (P : Nat) (c : Int) (wt : Int) (rows : Int → Int) (gro : Int → Int) (wx : Int → Int) (wy : Int → Int) (mk : Int → Int) (dp : Int) (fa : Int) (ne : Int) (sl : Int) (p0 : Int → Int) (p1 : Int → Int) (i : Int) (k : Int) (z9 kk : Int) (c2 : Int) (wt2 : Int) (rows2 : Int → Int) (gro2 : Int → Int) (wx2 : Int → Int) (wy2 : Int → Int) (mk2 : Int → Int) (dp2 : Int) : Prop := (gVal W H P M ne fa p0 p1 dp2 c2 rows2 ∧ (∀ j : Int, inR (rows2 j)) ∧ (∀ j : Int, inR (gro2 j)) ∧ (∀ q : Int, ¬ (0 ≤ q ∧ q < P) → mk2 q = 0)) ∧ ((kk = 0 ∧ i = -1 ∧ z9 = c2) ∨ (kk = 0 ∧ i ≠ -1 ∧ ((0 ≤ i ∧ i < c2) ∧ 0 ≤ k ∧ k < 5) ∧ z9 = rows2 (i * 5 + k)) ∨ (kk = 1 ∧ i ≠ -1 ∧ ¬ ((0 ≤ i ∧ i < c2) ∧ 0 ≤ k ∧ k < 5)))
theorem wl_box (l : Launch) (D : va_G) (cA : Nat → ClassId) (hst : l.stackTraces = false) (W : Nat) (H : Nat) (M : Nat) (P : Nat) (c : Int) (wt : Int) (rows : Int → Int) (gro : Int → Int) (wx : Int → Int) (wy : Int → Int) (mk : Int → Int) (dp : Int) (fa : Int) (ne : Int) (sl : Int) (p0 : Int → Int) (p1 : Int → Int) (i : Int) (k : Int) (f9 : Int → Int) (hW : W ≤ 32) (hH : H ≤ 32) (hP : P = W * H) (hPl : P ≤ 1024) (hM : M = ((W + 1) / 2) * ((H + 1) / 2)) (hMl : M ≤ 256) (hfa : 0 ≤ fa ∧ fa ≤ 255) (hne : 0 ≤ ne ∧ ne ≤ 2) (hp0 : ∀ q, 0 ≤ p0 q ∧ p0 q ≤ 255) (hp1 : ∀ q, 0 ≤ p1 q ∧ p1 q ≤ 255) (hsl : sl = 0 ∨ sl = 1) (hrr : ∀ j : Int, inR (rows j)) (hgr : ∀ j : Int, inR (gro j)) (hmo : ∀ q : Int, ¬ (0 ≤ q ∧ q < P) → mk q = 0) (hval : sl = 0 → gVal W H P M ne fa p0 p1 dp c rows) (hi : inR i) (hk : inR k) : gCW l D cA yL_box mL_box [(0, 10, 13, 24)] (some .int) 1 6 [gr 0, gi i, gi k, gr 82] ((82, gal 3 1 f9) :: pSu W H M P c wt rows gro wx wy mk dp fa ne sl p0 p1) (fun r9 w9 => ∃ (kk : Int) (f2 : Int → Int) (c2 : Int) (wt2 : Int) (rows2 : Int → Int) (gro2 : Int → Int) (wx2 : Int → Int) (wy2 : Int → Int) (mk2 : Int → Int) (dp2 : Int), r9 = some (gi kk) ∧ w9 = (82, gal 3 1 f2) :: pSu W H M P c2 wt2 rows2 gro2 wx2 wy2 mk2 dp2 fa ne 0 p0 p1 ∧ l_box W H M P c wt rows gro wx wy mk dp fa ne sl p0 p1 i k (f2 0) kk c2 wt2 rows2 gro2 wx2 wy2 mk2 dp2) := by
  refine gCW.mono (cw_box l D cA hst i k f9 (fun l D cA hst => c_X7_box l D cA hst W H M P c wt rows gro wx wy mk dp fa ne sl p0 p1 i k hW hH hP hPl hM hMl hfa hne hp0 hp1 hsl hrr hgr hmo hval hi hk) rfl (fun r w' h => ?_) (fun E w' h => ?_)) ?_
  · obtain ⟨c2, wt2, rows2, gro2, wx2, wy2, mk2, dp2, rr, e1, -, hv, hr2, hg2, hm2, ha, hb⟩ := h
    refine ⟨rr, e1, ?_⟩
    by_cases h0 : i = -1
    · have h1 := hv.2.2.2
      have h2 := hv.2.1.1
      rw [ha h0]
      exact ⟨by omega, by omega⟩
    · rw [(hb h0).2]
      exact hr2 _
  · obtain ⟨c2, wt2, rows2, gro2, wx2, wy2, mk2, dp2, e1, -⟩ := h
    exact e1
  · rintro r w' (⟨z, w2, ⟨c2, wt2, rows2, gro2, wx2, wy2, mk2, dp2, rr, e1, rfl, hv, hr2, hg2, hm2, ha, hb⟩, rfl, rfl⟩ | ⟨E, k, w2, ⟨c2, wt2, rows2, gro2, wx2, wy2, mk2, dp2, rfl, rfl, hv, hr2, hg2, hm2, ha, hb⟩, hm, rfl, rfl⟩)
    · refine ⟨0, _, c2, wt2, rows2, gro2, wx2, wy2, mk2, dp2, rfl, rfl, ⟨hv, hr2, hg2, hm2⟩, ?_⟩
      have e9 := (gu_s f9 0 z).trans (gso e1)
      by_cases h0 : i = -1
      · exact Or.inl ⟨rfl, h0, e9.trans (ha h0)⟩
      · exact Or.inr (Or.inl ⟨rfl, h0, (hb h0).1, e9.trans (hb h0).2⟩)
    · exact ⟨_, _, c2, wt2, rows2, gro2, wx2, wy2, mk2, dp2, rfl, rfl, ⟨hv, hr2, hg2, hm2⟩, Or.inr (Or.inr ⟨gx1 hm, ha, hb⟩)⟩
def l_word (cn : Int) (wst : Int) (rwx : Int → Int) (lg : Int → Int) (n0 : Int) (v0 : Int → Int) (x0 : Int → Int) (y0 : Int → Int) (o0 : Int → Int) (n1 : Int) (v1 : Int → Int) (x1 : Int → Int) (y1 : Int → Int) (o1 : Int → Int) (s : Int) (v : Int) (px : Int) (py : Int) (z9 kk : Int) (wst2 : Int) (n02 : Int) (v02 : Int → Int) (x02 : Int → Int) (y02 : Int → Int) (o02 : Int → Int) (n12 : Int) (v12 : Int → Int) (x12 : Int → Int) (y12 : Int → Int) (o12 : Int → Int) : Prop := (kk = 0 ∧ s = 0 ∧ 0 ≤ v ∧ n0 < 40 ∧ z9 = n0 ∧ wst2 = 1 ∧ (n02 = n0 + 1 ∧ v02 = gu v0 n0 v ∧ x02 = gu x0 n0 px ∧ y02 = gu y0 n0 py ∧ wOrd (n0 + 1) (gu x0 n0 px) (gu y0 n0 py) o02) ∧ n12 = n1 ∧ v12 = v1 ∧ x12 = x1 ∧ y12 = y1 ∧ o12 = o1) ∨ (kk = 0 ∧ s = 1 ∧ 0 ≤ v ∧ n1 < 40 ∧ z9 = n1 ∧ wst2 = 1 ∧ (n02 = n0 ∧ v02 = v0 ∧ x02 = x0 ∧ y02 = y0 ∧ o02 = o0) ∧ n12 = n1 + 1 ∧ v12 = gu v1 n1 v ∧ x12 = gu x1 n1 px ∧ y12 = gu y1 n1 py ∧ wOrd (n1 + 1) (gu x1 n1 px) (gu y1 n1 py) o12) ∨ (((kk = 1 ∧ ¬ (0 ≤ s ∧ s ≤ 1)) ∨ (kk = 2 ∧ (0 ≤ s ∧ s ≤ 1) ∧ v < 0) ∨ (kk = 3 ∧ 0 ≤ v ∧ ((s = 0 ∧ n0 = 40) ∨ (s = 1 ∧ n1 = 40)))) ∧ wst2 = wst ∧ (n02 = n0 ∧ v02 = v0 ∧ x02 = x0 ∧ y02 = y0 ∧ o02 = o0) ∧ n12 = n1 ∧ v12 = v1 ∧ x12 = x1 ∧ y12 = y1 ∧ o12 = o1)
theorem wl_word (l : Launch) (D : va_G) (cA : Nat → ClassId) (hst : l.stackTraces = false) (cn : Int) (wst : Int) (rwx : Int → Int) (lg : Int → Int) (n0 : Int) (v0 : Int → Int) (x0 : Int → Int) (y0 : Int → Int) (o0 : Int → Int) (n1 : Int) (v1 : Int → Int) (x1 : Int → Int) (y1 : Int → Int) (o1 : Int → Int) (s : Int) (v : Int) (px : Int) (py : Int) (f9 : Int → Int) (hn0 : 0 ≤ n0 ∧ n0 ≤ 40) (hn1 : 0 ≤ n1 ∧ n1 ≤ 40) (hxy : ∀ q : Int, (inR (x0 q) ∧ inR (x1 q)) ∧ inR (y0 q) ∧ inR (y1 q)) (hO0 : wOrd n0 x0 y0 o0) (hO1 : wOrd n1 x1 y1 o1) (hs : inR s) (hv : inR v) (hpx : inR px) (hpy : inR py) : gCW l D cA yL_word mL_word [(0, 14, 17, 13), (0, 14, 21, 19), (0, 14, 25, 29)] (some .int) 1 6 [gr 0, gi s, gi v, gi px, gi py, gr 82] ((82, gal 3 1 f9) :: pWr cn wst rwx lg n0 v0 x0 y0 o0 n1 v1 x1 y1 o1) (fun r9 w9 => ∃ (kk : Int) (f2 : Int → Int) (wst2 : Int) (n02 : Int) (v02 : Int → Int) (x02 : Int → Int) (y02 : Int → Int) (o02 : Int → Int) (n12 : Int) (v12 : Int → Int) (x12 : Int → Int) (y12 : Int → Int) (o12 : Int → Int), r9 = some (gi kk) ∧ w9 = (82, gal 3 1 f2) :: pWr cn wst2 rwx lg n02 v02 x02 y02 o02 n12 v12 x12 y12 o12 ∧ l_word cn wst rwx lg n0 v0 x0 y0 o0 n1 v1 x1 y1 o1 s v px py (f2 0) kk wst2 n02 v02 x02 y02 o02 n12 v12 x12 y12 o12) := by
  by_cases h0 : s = 0
  · subst h0
    refine gCW.mono (cw_word l D cA hst 0 v px py f9 (fun l D cA hst => c_X7_word_0 l D cA hst cn wst rwx lg n0 v0 x0 y0 o0 n1 v1 x1 y1 o1 v px py hn0 hxy hO0 hv hpx hpy) rfl (fun r w' h => ?_) (fun E w' h => ?_)) ?_
    · obtain ⟨o2, e1, -⟩ := h
      exact ⟨_, e1, ⟨by omega, by omega⟩⟩
    · rcases h.2 with h | h
      · exact Or.inr (Or.inl h.1)
      · exact Or.inr (Or.inr h.1)
    · rintro r w' (⟨z, w2, ⟨o2, e1, rfl, h1, h2, h3⟩, rfl, rfl⟩ | ⟨E, k, w2, ⟨rfl, ⟨rfl, h1⟩ | ⟨rfl, h1, h2⟩⟩, hm, rfl, rfl⟩)
      · exact ⟨_, _, _, _, _, _, _, _, _, _, _, _, _, rfl, rfl, Or.inl ⟨rfl, rfl, h2, h3, (gu_s _ _ _).trans (gso e1), rfl, ⟨rfl, rfl, rfl, rfl, h1⟩, rfl, rfl, rfl, rfl, rfl⟩⟩
      · exact ⟨_, _, _, _, _, _, _, _, _, _, _, _, _, rfl, rfl, Or.inr (Or.inr ⟨Or.inr (Or.inl ⟨gx3I hm, by omega, h1⟩), rfl, ⟨rfl, rfl, rfl, rfl, rfl⟩, rfl, rfl, rfl, rfl, rfl⟩)⟩
      · exact ⟨_, _, _, _, _, _, _, _, _, _, _, _, _, rfl, rfl, Or.inr (Or.inr ⟨Or.inr (Or.inr ⟨gx3U hm, h1, Or.inl ⟨rfl, h2⟩⟩), rfl, ⟨rfl, rfl, rfl, rfl, rfl⟩, rfl, rfl, rfl, rfl, rfl⟩)⟩
  · by_cases h1 : s = 1
    · subst h1
      refine gCW.mono (cw_word l D cA hst 1 v px py f9 (fun l D cA hst => c_X7_word_1 l D cA hst cn wst rwx lg n0 v0 x0 y0 o0 n1 v1 x1 y1 o1 v px py hn1 hxy hO1 hv hpx hpy) rfl (fun r w' h => ?_) (fun E w' h => ?_)) ?_
      · obtain ⟨o2, e1, -⟩ := h
        exact ⟨_, e1, ⟨by omega, by omega⟩⟩
      · rcases h.2 with h | h
        · exact Or.inr (Or.inl h.1)
        · exact Or.inr (Or.inr h.1)
      · rintro r w' (⟨z, w2, ⟨o2, e1, rfl, h1, h2, h3⟩, rfl, rfl⟩ | ⟨E, k, w2, ⟨rfl, ⟨rfl, h1⟩ | ⟨rfl, h1, h2⟩⟩, hm, rfl, rfl⟩)
        · exact ⟨_, _, _, _, _, _, _, _, _, _, _, _, _, rfl, rfl, Or.inr (Or.inl ⟨rfl, rfl, h2, h3, (gu_s _ _ _).trans (gso e1), rfl, ⟨rfl, rfl, rfl, rfl, rfl⟩, rfl, rfl, rfl, rfl, h1⟩)⟩
        · exact ⟨_, _, _, _, _, _, _, _, _, _, _, _, _, rfl, rfl, Or.inr (Or.inr ⟨Or.inr (Or.inl ⟨gx3I hm, by omega, h1⟩), rfl, ⟨rfl, rfl, rfl, rfl, rfl⟩, rfl, rfl, rfl, rfl, rfl⟩)⟩
        · exact ⟨_, _, _, _, _, _, _, _, _, _, _, _, _, rfl, rfl, Or.inr (Or.inr ⟨Or.inr (Or.inr ⟨gx3U hm, h1, Or.inr ⟨rfl, h2⟩⟩), rfl, ⟨rfl, rfl, rfl, rfl, rfl⟩, rfl, rfl, rfl, rfl, rfl⟩)⟩
    · refine gCW.mono (cw_word l D cA hst s v px py f9 (fun l D cA hst => c_X7_word_n l D cA hst cn wst rwx lg n0 v0 x0 y0 o0 n1 v1 x1 y1 o1 s v px py hs (by omega)) rfl (fun r w' h => h.2.2.elim) (fun E w' h => Or.inl h.1)) ?_
      rintro r w' (⟨z, w2, ⟨e1, rfl, e3⟩, rfl, rfl⟩ | ⟨E, k, w2, ⟨rfl, rfl⟩, hm, rfl, rfl⟩)
      · exact e3.elim
      · exact ⟨_, _, _, _, _, _, _, _, _, _, _, _, _, rfl, rfl, Or.inr (Or.inr ⟨Or.inl ⟨gx3A hm, by omega⟩, rfl, ⟨rfl, rfl, rfl, rfl, rfl⟩, rfl, rfl, rfl, rfl, rfl⟩)⟩
def l_words (cn : Int) (wst : Int) (rwx : Int → Int) (lg : Int → Int) (n0 : Int) (v0 : Int → Int) (x0 : Int → Int) (y0 : Int → Int) (o0 : Int → Int) (n1 : Int) (v1 : Int → Int) (x1 : Int → Int) (y1 : Int → Int) (o1 : Int → Int) (i : Int) (k : Int) (z9 kk : Int) (cn2 : Int) (rw2 : Int → Int) (lg2 : Int → Int) : Prop := (wVal n0 v0 x0 y0 o0 n1 v1 x1 y1 o1 cn2 rw2 ∧ (0 ≤ cn2 ∧ cn2 ≤ 80) ∧ ∀ q : Int, inR (rw2 q)) ∧ ((kk = 0 ∧ i = -1 ∧ z9 = cn2) ∨ (kk = 0 ∧ i ≠ -1 ∧ ((0 ≤ i ∧ i < cn2) ∧ 0 ≤ k ∧ k < 4) ∧ z9 = rw2 (i * 4 + k)) ∨ (kk = 1 ∧ i ≠ -1 ∧ ¬ ((0 ≤ i ∧ i < cn2) ∧ 0 ≤ k ∧ k < 4)))
theorem wl_words (l : Launch) (D : va_G) (cA : Nat → ClassId) (hst : l.stackTraces = false) (cn : Int) (wst : Int) (rwx : Int → Int) (lg : Int → Int) (n0 : Int) (v0 : Int → Int) (x0 : Int → Int) (y0 : Int → Int) (o0 : Int → Int) (n1 : Int) (v1 : Int → Int) (x1 : Int → Int) (y1 : Int → Int) (o1 : Int → Int) (i : Int) (k : Int) (f9 : Int → Int) (hn : (0 ≤ n0 ∧ n0 ≤ 40) ∧ 0 ≤ n1 ∧ n1 ≤ 40) (ho0 : ∀ j, 0 ≤ j → j < n0 → 0 ≤ o0 j ∧ o0 j < n0) (ho1 : ∀ j, 0 ≤ j → j < n1 → 0 ≤ o1 j ∧ o1 j < n1) (hv : ∀ q : Int, inR (v0 q) ∧ inR (v1 q)) (hxy : ∀ q : Int, (inR (x0 q) ∧ inR (x1 q)) ∧ inR (y0 q) ∧ inR (y1 q)) (hws : wst = 0 ∨ wst = 1) (hcn : 0 ≤ cn ∧ cn ≤ 80) (hrw : ∀ q : Int, inR (rwx q)) (hval : wst = 0 → wVal n0 v0 x0 y0 o0 n1 v1 x1 y1 o1 cn rwx) (hi : inR i) (hk : inR k) : gCW l D cA yL_words mL_words [(0, 10, 13, 24)] (some .int) 1 6 [gr 0, gi i, gi k, gr 82] ((82, gal 3 1 f9) :: pWr cn wst rwx lg n0 v0 x0 y0 o0 n1 v1 x1 y1 o1) (fun r9 w9 => ∃ (kk : Int) (f2 : Int → Int) (cn2 : Int) (rw2 : Int → Int) (lg2 : Int → Int), r9 = some (gi kk) ∧ w9 = (82, gal 3 1 f2) :: pWr cn2 0 rw2 lg2 n0 v0 x0 y0 o0 n1 v1 x1 y1 o1 ∧ l_words cn wst rwx lg n0 v0 x0 y0 o0 n1 v1 x1 y1 o1 i k (f2 0) kk cn2 rw2 lg2) := by
  refine gCW.mono (cw_words l D cA hst i k f9 (fun l D cA hst => c_X7_words l D cA hst cn wst rwx lg n0 v0 x0 y0 o0 n1 v1 x1 y1 o1 i k hn ho0 ho1 hv hxy hws hcn hrw hval hi hk) rfl (fun r w' h => ?_) (fun E w' h => ?_)) ?_
  · obtain ⟨cn2, rw2, lg2, rr, e1, -, hv2, hc2, hr2, ha, hb⟩ := h
    refine ⟨rr, e1, ?_⟩
    by_cases h0 : i = -1
    · rw [ha h0]
      exact ⟨by omega, by omega⟩
    · rw [(hb h0).2]
      exact hr2 _
  · obtain ⟨cn2, rw2, lg2, e1, -⟩ := h
    exact e1
  · rintro r w' (⟨z, w2, ⟨cn2, rw2, lg2, rr, e1, rfl, hv2, hc2, hr2, ha, hb⟩, rfl, rfl⟩ | ⟨E, k, w2, ⟨cn2, rw2, lg2, rfl, rfl, hv2, hc2, hr2, ha, hb⟩, hm, rfl, rfl⟩)
    · refine ⟨0, _, cn2, rw2, lg2, rfl, rfl, ⟨hv2, hc2, hr2⟩, ?_⟩
      have e9 := (gu_s f9 0 z).trans (gso e1)
      by_cases h0 : i = -1
      · exact Or.inl ⟨rfl, h0, e9.trans (ha h0)⟩
      · exact Or.inr (Or.inl ⟨rfl, h0, (hb h0).1, e9.trans (hb h0).2⟩)
    · exact ⟨_, _, cn2, rw2, lg2, rfl, rfl, ⟨hv2, hc2, hr2⟩, Or.inr (Or.inr ⟨gx1 hm, ha, hb⟩)⟩
def l_size (w0 : Int → Int) (w1 : Int → Int) (h0 : Int → Int) (h1 : Int → Int) (s : Int) (p : Int) (w : Int) (h : Int) (z9 kk : Int) (w02 : Int → Int) (w12 : Int → Int) (h02 : Int → Int) (h12 : Int → Int) : Prop := (kk = 0 ∧ s = 0 ∧ (0 ≤ p ∧ p < 20) ∧ (1 ≤ w ∧ 1 ≤ h) ∧ z9 = 1 - gb (gos (gu w0 p w) w1 (gu h0 p h) h1 p) ∧ w02 = gu w0 p w ∧ w12 = w1 ∧ h02 = gu h0 p h ∧ h12 = h1) ∨ (kk = 0 ∧ s = 1 ∧ (0 ≤ p ∧ p < 20) ∧ (1 ≤ w ∧ 1 ≤ h) ∧ z9 = 1 - gb (gos w0 (gu w1 p w) h0 (gu h1 p h) p) ∧ w02 = w0 ∧ w12 = gu w1 p w ∧ h02 = h0 ∧ h12 = gu h1 p h) ∨ (((kk = 1 ∧ ¬ ((0 ≤ s ∧ s ≤ 1) ∧ 0 ≤ p ∧ p < 20)) ∨ (kk = 2 ∧ ((0 ≤ s ∧ s ≤ 1) ∧ 0 ≤ p ∧ p < 20) ∧ ¬ (1 ≤ w ∧ 1 ≤ h))) ∧ w02 = w0 ∧ w12 = w1 ∧ h02 = h0 ∧ h12 = h1)
theorem wl_size (l : Launch) (D : va_G) (cA : Nat → ClassId) (hst : l.stackTraces = false) (w0 : Int → Int) (w1 : Int → Int) (h0 : Int → Int) (h1 : Int → Int) (s : Int) (p : Int) (w : Int) (h : Int) (f9 : Int → Int) (hsz : ∀ q : Int, (inR (w0 q) ∧ inR (w1 q)) ∧ inR (h0 q) ∧ inR (h1 q)) (hs : inR s) (hp : inR p) (hw : inR w) (hh : inR h) : gCW l D cA yL_size mL_size [(0, 14, 17, 13), (0, 14, 21, 19)] (some .int) 1 6 [gr 0, gi s, gi p, gi w, gi h, gr 82] ((82, gal 3 1 f9) :: pPg w0 w1 h0 h1) (fun r9 w9 => ∃ (kk : Int) (f2 : Int → Int) (w02 : Int → Int) (w12 : Int → Int) (h02 : Int → Int) (h12 : Int → Int), r9 = some (gi kk) ∧ w9 = (82, gal 3 1 f2) :: pPg w02 w12 h02 h12 ∧ l_size w0 w1 h0 h1 s p w h (f2 0) kk w02 w12 h02 h12) := by
  by_cases e0 : s = 0
  · subst e0
    refine gCW.mono (cw_size l D cA hst 0 p w h f9 (fun l D cA hst => c_X7_size_0 l D cA hst w0 w1 h0 h1 p w h hsz hp hw hh) rfl (fun r w' h9 => ⟨_, h9.1, by have := gb_01 (gos (gu w0 p w) w1 (gu h0 p h) h1 p); exact ⟨by omega, by omega⟩⟩) (fun E w' h9 => ?_)) ?_
    · rcases h9.2 with h9 | h9
      · exact Or.inl h9.1
      · exact Or.inr h9.1
    · rintro r w' (⟨z, w2, ⟨e1, rfl, h1, h2⟩, rfl, rfl⟩ | ⟨E, k, w2, ⟨rfl, ⟨rfl, h1⟩ | ⟨rfl, h1, h2⟩⟩, hm, rfl, rfl⟩)
      · exact ⟨_, _, _, _, _, _, rfl, rfl, Or.inl ⟨rfl, rfl, h1, h2, (gu_s _ _ _).trans (gso e1), rfl, rfl, rfl, rfl⟩⟩
      · exact ⟨_, _, _, _, _, _, rfl, rfl, Or.inr (Or.inr ⟨Or.inl ⟨gx2A hm, fun h9 => h1 h9.2⟩, rfl, rfl, rfl, rfl⟩)⟩
      · exact ⟨_, _, _, _, _, _, rfl, rfl, Or.inr (Or.inr ⟨Or.inr ⟨gx2I hm, ⟨by omega, h1⟩, h2⟩, rfl, rfl, rfl, rfl⟩)⟩
  · by_cases e1 : s = 1
    · subst e1
      refine gCW.mono (cw_size l D cA hst 1 p w h f9 (fun l D cA hst => c_X7_size_1 l D cA hst w0 w1 h0 h1 p w h hsz hp hw hh) rfl (fun r w' h9 => ⟨_, h9.1, by have := gb_01 (gos w0 (gu w1 p w) h0 (gu h1 p h) p); exact ⟨by omega, by omega⟩⟩) (fun E w' h9 => ?_)) ?_
      · rcases h9.2 with h9 | h9
        · exact Or.inl h9.1
        · exact Or.inr h9.1
      · rintro r w' (⟨z, w2, ⟨e1, rfl, h1, h2⟩, rfl, rfl⟩ | ⟨E, k, w2, ⟨rfl, ⟨rfl, h1⟩ | ⟨rfl, h1, h2⟩⟩, hm, rfl, rfl⟩)
        · exact ⟨_, _, _, _, _, _, rfl, rfl, Or.inr (Or.inl ⟨rfl, rfl, h1, h2, (gu_s _ _ _).trans (gso e1), rfl, rfl, rfl, rfl⟩)⟩
        · exact ⟨_, _, _, _, _, _, rfl, rfl, Or.inr (Or.inr ⟨Or.inl ⟨gx2A hm, fun h9 => h1 h9.2⟩, rfl, rfl, rfl, rfl⟩)⟩
        · exact ⟨_, _, _, _, _, _, rfl, rfl, Or.inr (Or.inr ⟨Or.inr ⟨gx2I hm, ⟨by omega, h1⟩, h2⟩, rfl, rfl, rfl, rfl⟩)⟩
    · refine gCW.mono (cw_size l D cA hst s p w h f9 (fun l D cA hst => c_X7_size_n l D cA hst w0 w1 h0 h1 s p w h hs (by omega)) rfl (fun r w' h9 => h9.2.2.elim) (fun E w' h9 => Or.inl h9.1)) ?_
      rintro r w' (⟨z, w2, ⟨e1, rfl, e3⟩, rfl, rfl⟩ | ⟨E, k, w2, ⟨rfl, rfl⟩, hm, rfl, rfl⟩)
      · exact e3.elim
      · exact ⟨_, _, _, _, _, _, rfl, rfl, Or.inr (Or.inr ⟨Or.inl ⟨gx2A hm, by omega⟩, rfl, rfl, rfl, rfl⟩)⟩
def l_missing (w0 : Int → Int) (w1 : Int → Int) (h0 : Int → Int) (h1 : Int → Int) (i : Int) (z9 kk : Int)  : Prop := (kk = 0 ∧ i = -1 ∧ z9 = gsm (fun q => gb (gms w0 w1 q)) 20) ∨ (kk = 0 ∧ i ≠ -1 ∧ (0 ≤ i ∧ i < gsm (fun q => gb (gms w0 w1 q)) 20) ∧ ∃ pg : Int, z9 = 2 * pg + gb (0 < w0 pg) ∧ ((0 ≤ pg ∧ pg < 20) ∧ gms w0 w1 pg) ∧ gsm (fun q => gb (gms w0 w1 q)) pg.toNat = i) ∨ (kk = 1 ∧ i ≠ -1 ∧ ¬ (0 ≤ i ∧ i < gsm (fun q => gb (gms w0 w1 q)) 20))
theorem wl_missing (l : Launch) (D : va_G) (cA : Nat → ClassId) (hst : l.stackTraces = false) (w0 : Int → Int) (w1 : Int → Int) (h0 : Int → Int) (h1 : Int → Int) (i : Int) (f9 : Int → Int) (hsz : ∀ q : Int, (inR (w0 q) ∧ inR (w1 q)) ∧ inR (h0 q) ∧ inR (h1 q)) (hi : inR i) : gCW l D cA yL_missing mL_missing [(0, 9, 12, 24)] (some .int) 1 6 [gr 0, gi i, gr 82] ((82, gal 3 1 f9) :: pPg w0 w1 h0 h1) (fun r9 w9 => ∃ (kk : Int) (f2 : Int → Int) , r9 = some (gi kk) ∧ w9 = (82, gal 3 1 f2) :: pPg w0 w1 h0 h1 ∧ l_missing w0 w1 h0 h1 i (f2 0) kk ) := by
  refine gCW.mono (cw_missing l D cA hst i f9 (fun l D cA hst => c_X7_missing l D cA hst w0 w1 h0 h1 i hsz hi) rfl (fun r w' h => ?_) (fun E w' h => h.1)) ?_
  · obtain ⟨rr, e1, -, ha, hb⟩ := h
    refine ⟨rr, e1, ?_⟩
    by_cases h0 : i = -1
    · rw [ha h0]
      have := gsm_gb (fun q => gms w0 w1 q) 20
      exact ⟨by omega, by omega⟩
    · obtain ⟨-, pg, e2, h2, -⟩ := hb h0
      have := gb_01 (0 < w0 pg)
      exact ⟨by omega, by omega⟩
  · rintro r w' (⟨z, w2, ⟨rr, e1, rfl, ha, hb⟩, rfl, rfl⟩ | ⟨E, k, w2, ⟨rfl, rfl, ha, hb⟩, hm, rfl, rfl⟩)
    · refine ⟨0, _, rfl, rfl, ?_⟩
      have e9 := (gu_s f9 0 z).trans (gso e1)
      by_cases h0 : i = -1
      · exact Or.inl ⟨rfl, h0, e9.trans (ha h0)⟩
      · obtain ⟨h1, pg, e2, h2⟩ := hb h0
        exact Or.inr (Or.inl ⟨rfl, h0, h1, pg, e9.trans e2, h2⟩)
    · exact ⟨_, _, rfl, rfl, Or.inr (Or.inr ⟨gx1 hm, ha, hb⟩)⟩
def l_rule (rc : Int) (fc : Int) (kd : Int → Int) (fl : Int → Int) (lm : Int → Int) (fs : Int → Int) (k : Int) (a : Int) (b : Int) (z9 kk : Int) (rc2 : Int) (kd2 : Int → Int) (fl2 : Int → Int) (lm2 : Int → Int) : Prop := (kk = 0 ∧ ((0 ≤ k ∧ k < 6) ∧ 0 ≤ a) ∧ rc < 12 ∧ z9 = rc ∧ rc2 = rc + 1 ∧ kd2 = gu kd rc k ∧ fl2 = gu fl rc b ∧ lm2 = gu lm rc a) ∨ (((kk = 1 ∧ ¬ ((0 ≤ k ∧ k < 6) ∧ 0 ≤ a)) ∨ (kk = 2 ∧ ((0 ≤ k ∧ k < 6) ∧ 0 ≤ a) ∧ rc = 12)) ∧ rc2 = rc ∧ kd2 = kd ∧ fl2 = fl ∧ lm2 = lm)
theorem wl_rule (l : Launch) (D : va_G) (cA : Nat → ClassId) (hst : l.stackTraces = false) (rc : Int) (fc : Int) (kd : Int → Int) (fl : Int → Int) (lm : Int → Int) (fs : Int → Int) (k : Int) (a : Int) (b : Int) (f9 : Int → Int) (hrc : 0 ≤ rc ∧ rc ≤ 12) (hk : inR k) (ha : inR a) (hb : b = 0 ∨ b = 1) : gCW l D cA yL_rule mL_rule [(0, 12, 15, 19), (0, 12, 19, 29)] (some .int) 1 6 [gr 0, gi k, gi a, gi b, gr 82] ((82, gal 3 1 f9) :: pRu rc fc kd fl lm fs) (fun r9 w9 => ∃ (kk : Int) (f2 : Int → Int) (rc2 : Int) (kd2 : Int → Int) (fl2 : Int → Int) (lm2 : Int → Int), r9 = some (gi kk) ∧ w9 = (82, gal 3 1 f2) :: pRu rc2 fc kd2 fl2 lm2 fs ∧ l_rule rc fc kd fl lm fs k a b (f2 0) kk rc2 kd2 fl2 lm2) := by
  refine gCW.mono (cw_rule l D cA hst k a b f9 (fun l D cA hst => c_X7_rule l D cA hst rc fc kd fl lm fs k a b hrc hk ha hb) rfl (fun r w' h => ⟨_, h.1, ⟨by omega, by omega⟩⟩) (fun E w' h => ?_)) ?_
  · rcases h.2 with h | h
    · exact Or.inl h.1
    · exact Or.inr h.1
  · rintro r w' (⟨z, w2, ⟨e1, rfl, h1, h2⟩, rfl, rfl⟩ | ⟨E, k, w2, ⟨rfl, ⟨rfl, h1⟩ | ⟨rfl, h1, h2⟩⟩, hm, rfl, rfl⟩)
    · exact ⟨_, _, _, _, _, _, rfl, rfl, Or.inl ⟨rfl, h1, h2, (gu_s _ _ _).trans (gso e1), rfl, rfl, rfl, rfl⟩⟩
    · exact ⟨_, _, _, _, _, _, rfl, rfl, Or.inr ⟨Or.inl ⟨gx2J hm, h1⟩, rfl, rfl, rfl, rfl⟩⟩
    · exact ⟨_, _, _, _, _, _, rfl, rfl, Or.inr ⟨Or.inr ⟨gx2U hm, h1, h2⟩, rfl, rfl, rfl, rfl⟩⟩
def l_fault (rc : Int) (fc : Int) (kd : Int → Int) (fl : Int → Int) (lm : Int → Int) (fs : Int → Int) (i : Int) (k : Int) (z9 kk : Int)  : Prop := (kk = 0 ∧ ((0 ≤ i ∧ i < fc) ∧ 0 ≤ k ∧ k < 3) ∧ z9 = fs (i * 3 + k)) ∨ (kk = 1 ∧ ¬ ((0 ≤ i ∧ i < fc) ∧ 0 ≤ k ∧ k < 3))
theorem wl_fault (l : Launch) (D : va_G) (cA : Nat → ClassId) (hst : l.stackTraces = false) (rc : Int) (fc : Int) (kd : Int → Int) (fl : Int → Int) (lm : Int → Int) (fs : Int → Int) (i : Int) (k : Int) (f9 : Int → Int) (hfc : 0 ≤ fc ∧ fc ≤ 12) (hfs : ((0 ≤ i ∧ i < fc) ∧ 0 ≤ k ∧ k < 3) → inR (fs (i * 3 + k))) (hi : inR i) (hk : inR k) : gCW l D cA yL_fault mL_fault [(0, 10, 13, 24)] (some .int) 1 6 [gr 0, gi i, gi k, gr 82] ((82, gal 3 1 f9) :: pRu rc fc kd fl lm fs) (fun r9 w9 => ∃ (kk : Int) (f2 : Int → Int) , r9 = some (gi kk) ∧ w9 = (82, gal 3 1 f2) :: pRu rc fc kd fl lm fs ∧ l_fault rc fc kd fl lm fs i k (f2 0) kk ) := by
  refine gCW.mono (cw_fault l D cA hst i k f9 (fun l D cA hst => c_X7_fault l D cA hst rc fc kd fl lm fs i k hfc hi hk) rfl (fun r w' h => ⟨_, h.1, hfs h.2.2⟩) (fun E w' h => h.1)) ?_
  rintro r w' (⟨z, w2, ⟨e1, rfl, h1⟩, rfl, rfl⟩ | ⟨E, k, w2, ⟨rfl, rfl, h1⟩, hm, rfl, rfl⟩)
  · exact ⟨0, _, rfl, rfl, Or.inl ⟨rfl, h1, (gu_s _ _ _).trans (gso e1)⟩⟩
  · exact ⟨_, _, rfl, rfl, Or.inr ⟨gx1 hm, h1⟩⟩
def l_approve (ct : Int → Int) (ed : Int → Int) (ppl : Int → Int → Int) (p : Int) (e : Int) (who : Int) (z9 kk : Int) (ct2 : Int → Int) (ed2 : Int → Int) (ppl2 : Int → Int → Int) : Prop := (kk = 0 ∧ ((0 ≤ p ∧ p < 20) ∧ 0 ≤ e) ∧ ((0 < ct p ∧ e < ed p) ∨ (gLt ct ed p e ∧ ∃ j : Int, 0 ≤ j ∧ j < ct p ∧ ppl p j = who)) ∧ z9 = 0 ∧ ct2 = ct ∧ ed2 = ed ∧ ppl2 = ppl) ∨ (kk = 0 ∧ ((0 ≤ p ∧ p < 20) ∧ 0 ≤ e) ∧ ¬ ((0 < ct p ∧ e < ed p) ∨ (gLt ct ed p e ∧ ∃ j : Int, 0 ≤ j ∧ j < ct p ∧ ppl p j = who)) ∧ ¬ (gLt ct ed p e ∧ 6 ≤ ct p) ∧ z9 = 1 ∧ ct2 = gu ct p ((if gb (gLt ct ed p e) = 1 then ct p else 0) + 1) ∧ ed2 = gu ed p e ∧ ppl2 = gu2 ppl p (if gb (gLt ct ed p e) = 1 then ct p else 0) who) ∨ (((kk = 1 ∧ ¬ (0 ≤ p ∧ p < 20)) ∨ (kk = 2 ∧ (0 ≤ p ∧ p < 20) ∧ e < 0) ∨ (kk = 3 ∧ (0 ≤ p ∧ p < 20) ∧ 0 ≤ e ∧ ¬ ((0 < ct p ∧ e < ed p) ∨ (gLt ct ed p e ∧ ∃ j : Int, 0 ≤ j ∧ j < ct p ∧ ppl p j = who)) ∧ gLt ct ed p e ∧ 6 ≤ ct p)) ∧ ct2 = ct ∧ ed2 = ed ∧ ppl2 = ppl)
theorem wl_approve (l : Launch) (D : va_G) (cA : Nat → ClassId) (hst : l.stackTraces = false) (ct : Int → Int) (ed : Int → Int) (ppl : Int → Int → Int) (p : Int) (e : Int) (who : Int) (f9 : Int → Int) (hp : inR p) (hct : ∀ q : Int, 0 ≤ ct q ∧ ct q ≤ 6) (hed : ∀ q : Int, inR (ed q)) (he : inR e) (hq : ∀ p j : Int, inR (ppl p j)) (hwho : inR who) : gCW l D cA yL_approve mL_approve [(0, 12, 15, 13), (0, 12, 19, 19), (0, 12, 23, 29)] (some .int) 1 6 [gr 0, gi p, gi e, gi who, gr 82] ((82, gal 3 1 f9) :: pAp ct ed ppl) (fun r9 w9 => ∃ (kk : Int) (f2 : Int → Int) (ct2 : Int → Int) (ed2 : Int → Int) (ppl2 : Int → Int → Int), r9 = some (gi kk) ∧ w9 = (82, gal 3 1 f2) :: pAp ct2 ed2 ppl2 ∧ l_approve ct ed ppl p e who (f2 0) kk ct2 ed2 ppl2) := by
  refine gCW.mono (cw_approve l D cA hst p e who f9 (fun l D cA hst => c_X7_approve l D cA hst ct ed ppl p e who hp hct hed he hq hwho) rfl (fun r w' h => ?_) (fun E w' h => ?_)) ?_
  · obtain ⟨rr, ct2, ed2, ppl2, e1, -, -, ha, hb⟩ := h
    refine ⟨rr, e1, ?_⟩
    by_cases h0 : ((0 < ct p ∧ e < ed p) ∨ (gLt ct ed p e ∧ ∃ j : Int, 0 ≤ j ∧ j < ct p ∧ ppl p j = who))
    · rw [(ha h0).1]
      exact ⟨by omega, by omega⟩
    · rw [(hb h0).2.1]
      exact ⟨by omega, by omega⟩
  · rcases h.2 with h | h | h
    · exact Or.inl h.1
    · exact Or.inr (Or.inl h.1)
    · exact Or.inr (Or.inr h.1)
  · rintro r w' (⟨z, w2, ⟨rr, ct2, ed2, ppl2, e1, rfl, h1, ha, hb⟩, rfl, rfl⟩ | ⟨E, k, w2, ⟨rfl, ⟨rfl, h1⟩ | ⟨rfl, h1⟩ | ⟨rfl, h1⟩⟩, hm, rfl, rfl⟩)
    · refine ⟨0, _, _, _, _, rfl, rfl, ?_⟩
      have e9 := (gu_s f9 0 z).trans (gso e1)
      by_cases h0 : ((0 < ct p ∧ e < ed p) ∨ (gLt ct ed p e ∧ ∃ j : Int, 0 ≤ j ∧ j < ct p ∧ ppl p j = who))
      · obtain ⟨a1, a2, a3, a4⟩ := ha h0
        exact Or.inl ⟨rfl, h1, h0, e9.trans a1, a2, a3, a4⟩
      · obtain ⟨a1, a2, k2, rfl, a3, a4, a5⟩ := hb h0
        exact Or.inr (Or.inl ⟨rfl, h1, h0, a1, e9.trans a2, a3, a4, a5⟩)
    · exact ⟨_, _, _, _, _, rfl, rfl, Or.inr (Or.inr ⟨Or.inl ⟨gx3A hm, h1⟩, rfl, rfl, rfl⟩)⟩
    · exact ⟨_, _, _, _, _, rfl, rfl, Or.inr (Or.inr ⟨Or.inr (Or.inl ⟨gx3I hm, h1⟩), rfl, rfl, rfl⟩)⟩
    · exact ⟨_, _, _, _, _, rfl, rfl, Or.inr (Or.inr ⟨Or.inr (Or.inr ⟨gx3U hm, h1⟩), rfl, rfl, rfl⟩)⟩
def l_approved (ct : Int → Int) (ed : Int → Int) (ppl : Int → Int → Int) (p : Int) (z9 kk : Int)  : Prop := (kk = 0 ∧ (0 ≤ p ∧ p < 20) ∧ z9 = gb (2 ≤ ct p)) ∨ (kk = 1 ∧ ¬ (0 ≤ p ∧ p < 20))
theorem wl_approved (l : Launch) (D : va_G) (cA : Nat → ClassId) (hst : l.stackTraces = false) (ct : Int → Int) (ed : Int → Int) (ppl : Int → Int → Int) (p : Int) (f9 : Int → Int) (hp : inR p) (hct : ∀ q : Int, 0 ≤ ct q ∧ ct q ≤ 6) : gCW l D cA yL_approved mL_approved [(0, 16, 19, 13)] (some .int) 1 6 [gr 0, gi p, gr 82] ((82, gal 3 1 f9) :: pAp ct ed ppl) (fun r9 w9 => ∃ (kk : Int) (f2 : Int → Int) , r9 = some (gi kk) ∧ w9 = (82, gal 3 1 f2) :: pAp ct ed ppl ∧ l_approved ct ed ppl p (f2 0) kk ) := by
  refine gCW.mono (cw_approved l D cA hst p f9 (fun l D cA hst => c_X7_approved l D cA hst ct ed ppl p hp hct) rfl (fun r w' h => ⟨_, h.1, gb_01 _⟩) (fun E w' h => h.1)) ?_
  rintro r w' (⟨z, w2, ⟨e1, rfl, h1⟩, rfl, rfl⟩ | ⟨E, k, w2, ⟨rfl, rfl, h1⟩, hm, rfl, rfl⟩)
  · exact ⟨0, _, rfl, rfl, Or.inl ⟨rfl, h1, (gu_s _ _ _).trans (gso e1)⟩⟩
  · exact ⟨_, _, rfl, rfl, Or.inr ⟨gx1 hm, h1⟩⟩
theorem aw_point : gCalW yL_point mL_point [(0, 14, 17, 13)] (some .int) 6 := by
  unfold gCalW
  decide +kernel
theorem aw_bound : gCalW yL_bound mL_bound [(0, 10, 13, 19)] (some .int) 4 := by
  unfold gCalW
  decide +kernel
theorem aw_box : gCalW yL_box mL_box [(0, 10, 13, 24)] (some .int) 4 := by
  unfold gCalW
  decide +kernel
theorem aw_word : gCalW yL_word mL_word [(0, 14, 17, 13), (0, 14, 21, 19), (0, 14, 25, 29)] (some .int) 6 := by
  unfold gCalW
  decide +kernel
theorem aw_words : gCalW yL_words mL_words [(0, 10, 13, 24)] (some .int) 4 := by
  unfold gCalW
  decide +kernel
theorem aw_size : gCalW yL_size mL_size [(0, 14, 17, 13), (0, 14, 21, 19)] (some .int) 6 := by
  unfold gCalW
  decide +kernel
theorem aw_missing : gCalW yL_missing mL_missing [(0, 9, 12, 24)] (some .int) 3 := by
  unfold gCalW
  decide +kernel
theorem aw_rule : gCalW yL_rule mL_rule [(0, 12, 15, 19), (0, 12, 19, 29)] (some .int) 5 := by
  unfold gCalW
  decide +kernel
theorem aw_fault : gCalW yL_fault mL_fault [(0, 10, 13, 24)] (some .int) 4 := by
  unfold gCalW
  decide +kernel
theorem aw_approve : gCalW yL_approve mL_approve [(0, 12, 15, 13), (0, 12, 19, 19), (0, 12, 23, 29)] (some .int) 5 := by
  unfold gCalW
  decide +kernel
theorem aw_approved : gCalW yL_approved mL_approved [(0, 16, 19, 13)] (some .int) 3 := by
  unfold gCalW
  decide +kernel
