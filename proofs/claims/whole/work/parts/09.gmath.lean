/-! Math.max, min, abs, System.arraycopy, arrays of arrays, switches, over G -/
theorem wm_max : Cond.static Lib.Math.max.name ∈ gtb ∧ Cond.initialized "java/lang/Math" ∈ gtb ∧ Cond.code Lib.Math.max.name Lib.Math.max.code 2 (some .int) ∈ gtb := by decide +kernel
theorem wm_min : Cond.static Lib.Math.min.name ∈ gtb ∧ Cond.initialized "java/lang/Math" ∈ gtb ∧ Cond.code Lib.Math.min.name Lib.Math.min.code 2 (some .int) ∈ gtb := by decide +kernel
theorem wm_abs : Cond.static Lib.Math.abs.name ∈ gtb ∧ Cond.initialized "java/lang/Math" ∈ gtb ∧ Cond.code Lib.Math.abs.name Lib.Math.abs.code 1 (some .int) ∈ gtb := by decide +kernel
theorem wm_cpy : Cond.native arraycopyName ∈ gtb ∧ Cond.static arraycopyName ∈ gtb ∧ Cond.initialized "java/lang/System" ∈ gtb := by decide +kernel
theorem g_mmax {X : gX} {mm : gM} {ad : Nat → Nat} {kc ks : Nat} (hX : gOk X mm) {w : gW} {pc : Nat} {lv : List (Nat × gV)} {st : List gV} {x y : Int} {idx : Nat} (hi : gfet pc mm.2.2.2.1 = some (.invokestatic idx, 3)) (hl1 : Cond.methodLink mm.2.2.1 idx Lib.Math.max.name ∈ gtb) (hr : (1 ≤ mm.2.2.2.2.2.frames ∧ gstk st + 13 ≤ mm.2.2.2.2.2.locals) ∧ kc ≤ mm.2.2.2.2.2.cells ∧ ks ≤ mm.2.2.2.2.2.slots) (hx : inR x) (hy : inR y) (k : G X mm ad kc ks (w, pc + 3, lv, .inl (max x y) :: st)) : G X mm ad kc ks (w, pc, lv, .inl y :: .inl x :: st) := by
  have hd := (hX.m.1 _ (gfet_mem hi)).1
  obtain ⟨p, l, e, R, s, m, args, below, meth, c, D, cA, A, H0, Q⟩ := X
  obtain ⟨hxc, hb, hml, hown, hts, hK, hlk, hA, hR, hM⟩ := hX
  intro H locs ls hP hD hS hl
  refine va_mmax hxc hb (by rw [hml]; exact hl.1.symm) hown (hts _ hl1) (hts _ wm_max.1) (hts _ wm_max.2.1) (hts _ wm_max.2.2) (by rw [hR]; exact hr.1.1) (by rw [gstk_ok, hR]; exact hr.1.2) (by rw [hR]; exact hr.2.1) (by rw [hR]; exact hr.2.2) hd ?_
  have e9 : (if Int32.ofInt x < Int32.ofInt y then Int32.ofInt y else Int32.ofInt x) = Int32.ofInt (max x y) := by
    by_cases h : x < y
    · rw [if_pos ((gI_lt hx hy).mpr h)]; congr 1; omega
    · rw [if_neg (fun h9 => h ((gI_lt hx hy).mp h9))]; congr 1; omega
  rw [e9]
  exact k H locs ls hP hD hS hl
theorem g_mmin {X : gX} {mm : gM} {ad : Nat → Nat} {kc ks : Nat} (hX : gOk X mm) {w : gW} {pc : Nat} {lv : List (Nat × gV)} {st : List gV} {x y : Int} {idx : Nat} (hi : gfet pc mm.2.2.2.1 = some (.invokestatic idx, 3)) (hl1 : Cond.methodLink mm.2.2.1 idx Lib.Math.min.name ∈ gtb) (hr : (1 ≤ mm.2.2.2.2.2.frames ∧ gstk st + 13 ≤ mm.2.2.2.2.2.locals) ∧ kc ≤ mm.2.2.2.2.2.cells ∧ ks ≤ mm.2.2.2.2.2.slots) (hx : inR x) (hy : inR y) (k : G X mm ad kc ks (w, pc + 3, lv, .inl (min x y) :: st)) : G X mm ad kc ks (w, pc, lv, .inl y :: .inl x :: st) := by
  have hd := (hX.m.1 _ (gfet_mem hi)).1
  obtain ⟨p, l, e, R, s, m, args, below, meth, c, D, cA, A, H0, Q⟩ := X
  obtain ⟨hxc, hb, hml, hown, hts, hK, hlk, hA, hR, hM⟩ := hX
  intro H locs ls hP hD hS hl
  refine va_mmin hxc hb (by rw [hml]; exact hl.1.symm) hown (hts _ hl1) (hts _ wm_min.1) (hts _ wm_min.2.1) (hts _ wm_min.2.2) (by rw [hR]; exact hr.1.1) (by rw [gstk_ok, hR]; exact hr.1.2) (by rw [hR]; exact hr.2.1) (by rw [hR]; exact hr.2.2) hd ?_
  have e9 : (if Int32.ofInt y < Int32.ofInt x then Int32.ofInt y else Int32.ofInt x) = Int32.ofInt (min x y) := by
    by_cases h : y < x
    · rw [if_pos ((gI_lt hy hx).mpr h)]; congr 1; omega
    · rw [if_neg (fun h9 => h ((gI_lt hy hx).mp h9))]; congr 1; omega
  rw [e9]
  exact k H locs ls hP hD hS hl
theorem g_mabs {X : gX} {mm : gM} {ad : Nat → Nat} {kc ks : Nat} (hX : gOk X mm) {w : gW} {pc : Nat} {lv : List (Nat × gV)} {st : List gV} {x : Int} {idx : Nat} (hi : gfet pc mm.2.2.2.1 = some (.invokestatic idx, 3)) (hl1 : Cond.methodLink mm.2.2.1 idx Lib.Math.abs.name ∈ gtb) (hr : (1 ≤ mm.2.2.2.2.2.frames ∧ gstk st + 13 ≤ mm.2.2.2.2.2.locals) ∧ kc ≤ mm.2.2.2.2.2.cells ∧ ks ≤ mm.2.2.2.2.2.slots) (hx : inR x) (k : G X mm ad kc ks (w, pc + 3, lv, .inl (max x (-x)) :: st)) : G X mm ad kc ks (w, pc, lv, .inl x :: st) := by
  have hd := (hX.m.1 _ (gfet_mem hi)).1
  obtain ⟨p, l, e, R, s, m, args, below, meth, c, D, cA, A, H0, Q⟩ := X
  obtain ⟨hxc, hb, hml, hown, hts, hK, hlk, hA, hR, hM⟩ := hX
  intro H locs ls hP hD hS hl
  refine va_mabs hxc hb (by rw [hml]; exact hl.1.symm) hown (hts _ hl1) (hts _ wm_abs.1) (hts _ wm_abs.2.1) (hts _ wm_abs.2.2) (by rw [hR]; exact hr.1.1) (by rw [gstk_ok, hR]; exact hr.1.2) (by rw [hR]; exact hr.2.1) (by rw [hR]; exact hr.2.2) hd ?_
  have h0 : inR 0 := ⟨by omega, by omega⟩
  have e9 : (if 0 ≤ Int32.ofInt x then Int32.ofInt x else 0 - Int32.ofInt x) = Int32.ofInt (max x (-x)) := by
    have e0 : (0 : Int32) = Int32.ofInt 0 := rfl
    rw [e0]
    by_cases h : 0 ≤ x
    · rw [if_pos ((gI_le h0 hx).mpr h)]; congr 1; omega
    · rw [if_neg (fun h9 => h ((gI_le h0 hx).mp h9)), show max x (-x) = 0 - x by omega, Int32.ofInt_sub]
  rw [e9]
  exact k H locs ls hP hD hS hl
/-- f's n numbers from sp on, at dp in g -/
def gcp (f g : Int → Int) (sp dp n : Int) : Int → Int := fun j => if dp ≤ j ∧ j < dp + n then f (sp + (j - dp)) else g j
theorem gI_cpy {f g : Int → Int} {sp dp n : Int} {n1 : Nat} (h1 : 0 ≤ sp) (h2 : 0 ≤ dp) (h3 : 0 ≤ n) (h4 : sp ≤ 2147483647) (h5 : dp ≤ 2147483647) (h6 : n ≤ 2147483647) : va_cpy (fun j : Nat => Int32.ofInt (f (j : Int))) (fun j : Nat => Int32.ofInt (g (j : Int))) (Int32.ofInt sp).toNatClampNeg (Int32.ofInt dp).toNatClampNeg (Int32.ofInt n).toNatClampNeg = (fun j : Nat => Int32.ofInt (gcp f g sp dp n (j : Int))) := by
  funext j
  rw [gI_cl h1 h4, gI_cl h2 h5, gI_cl h3 h6]
  simp only [va_cpy, gcp]
  by_cases hj : dp ≤ (j : Int) ∧ (j : Int) < dp + n
  · have h9 : dp.toNat ≤ j ∧ j < dp.toNat + n.toNat := by omega
    rw [if_pos h9, if_pos hj]
    congr 2
    omega
  · have h9 : ¬ (dp.toNat ≤ j ∧ j < dp.toNat + n.toNat) := by omega
    rw [if_neg h9, if_neg hj]
theorem g_copy {X : gX} {mm : gM} {ad : Nat → Nat} {kc ks : Nat} (hX : gOk X mm) {w : gW} {pc : Nat} {lv : List (Nat × gV)} {st : List gV} {sp dp n : Int} {o0 o1 idx : Nat} {n0 n1 : Nat} {f g : Int → Int} (hi : gfet pc mm.2.2.2.1 = some (.invokestatic idx, 3)) (hl1 : Cond.methodLink mm.2.2.1 idx arraycopyName ∈ gtb) (hr : 1 ≤ mm.2.2.2.2.2.frames ∧ gstk st + 18 ≤ mm.2.2.2.2.2.locals) (h0 : gwl o0 w = some (gai 0 n0 f)) (h1 : gwl o1 w = some (gai 0 n1 g)) (hb1 : 0 ≤ sp ∧ 0 ≤ dp ∧ 0 ≤ n ∧ sp + n ≤ n0 ∧ dp + n ≤ n1 ∧ (n0 : Int) ≤ 2147483647 ∧ (n1 : Int) ≤ 2147483647)
    (k : G X mm ad kc ks (gws o1 (gai 0 n1 (gcp f g sp dp n)) w, pc + 3, lv, st)) : G X mm ad kc ks (w, pc, lv, .inl n :: .inl dp :: gr o1 :: .inl sp :: gr o0 :: st) := by
  have hd := (hX.m.1 _ (gfet_mem hi)).1
  obtain ⟨p, l, e, R, s, m, args, below, meth, c, D, cA, A, H0, Q⟩ := X
  obtain ⟨hxc, hb, hml, hown, hts, hK, hlk, hA, hR, hM⟩ := hX
  obtain ⟨g1, g2, g3, g4, g5, g6, g7⟩ := hb1
  have z0 : inR 0 := ⟨by omega, by omega⟩
  have nn : ∀ z : Int, 0 ≤ z → z ≤ 2147483647 → ¬ Int32.ofInt z < 0 := fun z a b h => by
    have := (gI_lt ⟨by omega, by omega⟩ z0).mp h
    omega
  intro H locs ls hP hD hS hl
  obtain ⟨q0, hq0, -⟩ := gwl_ix h0
  obtain ⟨q1, hq1, hset⟩ := gwl_ix h1
  refine va_copyi (D := D) (ty := .int) hxc hb (by rw [hml]; exact hl.1.symm) hown (hts _ hl1) (hts _ wm_cpy.1) (hts _ wm_cpy.2.1) (hts _ wm_cpy.2.2) hK hP hD hS q0 q1 0 0 (gw_at hq0) (gw_at hq1) rfl rfl rfl (nn sp g1 (by omega)) (nn dp g2 (by omega)) (nn n g3 (by omega)) (by rw [gI_cl g1 (by omega), gI_cl g3 (by omega)]; omega) (by rw [gI_cl g2 (by omega), gI_cl g3 (by omega)]; omega) (fun _ _ => rfl) (by rw [hR]; exact hr.1) (by rw [gstk_ok, hR]; exact hr.2) hd (fun H1 locs1 hP1 hD1 hS1 => ?_)
  rw [gI_cpy (n1 := n1) g1 g2 g3 (by omega) (by omega) (by omega)] at hP1 hD1
  refine k H1 locs1 ls ?_ ?_ hS1 hl
  · show va_P D vwCl (gw cA ad (gws o1 _ w)) H1
    rw [hset, gw_set]
    exact hP1
  · show va_D A (gw cA ad (gws o1 _ w))
    rw [hset, gw_set]
    exact hD1
/-- a row of an array of arrays: which cell it is has to be known -/
theorem g_aald {X : gX} {mm : gM} {ad : Nat → Nat} {kc ks : Nat} (hX : gOk X mm) {w : gW} {pc : Nat} {lv : List (Nat × gV)} {st : List gV} {z : Int} {o : Nat} {n : Nat} {f : Int → Option Nat} (y : Nat) (hi : gfet pc mm.2.2.2.1 = some (.aaload, 1)) (h0 : gwl o w = some (gar 2 n f)) (hz : 0 ≤ z ∧ z < (n : Int) ∧ (n : Int) ≤ 2147483647) (hy : f z = some y) (k : G X mm ad kc ks (w, pc + 1, lv, gr y :: st)) : G X mm ad kc ks (w, pc, lv, .inl z :: gr o :: st) := by
  have hd := (hX.m.1 _ (gfet_mem hi)).1
  obtain ⟨p, l, e, R, s, m, args, below, meth, c, D, cA, A, H0, Q⟩ := X
  obtain ⟨hxc, hb, hml, hown, hts, hK, hlk, hA, hR, hM⟩ := hX
  intro H locs ls hP hD hS hl
  obtain ⟨q0, hq0, -⟩ := gwl_ix h0
  have hin := gI_in hz
  have hlt : (Int32.ofInt z).toNatClampNeg < n := Nat.not_le.mp fun q => hin (Or.inr q)
  have hv : (f (((Int32.ofInt z).toNatClampNeg : Nat) : Int)).map ad = some (ad y) := by
    rw [gI_cl hz.1 (by omega), Int.toNat_of_nonneg hz.1, hy]
    rfl
  exact W.aald (v := .ref (ad y)) (ty := .array .int) hxc hb (hP q0 _ (gw_at hq0)) ((hK.2 2 _ rfl).1 n (fun j => va_rf ((f (j : Int)).map ad))) rfl (fun q => by cases q) (by show ¬ (Int32.ofInt z < 0 ∨ (arrV _ _ _).slots.size ≤ _); rw [arrV_size]; exact hin) (by show (arrV _ _ _).slots[_]? = _; rw [arrV_read _ _ hlt]; show some (va_rf ((f (((Int32.ofInt z).toNatClampNeg : Nat) : Int)).map ad)) = _; rw [hv]; rfl) rfl rfl hd (k H locs ls hP hD hS hl)
theorem g_swIn {X : gX} {mm : gM} {ad : Nat → Nat} {kc ks : Nat} (hX : gOk X mm) {w : gW} {pc : Nat} {lv : List (Nat × gV)} {st : List gV} {x : Int} {dflt lo hi : Int} {offs : Array Int} {len : Nat} {off : Int} (tgt : Nat) (hf : gfet pc mm.2.2.2.1 = some (.tableswitch dflt lo hi offs, len)) (hx : inR x) (h1 : lo ≤ x) (h2 : x ≤ hi) (ho : offs[(x - lo).toNat]? = some off) (ht : (pc : Int) + off = (tgt : Int)) (k : G X mm ad kc ks (w, tgt, lv, st)) : G X mm ad kc ks (w, pc, lv, .inl x :: st) := by
  have hd := (hX.m.1 _ (gfet_mem hf)).1
  obtain ⟨p, l, e, R, s, m, args, below, meth, c, D, cA, A, H0, Q⟩ := X
  obtain ⟨hxc, hb, hml, hown, hts, hK, hlk, hA, hR, hM⟩ := hX
  intro H locs ls hP hD hS hl
  exact lv_tableIn hxc hb hd (by rw [gI_toInt hx]; omega) (by rw [gI_toInt hx]; omega) (by rw [gI_toInt hx]; exact ho) ht (k H locs ls hP hD hS hl)
theorem g_swOut {X : gX} {mm : gM} {ad : Nat → Nat} {kc ks : Nat} (hX : gOk X mm) {w : gW} {pc : Nat} {lv : List (Nat × gV)} {st : List gV} {x : Int} {dflt lo hi : Int} {offs : Array Int} {len : Nat} (tgt : Nat) (hf : gfet pc mm.2.2.2.1 = some (.tableswitch dflt lo hi offs, len)) (hx : inR x) (h1 : x < lo ∨ hi < x) (ht : (pc : Int) + dflt = (tgt : Int)) (k : G X mm ad kc ks (w, tgt, lv, st)) : G X mm ad kc ks (w, pc, lv, .inl x :: st) := by
  have hd := (hX.m.1 _ (gfet_mem hf)).1
  obtain ⟨p, l, e, R, s, m, args, below, meth, c, D, cA, A, H0, Q⟩ := X
  obtain ⟨hxc, hb, hml, hown, hts, hK, hlk, hA, hR, hM⟩ := hX
  intro H locs ls hP hD hS hl
  exact lv_tableOut hxc hb hd (by rw [gI_toInt hx]; exact h1) ht (k H locs ls hP hD hS hl)
/-- 1 if it holds, else 0 -/
noncomputable def gb (P : Prop) : Int := @ite Int P (Classical.propDecidable P) 1 0
theorem gb_t {P : Prop} (h : P) : gb P = 1 := by unfold gb; exact if_pos h
theorem gb_f {P : Prop} (h : ¬ P) : gb P = 0 := by unfold gb; exact if_neg h
theorem gb_01 (P : Prop) : gb P = 0 ∨ gb P = 1 := (Classical.em P).elim (fun h => Or.inr (gb_t h)) (fun h => Or.inl (gb_f h))
theorem gb_0 {P : Prop} : gb P = 0 ↔ ¬ P := ⟨fun h hp => by (rw [gb_t hp] at h; cases h), gb_f⟩
theorem gb_1 {P : Prop} : gb P = 1 ↔ P := ⟨fun h => Classical.byContradiction fun hp => by (rw [gb_f hp] at h; cases h), gb_t⟩
theorem gb_r (P : Prop) : inR (gb P) := by rcases gb_01 P with h | h <;> rw [h] <;> exact ⟨by omega, by omega⟩
theorem gb_c {P Q : Prop} (h : P ↔ Q) : gb P = gb Q := by rw [propext h]
