/-! rows over G: a run of straight instructions, branches, the way into and out of a method, calls -/
def gcat (O1 : Option Prop) (O2 : Prop) : Prop := match O1 with
  | none => O2
  | some P => P ∧ O2
/-- n straight instructions; what has to hold for them (indices in range) -/
def grun (is : List gI) (ft : List gFt) : Nat → gS → Option (gS × Prop)
  | 0, S => some (S, True)
  | n + 1, S => match gfet S.2.1 is with
    | none => none
    | some (i, len) => match gstep ft i len S with
      | none => none
      | some (S1, O1) => match grun is ft n S1 with
        | none => none
        | some (S2, O2) => some (S2, gcat O1 O2)
theorem gOk.m {X : gX} {mm : gM} (h : gOk X mm) : gOkM mm := by
  obtain ⟨p, l, e, R, s, m, args, below, meth, c, D, cA, A, H0, Q⟩ := X
  exact h.2.2.2.2.2.2.2.2.2
theorem G.go {X : gX} {mm : gM} {ad : Nat → Nat} {kc ks : Nat} (hX : gOk X mm) (n : Nat) {S : gS} (S' : gS) {O : Prop} (h : grun mm.2.2.2.1 mm.2.2.2.2.1 n S = some (S', O)) (hO : O) (k : G X mm ad kc ks S') : G X mm ad kc ks S := by
  induction n generalizing S O with
  | zero =>
    unfold grun at h
    cases h
    exact k
  | succ n ih =>
    unfold grun at h
    cases hf : gfet S.2.1 mm.2.2.2.1 with
    | none => simp only [hf] at h; cases h
    | some q =>
      obtain ⟨i, len⟩ := q
      simp only [hf] at h
      cases hs : gstep mm.2.2.2.2.1 i len S with
      | none => simp only [hs] at h; cases h
      | some q =>
        obtain ⟨S1, O1⟩ := q
        simp only [hs] at h
        cases hr : grun mm.2.2.2.1 mm.2.2.2.2.1 n S1 with
        | none => simp only [hr] at h; cases h
        | some q =>
          obtain ⟨S2, O2⟩ := q
          simp only [hr] at h
          cases h
          have hO2 : O2 := by
            cases O1 with
            | none => exact hO
            | some P => exact hO.2
          refine gstep_ok hX (gfet_mem hf) hs (fun P hP => ?_) (ih hr hO2)
          subst hP
          exact hO.1
/-- another picture of the same state -/
theorem G.eq {X : gX} {mm : gM} {ad : Nat → Nat} {kc ks : Nat} {S S' : gS} (h : S = S') (k : G X mm ad kc ks S') : G X mm ad kc ks S := h ▸ k
theorem g_icmp_eq {X : gX} {mm : gM} {ad : Nat → Nat} {kc ks : Nat} (hX : gOk X mm) {w : gW} {pc : Nat} (tgt : Nat) {off : Int} {lv : List (Nat × gV)} {st : List gV} {x y : Int} (hi : gfet pc mm.2.2.2.1 = some (.if_icmp .eq off, 3)) (ht : (pc : Int) + off = (tgt : Int)) (hx : inR x) (hy : inR y) (kt : x = y → G X mm ad kc ks (w, tgt, lv, st)) (kf : ¬ (x = y) → G X mm ad kc ks (w, pc + 3, lv, st)) : G X mm ad kc ks (w, pc, lv, .inl y :: .inl x :: st) := by
  have hd := (hX.m.1 _ (gfet_mem hi)).1
  obtain ⟨p, l, e, R, s, m, args, below, meth, c, D, cA, A, H0, Q⟩ := X
  obtain ⟨hxc, hb, hml, hown, hts, hK, hlk, hA, hR, hM⟩ := hX
  intro H locs ls hP hD hS hl
  exact lv_icmp_eq (tgt := tgt) hxc hb hd ht (fun h => kt ((gI_eq hx hy).mp h) H locs ls hP hD hS hl) (fun h => kf (fun h9 => h ((gI_eq hx hy).mpr h9)) H locs ls hP hD hS hl)
theorem g_icmp_ne {X : gX} {mm : gM} {ad : Nat → Nat} {kc ks : Nat} (hX : gOk X mm) {w : gW} {pc : Nat} (tgt : Nat) {off : Int} {lv : List (Nat × gV)} {st : List gV} {x y : Int} (hi : gfet pc mm.2.2.2.1 = some (.if_icmp .ne off, 3)) (ht : (pc : Int) + off = (tgt : Int)) (hx : inR x) (hy : inR y) (kt : ¬ x = y → G X mm ad kc ks (w, tgt, lv, st)) (kf : ¬ (¬ x = y) → G X mm ad kc ks (w, pc + 3, lv, st)) : G X mm ad kc ks (w, pc, lv, .inl y :: .inl x :: st) := by
  have hd := (hX.m.1 _ (gfet_mem hi)).1
  obtain ⟨p, l, e, R, s, m, args, below, meth, c, D, cA, A, H0, Q⟩ := X
  obtain ⟨hxc, hb, hml, hown, hts, hK, hlk, hA, hR, hM⟩ := hX
  intro H locs ls hP hD hS hl
  exact lv_icmp_ne (tgt := tgt) hxc hb hd ht (fun h => kt ((not_congr (gI_eq hx hy)).mp h) H locs ls hP hD hS hl) (fun h => kf (fun h9 => h9 ((gI_eq hx hy).mp h)) H locs ls hP hD hS hl)
theorem g_icmp_lt {X : gX} {mm : gM} {ad : Nat → Nat} {kc ks : Nat} (hX : gOk X mm) {w : gW} {pc : Nat} (tgt : Nat) {off : Int} {lv : List (Nat × gV)} {st : List gV} {x y : Int} (hi : gfet pc mm.2.2.2.1 = some (.if_icmp .lt off, 3)) (ht : (pc : Int) + off = (tgt : Int)) (hx : inR x) (hy : inR y) (kt : x < y → G X mm ad kc ks (w, tgt, lv, st)) (kf : ¬ (x < y) → G X mm ad kc ks (w, pc + 3, lv, st)) : G X mm ad kc ks (w, pc, lv, .inl y :: .inl x :: st) := by
  have hd := (hX.m.1 _ (gfet_mem hi)).1
  obtain ⟨p, l, e, R, s, m, args, below, meth, c, D, cA, A, H0, Q⟩ := X
  obtain ⟨hxc, hb, hml, hown, hts, hK, hlk, hA, hR, hM⟩ := hX
  intro H locs ls hP hD hS hl
  exact lv_icmp_lt (tgt := tgt) hxc hb hd ht (fun h => kt ((gI_lt hx hy).mp h) H locs ls hP hD hS hl) (fun h => kf (fun h9 => h ((gI_lt hx hy).mpr h9)) H locs ls hP hD hS hl)
theorem g_icmp_ge {X : gX} {mm : gM} {ad : Nat → Nat} {kc ks : Nat} (hX : gOk X mm) {w : gW} {pc : Nat} (tgt : Nat) {off : Int} {lv : List (Nat × gV)} {st : List gV} {x y : Int} (hi : gfet pc mm.2.2.2.1 = some (.if_icmp .ge off, 3)) (ht : (pc : Int) + off = (tgt : Int)) (hx : inR x) (hy : inR y) (kt : y ≤ x → G X mm ad kc ks (w, tgt, lv, st)) (kf : ¬ (y ≤ x) → G X mm ad kc ks (w, pc + 3, lv, st)) : G X mm ad kc ks (w, pc, lv, .inl y :: .inl x :: st) := by
  have hd := (hX.m.1 _ (gfet_mem hi)).1
  obtain ⟨p, l, e, R, s, m, args, below, meth, c, D, cA, A, H0, Q⟩ := X
  obtain ⟨hxc, hb, hml, hown, hts, hK, hlk, hA, hR, hM⟩ := hX
  intro H locs ls hP hD hS hl
  exact lv_icmp_ge (tgt := tgt) hxc hb hd ht (fun h => kt ((gI_le hy hx).mp h) H locs ls hP hD hS hl) (fun h => kf (fun h9 => h ((gI_le hy hx).mpr h9)) H locs ls hP hD hS hl)
theorem g_icmp_gt {X : gX} {mm : gM} {ad : Nat → Nat} {kc ks : Nat} (hX : gOk X mm) {w : gW} {pc : Nat} (tgt : Nat) {off : Int} {lv : List (Nat × gV)} {st : List gV} {x y : Int} (hi : gfet pc mm.2.2.2.1 = some (.if_icmp .gt off, 3)) (ht : (pc : Int) + off = (tgt : Int)) (hx : inR x) (hy : inR y) (kt : y < x → G X mm ad kc ks (w, tgt, lv, st)) (kf : ¬ (y < x) → G X mm ad kc ks (w, pc + 3, lv, st)) : G X mm ad kc ks (w, pc, lv, .inl y :: .inl x :: st) := by
  have hd := (hX.m.1 _ (gfet_mem hi)).1
  obtain ⟨p, l, e, R, s, m, args, below, meth, c, D, cA, A, H0, Q⟩ := X
  obtain ⟨hxc, hb, hml, hown, hts, hK, hlk, hA, hR, hM⟩ := hX
  intro H locs ls hP hD hS hl
  exact lv_icmp_gt (tgt := tgt) hxc hb hd ht (fun h => kt ((gI_lt hy hx).mp h) H locs ls hP hD hS hl) (fun h => kf (fun h9 => h ((gI_lt hy hx).mpr h9)) H locs ls hP hD hS hl)
theorem g_icmp_le {X : gX} {mm : gM} {ad : Nat → Nat} {kc ks : Nat} (hX : gOk X mm) {w : gW} {pc : Nat} (tgt : Nat) {off : Int} {lv : List (Nat × gV)} {st : List gV} {x y : Int} (hi : gfet pc mm.2.2.2.1 = some (.if_icmp .le off, 3)) (ht : (pc : Int) + off = (tgt : Int)) (hx : inR x) (hy : inR y) (kt : x ≤ y → G X mm ad kc ks (w, tgt, lv, st)) (kf : ¬ (x ≤ y) → G X mm ad kc ks (w, pc + 3, lv, st)) : G X mm ad kc ks (w, pc, lv, .inl y :: .inl x :: st) := by
  have hd := (hX.m.1 _ (gfet_mem hi)).1
  obtain ⟨p, l, e, R, s, m, args, below, meth, c, D, cA, A, H0, Q⟩ := X
  obtain ⟨hxc, hb, hml, hown, hts, hK, hlk, hA, hR, hM⟩ := hX
  intro H locs ls hP hD hS hl
  exact lv_icmp_le (tgt := tgt) hxc hb hd ht (fun h => kt ((gI_le hx hy).mp h) H locs ls hP hD hS hl) (fun h => kf (fun h9 => h ((gI_le hx hy).mpr h9)) H locs ls hP hD hS hl)
theorem g_if_eq {X : gX} {mm : gM} {ad : Nat → Nat} {kc ks : Nat} (hX : gOk X mm) {w : gW} {pc : Nat} (tgt : Nat) {off : Int} {lv : List (Nat × gV)} {st : List gV} {x : Int} (hi : gfet pc mm.2.2.2.1 = some (.ifCond .eq off, 3)) (ht : (pc : Int) + off = (tgt : Int)) (hx : inR x) (kt : x = 0 → G X mm ad kc ks (w, tgt, lv, st)) (kf : ¬ (x = 0) → G X mm ad kc ks (w, pc + 3, lv, st)) : G X mm ad kc ks (w, pc, lv, .inl x :: st) := by
  have hd := (hX.m.1 _ (gfet_mem hi)).1
  obtain ⟨p, l, e, R, s, m, args, below, meth, c, D, cA, A, H0, Q⟩ := X
  obtain ⟨hxc, hb, hml, hown, hts, hK, hlk, hA, hR, hM⟩ := hX
  have hy : inR 0 := ⟨by omega, by omega⟩
  intro H locs ls hP hD hS hl
  exact lv_if_eq (tgt := tgt) hxc hb hd ht (fun h => kt ((gI_eq hx hy).mp h) H locs ls hP hD hS hl) (fun h => kf (fun h9 => h ((gI_eq hx hy).mpr h9)) H locs ls hP hD hS hl)
theorem g_if_ne {X : gX} {mm : gM} {ad : Nat → Nat} {kc ks : Nat} (hX : gOk X mm) {w : gW} {pc : Nat} (tgt : Nat) {off : Int} {lv : List (Nat × gV)} {st : List gV} {x : Int} (hi : gfet pc mm.2.2.2.1 = some (.ifCond .ne off, 3)) (ht : (pc : Int) + off = (tgt : Int)) (hx : inR x) (kt : ¬ x = 0 → G X mm ad kc ks (w, tgt, lv, st)) (kf : ¬ (¬ x = 0) → G X mm ad kc ks (w, pc + 3, lv, st)) : G X mm ad kc ks (w, pc, lv, .inl x :: st) := by
  have hd := (hX.m.1 _ (gfet_mem hi)).1
  obtain ⟨p, l, e, R, s, m, args, below, meth, c, D, cA, A, H0, Q⟩ := X
  obtain ⟨hxc, hb, hml, hown, hts, hK, hlk, hA, hR, hM⟩ := hX
  have hy : inR 0 := ⟨by omega, by omega⟩
  intro H locs ls hP hD hS hl
  exact lv_if_ne (tgt := tgt) hxc hb hd ht (fun h => kt ((not_congr (gI_eq hx hy)).mp h) H locs ls hP hD hS hl) (fun h => kf (fun h9 => h9 ((gI_eq hx hy).mp h)) H locs ls hP hD hS hl)
theorem g_if_lt {X : gX} {mm : gM} {ad : Nat → Nat} {kc ks : Nat} (hX : gOk X mm) {w : gW} {pc : Nat} (tgt : Nat) {off : Int} {lv : List (Nat × gV)} {st : List gV} {x : Int} (hi : gfet pc mm.2.2.2.1 = some (.ifCond .lt off, 3)) (ht : (pc : Int) + off = (tgt : Int)) (hx : inR x) (kt : x < 0 → G X mm ad kc ks (w, tgt, lv, st)) (kf : ¬ (x < 0) → G X mm ad kc ks (w, pc + 3, lv, st)) : G X mm ad kc ks (w, pc, lv, .inl x :: st) := by
  have hd := (hX.m.1 _ (gfet_mem hi)).1
  obtain ⟨p, l, e, R, s, m, args, below, meth, c, D, cA, A, H0, Q⟩ := X
  obtain ⟨hxc, hb, hml, hown, hts, hK, hlk, hA, hR, hM⟩ := hX
  have hy : inR 0 := ⟨by omega, by omega⟩
  intro H locs ls hP hD hS hl
  exact lv_if_lt (tgt := tgt) hxc hb hd ht (fun h => kt ((gI_lt hx hy).mp h) H locs ls hP hD hS hl) (fun h => kf (fun h9 => h ((gI_lt hx hy).mpr h9)) H locs ls hP hD hS hl)
theorem g_if_ge {X : gX} {mm : gM} {ad : Nat → Nat} {kc ks : Nat} (hX : gOk X mm) {w : gW} {pc : Nat} (tgt : Nat) {off : Int} {lv : List (Nat × gV)} {st : List gV} {x : Int} (hi : gfet pc mm.2.2.2.1 = some (.ifCond .ge off, 3)) (ht : (pc : Int) + off = (tgt : Int)) (hx : inR x) (kt : 0 ≤ x → G X mm ad kc ks (w, tgt, lv, st)) (kf : ¬ (0 ≤ x) → G X mm ad kc ks (w, pc + 3, lv, st)) : G X mm ad kc ks (w, pc, lv, .inl x :: st) := by
  have hd := (hX.m.1 _ (gfet_mem hi)).1
  obtain ⟨p, l, e, R, s, m, args, below, meth, c, D, cA, A, H0, Q⟩ := X
  obtain ⟨hxc, hb, hml, hown, hts, hK, hlk, hA, hR, hM⟩ := hX
  have hy : inR 0 := ⟨by omega, by omega⟩
  intro H locs ls hP hD hS hl
  exact lv_if_ge (tgt := tgt) hxc hb hd ht (fun h => kt ((gI_le hy hx).mp h) H locs ls hP hD hS hl) (fun h => kf (fun h9 => h ((gI_le hy hx).mpr h9)) H locs ls hP hD hS hl)
theorem g_if_gt {X : gX} {mm : gM} {ad : Nat → Nat} {kc ks : Nat} (hX : gOk X mm) {w : gW} {pc : Nat} (tgt : Nat) {off : Int} {lv : List (Nat × gV)} {st : List gV} {x : Int} (hi : gfet pc mm.2.2.2.1 = some (.ifCond .gt off, 3)) (ht : (pc : Int) + off = (tgt : Int)) (hx : inR x) (kt : 0 < x → G X mm ad kc ks (w, tgt, lv, st)) (kf : ¬ (0 < x) → G X mm ad kc ks (w, pc + 3, lv, st)) : G X mm ad kc ks (w, pc, lv, .inl x :: st) := by
  have hd := (hX.m.1 _ (gfet_mem hi)).1
  obtain ⟨p, l, e, R, s, m, args, below, meth, c, D, cA, A, H0, Q⟩ := X
  obtain ⟨hxc, hb, hml, hown, hts, hK, hlk, hA, hR, hM⟩ := hX
  have hy : inR 0 := ⟨by omega, by omega⟩
  intro H locs ls hP hD hS hl
  exact lv_if_gt (tgt := tgt) hxc hb hd ht (fun h => kt ((gI_lt hy hx).mp h) H locs ls hP hD hS hl) (fun h => kf (fun h9 => h ((gI_lt hy hx).mpr h9)) H locs ls hP hD hS hl)
theorem g_if_le {X : gX} {mm : gM} {ad : Nat → Nat} {kc ks : Nat} (hX : gOk X mm) {w : gW} {pc : Nat} (tgt : Nat) {off : Int} {lv : List (Nat × gV)} {st : List gV} {x : Int} (hi : gfet pc mm.2.2.2.1 = some (.ifCond .le off, 3)) (ht : (pc : Int) + off = (tgt : Int)) (hx : inR x) (kt : x ≤ 0 → G X mm ad kc ks (w, tgt, lv, st)) (kf : ¬ (x ≤ 0) → G X mm ad kc ks (w, pc + 3, lv, st)) : G X mm ad kc ks (w, pc, lv, .inl x :: st) := by
  have hd := (hX.m.1 _ (gfet_mem hi)).1
  obtain ⟨p, l, e, R, s, m, args, below, meth, c, D, cA, A, H0, Q⟩ := X
  obtain ⟨hxc, hb, hml, hown, hts, hK, hlk, hA, hR, hM⟩ := hX
  have hy : inR 0 := ⟨by omega, by omega⟩
  intro H locs ls hP hD hS hl
  exact lv_if_le (tgt := tgt) hxc hb hd ht (fun h => kt ((gI_le hx hy).mp h) H locs ls hP hD hS hl) (fun h => kf (fun h9 => h ((gI_le hx hy).mpr h9)) H locs ls hP hD hS hl)
