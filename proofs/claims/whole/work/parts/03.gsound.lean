def gty (ci : Nat) : Nat → FieldType := match ci with
  | 0 => tyJx00060
  | 1 => tyX0
  | 2 => tyX1
  | 3 => tyX2
  | 4 => tyX3
  | 5 => tyX4
  | 6 => tyX5
  | 7 => tyX6
  | 8 => tyX7
  | _ => tyX8
/-- the kinds of arrays -/
def gtys (cA : Nat → ClassId) : List (ClassId × FieldType) := [(cA 0, .int), (cA 1, .boolean), (cA 2, .array .int), (cA 3, .long)]
theorem gin_Jx00060 : ∀ w ∈ u_ws RJx00060 TJx00060 6, w ∈ gtb := by decide +kernel
theorem gin_X0 : ∀ w ∈ u_ws RX0 TX0 3, w ∈ gtb := by decide +kernel
theorem gin_X1 : ∀ w ∈ u_ws RX1 TX1 9, w ∈ gtb := by decide +kernel
theorem gin_X2 : ∀ w ∈ u_ws RX2 TX2 2, w ∈ gtb := by decide +kernel
theorem gin_X3 : ∀ w ∈ u_ws RX3 TX3 6, w ∈ gtb := by decide +kernel
theorem gin_X4 : ∀ w ∈ u_ws RX4 TX4 9, w ∈ gtb := by decide +kernel
theorem gin_X5 : ∀ w ∈ u_ws RX5 TX5 6, w ∈ gtb := by decide +kernel
theorem gin_X6 : ∀ w ∈ u_ws RX6 TX6 5, w ∈ gtb := by decide +kernel
theorem gin_X7 : ∀ w ∈ u_ws RX7 TX7 7, w ∈ gtb := by decide +kernel
theorem gin_X8 : ∀ w ∈ u_ws RX8 TX8 33, w ∈ gtb := by decide +kernel
theorem gcl_in {ci : Nat} {C : String} {T : u_T} {N : Nat} (h : vwCl[ci]? = some (C, T, N)) : ∀ w ∈ u_ws C T N, w ∈ gtb := by
  match ci, h with
  | 0, h => cases h; exact gin_Jx00060
  | 1, h => cases h; exact gin_X0
  | 2, h => cases h; exact gin_X1
  | 3, h => cases h; exact gin_X2
  | 4, h => cases h; exact gin_X3
  | 5, h => cases h; exact gin_X4
  | 6, h => cases h; exact gin_X5
  | 7, h => cases h; exact gin_X6
  | 8, h => cases h; exact gin_X7
  | 9, h => cases h; exact gin_X8
  | k + 10, h => simp [vwCl] at h
theorem gcl_ty {ci : Nat} {C : String} {T : u_T} {N : Nat} (h : vwCl[ci]? = some (C, T, N)) : ∀ k, k < N → parseFieldDescriptor (T k).2.2.1 = some (gty ci k) := by
  match ci, h with
  | 0, h => cases h; exact tyJx00060_ok
  | 1, h => cases h; exact tyX0_ok
  | 2, h => cases h; exact tyX1_ok
  | 3, h => cases h; exact tyX2_ok
  | 4, h => cases h; exact tyX3_ok
  | 5, h => cases h; exact tyX4_ok
  | 6, h => cases h; exact tyX5_ok
  | 7, h => cases h; exact tyX6_ok
  | 8, h => cases h; exact tyX7_ok
  | 9, h => cases h; exact tyX8_ok
  | k + 10, h => simp [vwCl] at h
theorem gcl_nm {ci : Nat} {C : String} {T : u_T} {N : Nat} (h : vwCl[ci]? = some (C, T, N)) : ∀ a, a < N → ∀ b, b < N → a ≠ b → (T a).2.1 ≠ (T b).2.1 := by
  match ci, h with
  | 0, h => cases h; exact nmJx00060
  | 1, h => cases h; exact nmX0
  | 2, h => cases h; exact nmX1
  | 3, h => cases h; exact nmX2
  | 4, h => cases h; exact nmX3
  | 5, h => cases h; exact nmX4
  | 6, h => cases h; exact nmX5
  | 7, h => cases h; exact nmX6
  | 8, h => cases h; exact nmX7
  | 9, h => cases h; exact nmX8
  | k + 10, h => simp [vwCl] at h
abbrev gI : Type := Nat × Instr × Nat
/-- a method: its bytes, how many locals, the class that it stands in, its instructions, its fields' places in the pool -/
abbrev gM : Type := ByteArray × Nat × String × List gI × List gFt × Room
def gfet (pc : Nat) : List gI → Option (Instr × Nat)
  | [] => none
  | q :: t => match Nat.beq q.1 pc with
    | true => some q.2
    | false => gfet pc t
def gfok (own : String) (f : gFt) : Bool := match vwCl[f.2.1]? with
  | none => false
  | some (_, T, N) => Nat.blt f.2.2.1 N && decide (Cond.fieldLink own f.1 (T f.2.2.1).1 (T f.2.2.1).2.1 (T f.2.2.1).2.2.1 ∈ gtb) && (match parseFieldDescriptor (T f.2.2.1).2.2.1, f.2.2.2, (T f.2.2.1).2.2.2 with
    | some .int, 0, false => true
    | some .boolean, 1, false => true
    | some _, 2, _ => true
    | some _, 3, _ => true
    | _, _, _ => false)
def gOkM (mm : gM) : Prop := (∀ q ∈ mm.2.2.2.1, decode mm.1 q.1 = .ok (q.2.1, q.2.2) ∧ gwell mm.2.1 q.1 q.2.1 q.2.2 = true) ∧ ∀ f ∈ mm.2.2.2.2.1, gfok mm.2.2.1 f = true
abbrev gX : Type := Program × Launch × Env × Room × State × MethodId × Array Value × List Frame × Method × Code × va_G × (Nat → ClassId) × (Nat → Prop) × Heap × (State → Prop)
def gOk (X : gX) (mm : gM) : Prop := match X with
  | (p, _, _, R, s, m, args, _, meth, c, D, cA, A, H0, _) => p.tables.exec = Jvm.exec ∧ c.code = mm.1 ∧ c.maxLocals = mm.2.1 ∧ s.vm.findClass mm.2.2.1 = some m.cls ∧ (∀ w ∈ gtb, w.before args s = true) ∧ va_K D vwCl (gtys cA) s ∧ meth.locks = false ∧ (∀ q : Nat, H0.size ≤ q → A q) ∧ R = mm.2.2.2.2.2 ∧ gOkM mm
/-- from this state the machine comes to its goal -/
def G (X : gX) (mm : gM) (ad : Nat → Nat) (kc ks : Nat) (S : gS) : Prop := match X with
  | (p, l, e, R, s, m, args, below, meth, c, D, cA, A, H0, Q) => ∀ (H : Heap) (locs : List Loc) (ls : Array Slot), va_P D vwCl (gw cA ad S.1) H → va_D A (gw cA ad S.1) → va_S A H0 H locs → lv_has ls mm.2.1 (S.2.2.1.map (fun q => (q.1, gv ad q.2))) → W p l e R s m args below meth c H locs kc ks Q (F0 m S.2.1 ls (S.2.2.2.map (gv ad)))
theorem gbeq {a b : Nat} (h : Nat.beq a b = true) : a = b := Nat.eq_of_beq_eq_true h
theorem gbne {a b : Nat} (h : Nat.beq a b = false) : a ≠ b := Nat.ne_of_beq_eq_false h
theorem gfet_mem {pc : Nat} {is : List gI} {i : Instr} {n : Nat} (h : gfet pc is = some (i, n)) : (pc, i, n) ∈ is := by
  induction is with
  | nil => cases h
  | cons q t ih =>
    unfold gfet at h
    split at h
    next hb =>
      obtain ⟨a, b, c⟩ := q
      have := gbeq hb
      cases h
      cases this
      exact List.mem_cons_self
    next => exact List.mem_cons_of_mem _ (ih h)
theorem glook_mem {i : Nat} {lv : List (Nat × gV)} {v : gV} (h : glook i lv = some v) : (i, v) ∈ lv := by
  induction lv with
  | nil => cases h
  | cons q t ih =>
    unfold glook at h
    split at h
    next hb =>
      obtain ⟨a, b⟩ := q
      have := gbeq hb
      cases h
      cases this
      exact List.mem_cons_self
    next => exact List.mem_cons_of_mem _ (ih h)
theorem glv {ad : Nat → Nat} {ls : Array Slot} {nL : Nat} {lv : List (Nat × gV)} {i : Nat} {v : gV} (hl : lv_has ls nL (lv.map (fun q => (q.1, gv ad q.2)))) (h : glook i lv = some v) : ls[i]? = some (.val (gv ad v)) :=
  hl.2.2 (i, gv ad v) (List.mem_map.mpr ⟨(i, v), glook_mem h, rfl⟩)
theorem gdel_mem {i : Nat} {lv : List (Nat × gV)} {q : Nat × gV} (h : q ∈ gdel i lv) : q ∈ lv ∧ q.1 ≠ i := by
  induction lv with
  | nil => cases h
  | cons x t ih =>
    unfold gdel at h
    split at h
    next => exact ⟨List.mem_cons_of_mem _ (ih h).1, (ih h).2⟩
    next hb =>
      rcases List.mem_cons.mp h with rfl | h
      · exact ⟨List.mem_cons_self, gbne hb⟩
      · exact ⟨List.mem_cons_of_mem _ (ih h).1, (ih h).2⟩
theorem gset_mem {i : Nat} {v : gV} {lv : List (Nat × gV)} {q : Nat × gV} (h : q ∈ gset i v lv) : q = (i, v) ∨ (q ∈ lv ∧ q.1 ≠ i) := by
  induction lv with
  | nil =>
    rcases List.mem_cons.mp h with rfl | h
    · exact Or.inl rfl
    · cases h
  | cons x t ih =>
    unfold gset at h
    split at h
    next =>
      rcases List.mem_cons.mp h with rfl | h
      · exact Or.inl rfl
      · exact Or.inr ⟨List.mem_cons_of_mem _ (gdel_mem h).1, (gdel_mem h).2⟩
    next hb =>
      rcases List.mem_cons.mp h with rfl | h
      · exact Or.inr ⟨List.mem_cons_self, gbne hb⟩
      · rcases ih h with h | h
        · exact Or.inl h
        · exact Or.inr ⟨List.mem_cons_of_mem _ h.1, h.2⟩
theorem gnl_cat {ad : Nat → Nat} {lv : List (Nat × gV)} (h : gnl lv = true) {q : Nat × gV} (hq : q ∈ lv) : (gv ad q.2).category = 1 := by
  induction lv with
  | nil => cases hq
  | cons x t ih =>
    unfold gnl at h
    obtain ⟨a, b⟩ := x
    rcases b with z | z | (_ | k)
    · rcases List.mem_cons.mp hq with rfl | hq
      · rfl
      · exact ih h hq
    · cases h
    · rcases List.mem_cons.mp hq with rfl | hq
      · rfl
      · exact ih h hq
    · rcases List.mem_cons.mp hq with rfl | hq
      · rfl
      · exact ih h hq
theorem glvst {ad : Nat → Nat} {ls : Array Slot} {nL : Nat} {lv : List (Nat × gV)} {i : Nat} {v : gV} (hn : gnl lv = true) (hl : lv_has ls nL ((i, gv ad v) :: (lv.map (fun q => (q.1, gv ad q.2))).filter (fun q => !(q.1 == i) && !(q.1 + 1 == i && q.2.category == 2)))) : lv_has ls nL ((gset i v lv).map (fun q => (q.1, gv ad q.2))) := by
  refine ⟨hl.1, hl.2.1, fun q hq => ?_⟩
  obtain ⟨x, hx, rfl⟩ := List.mem_map.mp hq
  rcases gset_mem hx with rfl | ⟨h1, h2⟩
  · exact hl.2.2 _ List.mem_cons_self
  · refine hl.2.2 _ (List.mem_cons_of_mem _ (List.mem_filter.mpr ⟨List.mem_map.mpr ⟨x, h1, rfl⟩, ?_⟩))
    have hc := gnl_cat (ad := ad) hn h1
    simp [h2, hc]
theorem gwl_ix {k : Nat} {w : gW} {e : gE} (h : gwl k w = some e) : ∃ q0 : Nat, w[q0]? = some (k, e) ∧ ∀ e' : gE, gws k e' w = w.set q0 (k, e') := by
  induction w with
  | nil => cases h
  | cons q t ih =>
    unfold gwl at h
    split at h
    next hb =>
      obtain ⟨a, b⟩ := q
      have h9 := gbeq hb
      cases h
      refine ⟨0, by rw [← h9]; rfl, fun e' => ?_⟩
      unfold gws
      rw [hb]
      rfl
    next hb =>
      obtain ⟨q0, h1, h2⟩ := ih h
      refine ⟨q0 + 1, by simpa using h1, fun e' => ?_⟩
      show gws k e' (q :: t) = q :: t.set q0 (k, e')
      rw [← h2 e']
      conv => lhs; unfold gws
      rw [hb]
theorem gw_at {cA : Nat → ClassId} {ad : Nat → Nat} {w : gW} {q0 k : Nat} {e : gE} (h : w[q0]? = some (k, e)) : (gw cA ad w)[q0]? = some (ad k, ge cA ad e) := by
  unfold gw
  rw [List.getElem?_map, h]
  rfl
theorem gw_set {cA : Nat → ClassId} {ad : Nat → Nat} {w : gW} {q0 k : Nat} {e : gE} : gw cA ad (w.set q0 (k, e)) = (gw cA ad w).set q0 (ad k, ge cA ad e) := by
  unfold gw
  rw [List.map_set]
theorem gI_toInt {z : Int} (h : inR z) : (Int32.ofInt z).toInt = z := Int32.toInt_ofInt_of_le (by omega) (by omega)
theorem gI_lt {x y : Int} (hx : inR x) (hy : inR y) : Int32.ofInt x < Int32.ofInt y ↔ x < y := by rw [Int32.lt_iff_toInt_lt, gI_toInt hx, gI_toInt hy]
theorem gI_le {x y : Int} (hx : inR x) (hy : inR y) : Int32.ofInt x ≤ Int32.ofInt y ↔ x ≤ y := by rw [Int32.le_iff_toInt_le, gI_toInt hx, gI_toInt hy]
theorem gI_eq {x y : Int} (hx : inR x) (hy : inR y) : Int32.ofInt x = Int32.ofInt y ↔ x = y := by rw [← Int32.toInt_inj, gI_toInt hx, gI_toInt hy]
theorem gI_in {z : Int} {n : Nat} (h : 0 ≤ z ∧ z < (n : Int) ∧ (n : Int) ≤ 2147483647) : vp_in (Int32.ofInt z) n := by
  rw [vp_in_iff, gI_toInt ⟨by omega, by omega⟩]
  exact ⟨h.1, h.2.1⟩
theorem gI_cl {z : Int} (h0 : 0 ≤ z) (h1 : z ≤ 2147483647) : (Int32.ofInt z).toNatClampNeg = z.toNat := Int32.toNatClampNeg_ofInt_of_le (by omega) (by omega)
theorem gI_rd {z : Int} {n : Nat} (f : Int → Int) (h : 0 ≤ z ∧ z < (n : Int) ∧ (n : Int) ≤ 2147483647) : Int32.ofInt (f (((Int32.ofInt z).toNatClampNeg : Nat) : Int)) = Int32.ofInt (f z) := by
  rw [gI_cl h.1 (by omega), Int.toNat_of_nonneg h.1]
theorem gI_wr {z v : Int} {n : Nat} (f : Int → Int) (h : 0 ≤ z ∧ z < (n : Int) ∧ (n : Int) ≤ 2147483647) : upd (fun j : Nat => Int32.ofInt (f (j : Int))) (Int32.ofInt z).toNatClampNeg (Int32.ofInt v) = (fun j : Nat => Int32.ofInt (gu f z v (j : Int))) := by
  funext j
  rw [gI_cl h.1 (by omega)]
  simp only [upd, gu]
  by_cases hj : (j : Int) = z
  · have h2 : j = z.toNat := by omega
    rw [if_pos h2, if_pos hj]
  · have h2 : ¬ j = z.toNat := by omega
    rw [if_neg h2, if_neg hj]
theorem gI_div {x y : Int} (h : 0 ≤ x ∧ x < 2147483648 ∧ 0 < y ∧ y < 2147483648) : Int32.ofInt x / Int32.ofInt y = Int32.ofInt (x / y) := by
  have h1 : 0 ≤ x / y := Int.ediv_nonneg h.1 (by omega)
  have h2 : x / y ≤ x := Int.ediv_le_self y h.1
  apply Int32.toInt_inj.mp
  rw [Int32.toInt_div_of_ne_right _ _ (fun h9 => by
    have := congrArg Int32.toInt h9
    rw [gI_toInt ⟨by omega, by omega⟩] at this
    have h8 : (-1 : Int32).toInt = -1 := by decide
    omega), gI_toInt ⟨by omega, by omega⟩, gI_toInt ⟨by omega, by omega⟩, gI_toInt ⟨by omega, by omega⟩, Int.tdiv_eq_ediv_of_nonneg h.1]
theorem gI_rem {x y : Int} (h : 0 ≤ x ∧ x < 2147483648 ∧ 0 < y ∧ y < 2147483648) : Int32.ofInt x - Int32.ofInt x / Int32.ofInt y * Int32.ofInt y = Int32.ofInt (x % y) := by
  rw [gI_div h, ← Int32.ofInt_mul, ← Int32.ofInt_sub, Int.emod_def, Int.mul_comm y]
theorem gI_ne0 {y : Int} (h : 0 < y ∧ y < 2147483648) : ¬ Int32.ofInt y = 0 := by
  intro h9
  have := congrArg Int32.toInt h9
  rw [gI_toInt ⟨by omega, by omega⟩] at this
  have h8 : (0 : Int32).toInt = 0 := by decide
  omega
theorem gI_bool {z : Int} (h : z = 0 ∨ z = 1) : narrow .boolean (.int (Int32.ofInt z)) = .int (Int32.ofInt z) ∧ fits .boolean (.int (Int32.ofInt z)) = true ∧ vp_nar .boolean (Int32.ofInt z) = Int32.ofInt z := by
  rcases h with rfl | rfl <;> decide
theorem gft_mem {idx : Nat} {ft : List gFt} {q : Nat × Nat × Nat} (h : gft idx ft = some q) : (idx, q) ∈ ft := by
  induction ft with
  | nil => cases h
  | cons x t ih =>
    unfold gft at h
    split at h
    next hb =>
      obtain ⟨a, b⟩ := x
      have := gbeq hb
      cases h
      cases this
      exact List.mem_cons_self
    next => exact List.mem_cons_of_mem _ (ih h)
theorem gfok_ok {own : String} {ft : List gFt} {idx ci k kd : Nat} (hF : ∀ f ∈ ft, gfok own f = true) (hf : (idx, ci, k, kd) ∈ ft) : ∃ (C : String) (T : u_T) (N : Nat), vwCl[ci]? = some (C, T, N) ∧ k < N ∧ Cond.fieldLink own idx (T k).1 (T k).2.1 (T k).2.2.1 ∈ gtb ∧ ((kd = 0 → parseFieldDescriptor (T k).2.2.1 = some .int ∧ (T k).2.2.2 = false) ∧ (kd = 1 → parseFieldDescriptor (T k).2.2.1 = some .boolean ∧ (T k).2.2.2 = false)) := by
  have h := hF _ hf
  unfold gfok at h
  dsimp only at h
  cases hc : vwCl[ci]? with
  | none => rw [hc] at h; cases h
  | some q =>
    obtain ⟨C, T, N⟩ := q
    rw [hc] at h
    dsimp only at h
    simp only [Bool.and_eq_true] at h
    obtain ⟨⟨h1, h2⟩, h3⟩ := h
    refine ⟨C, T, N, rfl, by simpa [Nat.blt_eq] using h1, of_decide_eq_true h2, fun e => ?_, fun e => ?_⟩
    · subst e
      revert h3
      generalize parseFieldDescriptor (T k).2.2.1 = a
      generalize (T k).2.2.2 = b
      intro h3
      split at h3 <;> first | (exact ⟨rfl, rfl⟩) | (simp_all; done) | (cases h3)
    · subst e
      revert h3
      generalize parseFieldDescriptor (T k).2.2.1 = a
      generalize (T k).2.2.2 = b
      intro h3
      split at h3 <;> first | (exact ⟨rfl, rfl⟩) | (simp_all; done) | (cases h3)
