/-! new int[N][K] over G; an array of references told by another function -/
/-- the rows of an array of N rows, whose numbers begin at b -/
def gbq (N b : Nat) (z : Int) : Option Nat := if 0 ≤ z ∧ z < (N : Int) then some (b + z.toNat) else none
theorem gbq_fr {fr : List Nat} {N b : Nat} (h : (fr.all fun f => Nat.blt f b || Nat.ble (b + N) f) = true) : ∀ (j : Int) (k : Nat), gbq N b j = some k → gfn fr k = true := by
  intro j k hj
  unfold gbq at hj
  split at hj
  next h1 =>
    cases hj
    refine List.all_eq_true.mpr fun f hm => ?_
    have h2 := List.all_eq_true.mp h f hm
    simp only [Bool.or_eq_true, Nat.blt_eq, Nat.ble_eq] at h2
    cases hb : Nat.beq f (b + j.toNat) with
    | false => rfl
    | true =>
      have := gbeq hb
      omega
  next => cases hj
theorem gar_cell {c : ClassId} {n : Nat} {f g : Nat → Option Nat} (h : ∀ j, j < n → f j = g j) : vp_cell c (n, .inr (.inr (.inr (.inr f)))) = vp_cell c (n, .inr (.inr (.inr (.inr g)))) := by
  rw [vp_cell_q, vp_cell_q]
  show ({ cls := c, slots := Array.ofFn (n := n) fun j => va_rf (f j), vm := .none } : Cell) = { cls := c, slots := Array.ofFn (n := n) fun j => va_rf (g j), vm := .none }
  have h1 : (Array.ofFn (n := n) fun j => va_rf (f j)) = Array.ofFn (n := n) fun j => va_rf (g j) := by
    congr 1
    funext j
    rw [h j.1 j.2]
  rw [h1]
/-- a row of references, told by another function that says the same of its places -/
theorem G.arr {X : gX} {mm : gM} {ad : Nat → Nat} {kc ks : Nat} {w : gW} {r : Nat × List (Nat × gV) × List gV} (o n : Nat) (f g : Int → Option Nat) (h0 : gwl o w = some (gar 2 n f)) (h : ∀ j : Int, 0 ≤ j → j < (n : Int) → f j = g j) (k : G X mm ad kc ks (gws o (gar 2 n g) w, r)) : G X mm ad kc ks (w, r) := by
  obtain ⟨p, l, e, R, s, m, args, below, meth, c, D, cA, A, H0, Q⟩ := X
  intro H locs ls hP hD hS hl
  obtain ⟨q0, hq, hset⟩ := gwl_ix h0
  have hq9 := gw_at (cA := cA) (ad := ad) hq
  refine k H locs ls ?_ ?_ hS hl
  · show va_P D vwCl (gw cA ad (gws o _ w)) H
    rw [hset, gw_set]
    intro k9 x hx
    by_cases e1 : k9 = q0
    · subst e1
      have hlt : k9 < (gw cA ad w).length := (List.getElem?_eq_some_iff.mp hq9).1
      rw [List.getElem?_set_self hlt] at hx
      cases hx
      have h1 : H[ad o]? = some (vp_cell (cA 2) (n, .inr (.inr (.inr (.inr (fun j : Nat => (f (j : Int)).map ad)))))) := hP k9 _ hq9
      show H[ad o]? = some (vp_cell (cA 2) (n, .inr (.inr (.inr (.inr (fun j : Nat => (g (j : Int)).map ad))))))
      rw [h1]
      exact congrArg some (gar_cell fun j hj => by rw [h (j : Int) (by omega) (by omega)])
    · rw [List.getElem?_set_ne (Ne.symm e1)] at hx
      exact hP k9 x hx
  · show va_D A (gw cA ad (gws o _ w))
    rw [hset, gw_set]
    exact hD.set hq9
def gam (ad : Nat → Nat) (f b N q : Nat) (r : Nat → Nat) : Nat → Nat := fun k => if k = f then q else if b ≤ k ∧ k < b + N then r (k - b) else ad k
theorem gam_ag {ad : Nat → Nat} {f b N q : Nat} {r : Nat → Nat} : gAg (f :: (List.range N).map (b + ·)) ad (gam ad f b N q r) := fun k hk => by
  have h1 : ¬ k = f := fun e => by
    subst e
    simp [gfn] at hk
  have h2 : ¬ (b ≤ k ∧ k < b + N) := fun e => by
    have h3 := List.all_eq_true.mp hk k (List.mem_cons_of_mem _ (List.mem_map.mpr ⟨k - b, List.mem_range.mpr (by omega), by omega⟩))
    simp at h3
  show (if k = f then q else if b ≤ k ∧ k < b + N then r (k - b) else ad k) = ad k
  rw [if_neg h1, if_neg h2]
theorem va_pl_nil {f : Nat → va_E} (ws : va_W) : ws ++ va_pl [] f = ws := List.append_nil ws
/-- new int[N][K] -/
theorem G.mna {X : gX} {mm : gM} {ad ad0 : Nat → Nat} {fr : List Nat} {kc ks : Nat} (hX : gOk X mm) (hEX : gEX X) {w : gW} {pc idx : Nat} {lv : List (Nat × gV)} {st : List gV} {x : Int} (f b N K : Nat) (hi : gfet pc mm.2.2.2.1 = some (.multianewarray idx 2, 4)) (hn : x = (K : Int) ∧ K ≤ 4096) (hN : N ≤ 4096 ∧ (f < b ∨ b + N ≤ f)) (hlk : Cond.classLink mm.2.2.1 idx "[[I" ∈ gtb ∧ Cond.arrayClass .int ∈ gtb)
    (hag : gAg fr ad0 ad) (hf : (f :: (List.range N).map (b + ·)).all (fun f => !gfn fr f) = true) (hw : gfw (f :: (List.range N).map (b + ·)) w) (hlv : (lv.all fun q => gfv (f :: (List.range N).map (b + ·)) q.2) = true) (hst : st.all (gfv (f :: (List.range N).map (b + ·))) = true) (hroom : kc + (1 + N) ≤ mm.2.2.2.2.2.cells ∧ ks + (N + N * K) ≤ mm.2.2.2.2.2.slots)
    (k : ∀ ad', gAg fr ad0 ad' → G X mm ad' (kc + 1 + N) (ks + N + N * K) (w ++ (f, gar 2 N (gbq N b)) :: (List.range N).map (fun i => (b + i, gai 0 K (fun _ => 0))), pc + 4, lv, gr f :: st)) : G X mm ad kc ks (w, pc, lv, .inl x :: .inl (N : Int) :: st) := by
  have hd := (hX.m.1 _ (gfet_mem hi)).1
  obtain ⟨p, l, e, R, s, m, args, below, meth, c, D, cA, A, H0, Q⟩ := X
  obtain ⟨hxc, hb, hml, hown, hts, hK, hlk9, hA, hR, hM⟩ := hX
  intro H locs ls hP hD hS hl
  obtain ⟨rfl, hK4⟩ := hn
  obtain ⟨hN4, hNf⟩ := hN
  have hki : s.vm.findClass (FieldType.array .int).toString = some (cA 0) := (hK.2 0 _ rfl).2
  have hkt : s.vm.findClass ("[" ++ (FieldType.array .int).toString) = some (cA 2) := (hK.2 2 _ rfl).2
  refine va_mna (D := D) (X := gw cA ad w) (L := []) (f := fun _ => Sum.inr (0, [])) (ty := .int) (cy := cA 0) (N' := N) (K' := K) (z := (K, .inl (fun _ => 0))) hxc hb hown (hts _ hlk.1) (gAO (u := s) rfl hEX.1) (hts _ hlk.2) hki hK (by rw [va_pl_nil]; exact hP) (by rw [va_pl_nil]; exact hD) hS hA (fun h => by
      have h1 := (gI_lt (y := 0) (x := (N : Int)) ⟨by omega, by omega⟩ ⟨by omega, by omega⟩).mp h
      omega) (fun h => by
      have h1 := (gI_lt (y := 0) (x := (K : Int)) ⟨by omega, by omega⟩ ⟨by omega, by omega⟩).mp h
      omega) (by rw [gI_cl (by omega) (by omega)]; rfl) (by rw [gI_cl (by omega) (by omega)]; rfl) (by omega) (by show K * 4 ≤ _; omega) (by omega) rfl rfl (by rw [hR]; exact hroom.1) (by rw [hR]; exact hroom.2) (fun c => arrV_new c K _) hd (fun q r cB H1 hri hrl hK1 hP1 hD1 hS1 => ?_)
  have hkb := (hK1.2 (gtys cA).length (cB, .array .int) (by rw [List.getElem?_append_right (Nat.le_refl _), Nat.sub_self]; rfl)).2
  have hcB : cB = cA 2 := Option.some.inj (hkb.symm.trans hkt)
  subst hcB
  have h1 : gAg (f :: (List.range N).map (b + ·)) ad (gam ad f b N q r) := gam_ag
  have hfq : gam ad f b N q r f = q := if_pos rfl
  have hrow : ∀ i, i < N → gam ad f b N q r (b + i) = r i := fun i hi => by
    show (if b + i = f then q else if b ≤ b + i ∧ b + i < b + N then r (b + i - b) else ad (b + i)) = r i
    rw [if_neg (by omega), if_pos (by omega), show b + i - b = i by omega]
  have hout : ge cA (gam ad f b N q r) (gar 2 N (gbq N b)) = .inl (cA 2, N, .inr (.inr (.inr (.inr (fun i => if i < N then some (r i) else none))))) := by
    have h9 : (fun j : Nat => (gbq N b (j : Int)).map (gam ad f b N q r)) = (fun i : Nat => if i < N then some (r i) else none) := by
      funext j
      unfold gbq
      by_cases hj : j < N
      · rw [if_pos (by omega), if_pos hj]
        show some (gam ad f b N q r (b + (j : Int).toNat)) = some (r j)
        rw [show (j : Int).toNat = j from rfl, hrow j hj]
      · rw [if_neg (by omega), if_neg hj]
        rfl
    show Sum.inl (cA 2, N, Sum.inr (Sum.inr (Sum.inr (Sum.inr (fun j : Nat => (gbq N b (j : Int)).map (gam ad f b N q r)))))) = _
    rw [h9]
  have hrows : gw cA (gam ad f b N q r) ((List.range N).map (fun i => (b + i, gai 0 K (fun _ => 0)))) = va_pl ([] ++ (List.range N).map r) (vr_up (fun _ => Sum.inr (0, [])) ((List.range N).map r) (.inl (cA 0, K, .inl (fun _ => 0)))) := by
    unfold gw va_pl
    rw [List.nil_append, List.map_map, List.map_map]
    apply List.map_congr_left
    intro i hi
    show (gam ad f b N q r (b + i), _) = (r i, vr_up _ _ _ (r i))
    rw [hrow i (List.mem_range.mp hi), vr_up_in (List.mem_map.mpr ⟨i, hi, rfl⟩)]
    rfl
  have e1 : gw cA (gam ad f b N q r) (w ++ (f, gar 2 N (gbq N b)) :: (List.range N).map (fun i => (b + i, gai 0 K (fun _ => 0)))) = (gw cA ad w ++ [(q, .inl (cA 2, N, .inr (.inr (.inr (.inr (fun i => if i < N then some (r i) else none))))))]) ++ va_pl ([] ++ (List.range N).map r) (vr_up (fun _ => Sum.inr (0, [])) ((List.range N).map r) (.inl (cA 0, K, .inl (fun _ => 0)))) := by
    rw [gw_app, gfw_eq h1 hw, List.append_assoc]
    congr 1
    show (gam ad f b N q r f, ge cA (gam ad f b N q r) (gar 2 N (gbq N b))) :: gw cA (gam ad f b N q r) ((List.range N).map (fun i => (b + i, gai 0 K (fun _ => 0)))) = _
    rw [hfq, hout, hrows]
    rfl
  have k9 := k (gam ad f b N q r) (hag.step h1 hf) H1 locs ls (by show va_P D vwCl (gw cA _ (w ++ _)) H1; rw [e1]; exact hP1) (by show va_D A (gw cA _ (w ++ _)); rw [e1]; exact hD1) hS1 (by show lv_has ls mm.2.1 (lv.map _); rw [gfl_lv h1 hlv]; exact hl)
  have e2 : ((gr f :: st).map (gv (gam ad f b N q r))) = Value.ref q :: st.map (gv ad) := by
    show Value.ref (gam ad f b N q r f) :: st.map (gv (gam ad f b N q r)) = _
    rw [hfq, gfl_eq h1 hst]
  have k8 : W p l e R s m args below meth c H1 locs (kc + 1 + N) (ks + N + N * K) Q (F0 m (pc + 4) ls ((gr f :: st).map (gv (gam ad f b N q r)))) := k9
  rw [e2] at k8
  exact k8
