set_option maxHeartbeats 4000000 in
set_option maxRecDepth 100000 in
theorem gstep_ok {X : gX} {mm : gM} {ad : Nat → Nat} {kc ks : Nat} (hX : gOk X mm) {i : Instr} {n : Nat} {S S' : gS} {O : Option Prop} (hi : (S.2.1, i, n) ∈ mm.2.2.2.1) (h : gstep mm.2.2.2.2.1 i n S = some (S', O)) (hO : ∀ P, O = some P → P) (k : G X mm ad kc ks S') : G X mm ad kc ks S := by
  obtain ⟨p, l, e, R, s, m, args, below, meth, c, D, cA, A, H0, Q⟩ := X
  obtain ⟨w, pc, lv, st⟩ := S
  obtain ⟨hx, hb, hml, hown, hts, hK, hlk, hA, hR, hM⟩ := hX
  obtain ⟨hd, hw⟩ := hM.1 _ hi
  have hF := hM.2
  dsimp only at hd hw hi
  intro H locs ls hP hD hS hl
  dsimp only at hP hD hl ⊢
  cases i
  case iload_n kk =>
    have hn := gbeq hw
    subst hn
    cases hg : glook kk.val lv with
    | none => simp only [gstep, hg] at h; cases h
    | some v =>
      rcases v with z | z | _ | z <;> simp only [gstep, hg] at h <;> first | (cases h; done) | skip
      cases h
      exact lv_iload_n hx hb hd rfl (glv hl hg) (k H locs ls hP hD hS hl)
  case iload kk =>
    have hn := gbeq hw
    subst hn
    cases hg : glook kk lv with
    | none => simp only [gstep, hg] at h; cases h
    | some v =>
      rcases v with z | z | _ | z <;> simp only [gstep, hg] at h <;> first | (cases h; done) | skip
      cases h
      exact lv_iload hx hb hd (glv hl hg) (k H locs ls hP hD hS hl)
  case aload_n kk =>
    have hn := gbeq hw
    subst hn
    cases hg : glook kk.val lv with
    | none => simp only [gstep, hg] at h; cases h
    | some v =>
      rcases v with z | z | _ | z <;> simp only [gstep, hg] at h <;> first | (cases h; done) | skip
      cases h
      exact lv_aload_n hx hb hd rfl (glv hl hg) (k H locs ls hP hD hS hl)
  case aload kk =>
    have hn := gbeq hw
    subst hn
    cases hg : glook kk lv with
    | none => simp only [gstep, hg] at h; cases h
    | some v =>
      rcases v with z | z | _ | z <;> simp only [gstep, hg] at h <;> first | (cases h; done) | skip
      cases h
      exact lv_aload hx hb hd (glv hl hg) (k H locs ls hP hD hS hl)
  case istore_n kk =>
    obtain ⟨hw1, hw2⟩ := Bool.and_eq_true_iff.mp hw
    have hn := gbeq hw1
    subst hn
    have hlt : kk.val < mm.2.1 := by simpa [Nat.blt_eq] using hw2
    cases hg : gnl lv with
    | false => simp only [gstep, hg] at h; cases h
    | true =>
      rcases st with _ | ⟨z | z | _ | z, st⟩ <;> simp only [gstep, hg] at h <;> first | (cases h; done) | skip
      cases h
      exact lv_istore_n hx hb hd rfl hl hlt rfl (fun ls' hl' => k H locs ls' hP hD hS (glvst hg hl'))
  case istore kk =>
    obtain ⟨hw1, hw2⟩ := Bool.and_eq_true_iff.mp hw
    have hn := gbeq hw1
    subst hn
    have hlt : kk < mm.2.1 := by simpa [Nat.blt_eq] using hw2
    cases hg : gnl lv with
    | false => simp only [gstep, hg] at h; cases h
    | true =>
      rcases st with _ | ⟨z | z | _ | z, st⟩ <;> simp only [gstep, hg] at h <;> first | (cases h; done) | skip
      cases h
      exact lv_istore hx hb hd hl hlt rfl (fun ls' hl' => k H locs ls' hP hD hS (glvst hg hl'))
  case astore_n kk =>
    obtain ⟨hw1, hw2⟩ := Bool.and_eq_true_iff.mp hw
    have hn := gbeq hw1
    subst hn
    have hlt : kk.val < mm.2.1 := by simpa [Nat.blt_eq] using hw2
    cases hg : gnl lv with
    | false => simp only [gstep, hg] at h; cases h
    | true =>
      rcases st with _ | ⟨z | z | _ | z, st⟩ <;> simp only [gstep, hg] at h <;> first | (cases h; done) | skip
      cases h
      exact lv_astore_n hx hb hd rfl hl hlt rfl (fun ls' hl' => k H locs ls' hP hD hS (glvst hg hl'))
  case astore kk =>
    obtain ⟨hw1, hw2⟩ := Bool.and_eq_true_iff.mp hw
    have hn := gbeq hw1
    subst hn
    have hlt : kk < mm.2.1 := by simpa [Nat.blt_eq] using hw2
    cases hg : gnl lv with
    | false => simp only [gstep, hg] at h; cases h
    | true =>
      rcases st with _ | ⟨z | z | _ | z, st⟩ <;> simp only [gstep, hg] at h <;> first | (cases h; done) | skip
      cases h
      exact lv_astore hx hb hd hl hlt rfl (fun ls' hl' => k H locs ls' hP hD hS (glvst hg hl'))
  case iinc kk cc =>
    obtain ⟨hw1, hw2⟩ := Bool.and_eq_true_iff.mp hw
    have hn := gbeq hw1
    subst hn
    have hlt : kk < mm.2.1 := by simpa [Nat.blt_eq] using hw2
    cases hg : gnl lv with
    | false => simp only [gstep, hg] at h; cases h
    | true =>
      cases hg2 : glook kk lv with
      | none => simp only [gstep, hg, hg2] at h; cases h
      | some v =>
        rcases v with z | z | _ | z <;> simp only [gstep, hg, hg2] at h <;> first | (cases h; done) | skip
        cases h
        obtain ⟨j, hj⟩ := List.getElem?_of_mem (glook_mem hg2)
        exact lv_iinc (v := Int32.ofInt (z + cc)) (k := j) (x := Int32.ofInt z) hx hb hd hl (by rw [List.getElem?_map, hj]; rfl) (Int32.ofInt_add z cc).symm hlt rfl (fun ls' hl' => k H locs ls' hP hD hS (glvst (v := .inl (z + cc)) hg hl'))
  case iconst z =>
    have hn := gbeq hw
    subst hn
    simp only [gstep] at h
    cases h
    exact lv_iconst hx hb hd rfl (k H locs ls hP hD hS hl)
  case bipush z =>
    obtain ⟨hw1, hw2⟩ := Bool.and_eq_true_iff.mp hw
    have hn := gbeq hw1
    subst hn
    simp only [gstep] at h
    cases h
    exact lv_bipush hx hb hd (of_decide_eq_true hw2) (k H locs ls hP hD hS hl)
  case sipush z =>
    obtain ⟨hw1, hw2⟩ := Bool.and_eq_true_iff.mp hw
    have hn := gbeq hw1
    subst hn
    simp only [gstep] at h
    cases h
    exact lv_sipush hx hb hd (of_decide_eq_true hw2) (k H locs ls hP hD hS hl)
  case iadd =>
    have hn := gbeq hw
    subst hn
    rcases st with _ | ⟨y | y | _ | y, _ | ⟨x | x | _ | x, st⟩⟩ <;> simp only [gstep] at h <;> first | (cases h; done) | skip
    cases h
    refine lv_iadd hx hb hd ?_
    have k9 := k H locs ls hP hD hS hl
    simp only [List.map_cons, gv, Int32.ofInt_add] at k9
    exact k9
  case isub =>
    have hn := gbeq hw
    subst hn
    rcases st with _ | ⟨y | y | _ | y, _ | ⟨x | x | _ | x, st⟩⟩ <;> simp only [gstep] at h <;> first | (cases h; done) | skip
    cases h
    refine lv_isub hx hb hd ?_
    have k9 := k H locs ls hP hD hS hl
    simp only [List.map_cons, gv, Int32.ofInt_sub] at k9
    exact k9
  case imul =>
    have hn := gbeq hw
    subst hn
    rcases st with _ | ⟨y | y | _ | y, _ | ⟨x | x | _ | x, st⟩⟩ <;> simp only [gstep] at h <;> first | (cases h; done) | skip
    cases h
    refine lv_imul hx hb hd ?_
    have k9 := k H locs ls hP hD hS hl
    simp only [List.map_cons, gv, Int32.ofInt_mul] at k9
    exact k9
  case ineg =>
    have hn := gbeq hw
    subst hn
    rcases st with _ | ⟨y | y | _ | y, st⟩ <;> simp only [gstep] at h <;> first | (cases h; done) | skip
    cases h
    refine lv_ineg hx hb hd ?_
    have k9 := k H locs ls hP hD hS hl
    simp only [List.map_cons, gv, Int32.ofInt_neg] at k9
    exact k9
  case iand =>
    have hn := gbeq hw
    subst hn
    rcases st with _ | ⟨y | y | _ | y, _ | ⟨x | x | _ | x, st⟩⟩ <;> simp only [gstep] at h <;> first | (cases h; done) | skip
    cases h
    refine lv_iand hx hb hd ?_
    have k9 := k H locs ls hP hD hS hl
    simp only [List.map_cons, gv, Int32.ofInt_toInt] at k9
    exact k9
  case idiv =>
    have hn := gbeq hw
    subst hn
    rcases st with _ | ⟨y | y | _ | y, _ | ⟨x | x | _ | x, st⟩⟩ <;> simp only [gstep] at h <;> first | (cases h; done) | skip
    cases h
    have h9 := hO _ rfl
    refine lv_idiv hx hb hd (gI_ne0 h9.2.2) ?_
    have k9 := k H locs ls hP hD hS hl
    simp only [List.map_cons, gv] at k9
    rw [gI_div h9]
    exact k9
  case irem =>
    have hn := gbeq hw
    subst hn
    rcases st with _ | ⟨y | y | _ | y, _ | ⟨x | x | _ | x, st⟩⟩ <;> simp only [gstep] at h <;> first | (cases h; done) | skip
    cases h
    have h9 := hO _ rfl
    refine lv_irem hx hb hd (gI_ne0 h9.2.2) ?_
    have k9 := k H locs ls hP hD hS hl
    simp only [List.map_cons, gv] at k9
    rw [gI_rem h9]
    exact k9
  case dup =>
    have hn := gbeq hw
    subst hn
    rcases st with _ | ⟨y | y | _ | y, st⟩ <;> simp only [gstep] at h <;> first | (cases h; done) | skip
    all_goals
      cases h
      exact lv_dup hx hb hd rfl (k H locs ls hP hD hS hl)
  case pop =>
    have hn := gbeq hw
    subst hn
    rcases st with _ | ⟨y | y | _ | y, st⟩ <;> simp only [gstep] at h <;> first | (cases h; done) | skip
    all_goals
      cases h
      exact lv_pop hx hb hd rfl (k H locs ls hP hD hS hl)
  case dup2 =>
    have hn := gbeq hw
    subst hn
    rcases st with _ | ⟨y | y | _ | y, _ | ⟨x | x | _ | x, st⟩⟩ <;> simp only [gstep] at h <;> first | (cases h; done) | skip
    all_goals
      cases h
      exact lv_dup2_11 hx hb hd rfl rfl (k H locs ls hP hD hS hl)
  case dup_x1 =>
    have hn := gbeq hw
    subst hn
    rcases st with _ | ⟨y | y | _ | y, _ | ⟨x | x | _ | x, st⟩⟩ <;> simp only [gstep] at h <;> first | (cases h; done) | skip
    all_goals
      cases h
      exact lv_dup_x1 hx hb hd rfl rfl (k H locs ls hP hD hS hl)
  case goto off =>
    obtain ⟨hw1, hw2⟩ := Bool.and_eq_true_iff.mp hw
    have hn := gbeq hw1
    subst hn
    simp only [gstep] at h
    cases h
    exact lv_goto hx hb hd (Int.toNat_of_nonneg (of_decide_eq_true hw2)).symm (k H locs ls hP hD hS hl)
  case getfield idx =>
    have hn := gbeq hw
    subst hn
    rcases st with _ | ⟨y | y | _ | o, st⟩ <;> simp only [gstep] at h <;> first | (cases h; done) | skip
    cases hg : gft idx mm.2.2.2.2.1 with
    | none => simp only [hg] at h; cases h
    | some q =>
      obtain ⟨ci, kf, kd⟩ := q
      cases hg2 : gwl o w with
      | none => simp only [hg, hg2] at h; cases h
      | some e9 =>
        rcases e9 with ⟨cj, fs⟩ | e9
        · simp only [hg, hg2] at h
          cases hb2 : Nat.beq ci cj with
          | false => simp only [hb2] at h; cases h
          | true =>
            cases hfs : fs[kf]? with
            | none => simp only [hb2, hfs] at h; cases h
            | some v =>
              simp only [hb2, hfs] at h
              cases h
              have e1 := gbeq hb2
              subst e1
              obtain ⟨C, T, N, hc, hkN, hlink, -⟩ := gfok_ok hF (gft_mem hg)
              obtain ⟨q0, hq, -⟩ := gwl_ix hg2
              exact va_get (D := D) (v := gv ad v) hx hb hts (gcl_in hc) hown hK hP q0 (gw_at hq) hc kf hkN (hts _ hlink) (fun _ h => h) (by rw [List.getElem?_map, hfs]; rfl) hd (k H locs ls hP hD hS hl)
        · simp only [hg, hg2] at h
          cases h
  case putfield idx =>
    have hn := gbeq hw
    subst hn
    rcases st with _ | ⟨z | z | _ | z, _ | ⟨y | y | _ | o, st⟩⟩ <;> simp only [gstep] at h <;> first | (cases h; done) | skip
    cases hg : gft idx mm.2.2.2.2.1 with
    | none => simp only [hg] at h; cases h
    | some q =>
      obtain ⟨ci, kf, kd⟩ := q
      cases hg2 : gwl o w with
      | none => rcases kd with _ | _ | kd <;> simp only [hg, hg2] at h <;> cases h
      | some e9 =>
        rcases e9 with ⟨cj, fs⟩ | e9
        · obtain ⟨C, T, N, hc, hkN, hlink, hty⟩ := gfok_ok hF (gft_mem hg)
          obtain ⟨q0, hq, hset⟩ := gwl_ix hg2
          rcases kd with _ | _ | kd
          · simp only [hg, hg2] at h
            cases hb2 : Nat.beq ci cj with
            | false => simp only [hb2] at h; cases h
            | true =>
              cases hfs : fs[kf]? with
              | none => simp only [hb2, hfs] at h; cases h
              | some v =>
                simp only [hb2, hfs] at h
                cases h
                have e1 := gbeq hb2
                subst e1
                obtain ⟨ht1, ht2⟩ := hty.1 rfl
                refine va_put (D := D) (v := .int (Int32.ofInt z)) (ty := .int) hx hb hts (gcl_in hc) (gty ci) (gcl_ty hc) (gcl_nm hc) hown hK hP hD hS q0 (gw_at hq) hc kf hkN (hts _ hlink) (fun _ h => h) ht2 ht1 rfl rfl (by rw [List.length_map]; exact (List.getElem?_eq_some_iff.mp hfs).1) hd (fun H1 locs1 hP1 hD1 hS1 => ?_)
                refine k H1 locs1 ls ?_ ?_ hS1 hl
                · show va_P D vwCl (gw cA ad (gws o _ w)) H1
                  rw [hset, gw_set]
                  simpa [ge, gv, List.map_set] using hP1
                · show va_D A (gw cA ad (gws o _ w))
                  rw [hset, gw_set]
                  simpa [ge, gv, List.map_set] using hD1
          · simp only [hg, hg2] at h
            cases hb2 : Nat.beq ci cj with
            | false => simp only [hb2] at h; cases h
            | true =>
              cases hfs : fs[kf]? with
              | none => simp only [hb2, hfs] at h; cases h
              | some v =>
                simp only [hb2, hfs] at h
                cases h
                have e1 := gbeq hb2
                subst e1
                obtain ⟨ht1, ht2⟩ := hty.2 rfl
                have h9 := gI_bool (hO _ rfl)
                refine va_put (D := D) (v := .int (Int32.ofInt z)) (ty := .boolean) hx hb hts (gcl_in hc) (gty ci) (gcl_ty hc) (gcl_nm hc) hown hK hP hD hS q0 (gw_at hq) hc kf hkN (hts _ hlink) (fun _ h => h) ht2 ht1 h9.1 h9.2.1 (by rw [List.length_map]; exact (List.getElem?_eq_some_iff.mp hfs).1) hd (fun H1 locs1 hP1 hD1 hS1 => ?_)
                refine k H1 locs1 ls ?_ ?_ hS1 hl
                · show va_P D vwCl (gw cA ad (gws o _ w)) H1
                  rw [hset, gw_set]
                  simpa [ge, gv, List.map_set] using hP1
                · show va_D A (gw cA ad (gws o _ w))
                  rw [hset, gw_set]
                  simpa [ge, gv, List.map_set] using hD1
          · simp only [hg, hg2] at h
            cases h
        · rcases kd with _ | _ | kd <;> simp only [hg, hg2] at h <;> cases h
  case iaload =>
    have hn := gbeq hw
    subst hn
    rcases st with _ | ⟨z | z | _ | z, _ | ⟨y | y | _ | o, st⟩⟩ <;> simp only [gstep] at h <;> first | (cases h; done) | skip
    cases hg2 : gwl o w with
    | none => simp only [hg2] at h; cases h
    | some e9 =>
      rcases e9 with ⟨cj, fs⟩ | ⟨_ | t, len, f | f⟩ <;> simp only [hg2] at h <;> first | (cases h; done) | skip
      cases h
      have h9 := hO _ rfl
      obtain ⟨q0, hq, -⟩ := gwl_ix hg2
      refine va_iald (D := D) hx hb hK hP q0 0 (gw_at hq) rfl (gI_in h9) hd ?_
      rw [gI_rd f h9]
      exact k H locs ls hP hD hS hl
  case baload =>
    have hn := gbeq hw
    subst hn
    rcases st with _ | ⟨z | z | _ | z, _ | ⟨y | y | _ | o, st⟩⟩ <;> simp only [gstep] at h <;> first | (cases h; done) | skip
    cases hg2 : gwl o w with
    | none => simp only [hg2] at h; cases h
    | some e9 =>
      rcases e9 with ⟨cj, fs⟩ | ⟨_ | _ | t, len, f | f⟩ <;> simp only [hg2] at h <;> first | (cases h; done) | skip
      cases h
      have h9 := hO _ rfl
      obtain ⟨q0, hq, -⟩ := gwl_ix hg2
      refine va_zald (D := D) hx hb hK hP q0 1 (gw_at hq) rfl (gI_in h9) hd ?_
      rw [gI_rd f h9]
      exact k H locs ls hP hD hS hl
  case iastore =>
    have hn := gbeq hw
    subst hn
    rcases st with _ | ⟨v | v | _ | v, _ | ⟨z | z | _ | z, _ | ⟨y | y | _ | o, st⟩⟩⟩ <;> simp only [gstep] at h <;> first | (cases h; done) | skip
    cases hg2 : gwl o w with
    | none => simp only [hg2] at h; cases h
    | some e9 =>
      rcases e9 with ⟨cj, fs⟩ | ⟨_ | t, len, f | f⟩ <;> simp only [hg2] at h <;> first | (cases h; done) | skip
      cases h
      have h9 := hO _ rfl
      obtain ⟨q0, hq, hset⟩ := gwl_ix hg2
      refine va_iast (D := D) hx hb hK hP hD hS q0 0 (gw_at hq) rfl (gI_in h9) hd (fun H1 locs1 hP1 hD1 hS1 => ?_)
      rw [gI_wr f h9] at hP1 hD1
      refine k H1 locs1 ls ?_ ?_ hS1 hl
      · show va_P D vwCl (gw cA ad (gws o _ w)) H1
        rw [hset, gw_set]
        exact hP1
      · show va_D A (gw cA ad (gws o _ w))
        rw [hset, gw_set]
        exact hD1
  case bastore =>
    have hn := gbeq hw
    subst hn
    rcases st with _ | ⟨v | v | _ | v, _ | ⟨z | z | _ | z, _ | ⟨y | y | _ | o, st⟩⟩⟩ <;> simp only [gstep] at h <;> first | (cases h; done) | skip
    cases hg2 : gwl o w with
    | none => simp only [hg2] at h; cases h
    | some e9 =>
      rcases e9 with ⟨cj, fs⟩ | ⟨_ | _ | t, len, f | f⟩ <;> simp only [hg2] at h <;> first | (cases h; done) | skip
      cases h
      have h9 := hO _ rfl
      obtain ⟨q0, hq, hset⟩ := gwl_ix hg2
      refine va_zast (D := D) hx hb hK hP hD hS q0 1 (gw_at hq) rfl (gI_in h9.1) hd (fun H1 locs1 hP1 hD1 hS1 => ?_)
      rw [(gI_bool h9.2).2.2] at hP1 hD1
      rw [gI_wr f h9.1] at hP1 hD1
      refine k H1 locs1 ls ?_ ?_ hS1 hl
      · show va_P D vwCl (gw cA ad (gws o _ w)) H1
        rw [hset, gw_set]
        exact hP1
      · show va_D A (gw cA ad (gws o _ w))
        rw [hset, gw_set]
        exact hD1
  case arraylength =>
    have hn := gbeq hw
    subst hn
    rcases st with _ | ⟨y | y | _ | o, st⟩ <;> simp only [gstep] at h <;> first | (cases h; done) | skip
    cases hg2 : gwl o w with
    | none => simp only [hg2] at h; cases h
    | some e9 =>
      rcases e9 with ⟨cj, fs⟩ | ⟨_ | _ | t, len, f | f⟩ <;> simp only [hg2] at h <;> first | (cases h; done) | skip
      all_goals
        cases h
        obtain ⟨q0, hq, -⟩ := gwl_ix hg2
      · exact va_alen (D := D) hx hb hK hP q0 0 (gw_at hq) rfl (Int32.ofInt_eq_ofNat).symm hd (k H locs ls hP hD hS hl)
      · exact va_alen (D := D) hx hb hK hP q0 1 (gw_at hq) rfl (Int32.ofInt_eq_ofNat).symm hd (k H locs ls hP hD hS hl)
  all_goals (cases h)
