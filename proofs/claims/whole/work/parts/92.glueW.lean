/-! class and model tell the same: words -/
theorem wWk_k {n0 n1 : Int} {u nu xa ya v nv xb yb : Int → Int} {L : Int → Int → Int} : ∀ (f : Nat) (a b : Int) (q : Int × Int × Int × Int), q ∈ wWk n0 n1 u nu xa ya v nv xb yb L f a b → 0 ≤ q.1 := by
  intro f
  induction f with
  | zero => intro a b q h; cases h
  | succ f ih =>
    intro a b q h
    unfold wWk at h
    split at h
    · split at h
      · exact ih _ _ _ h
      · rcases List.mem_cons.mp h with rfl | h
        · show (0 : Int) ≤ 4; omega
        · exact ih _ _ _ h
    · split at h
      · rcases List.mem_cons.mp h with rfl | h
        · show (0 : Int) ≤ 1; omega
        · exact ih _ _ _ h
      · split at h
        · rcases List.mem_cons.mp h with rfl | h
          · show (0 : Int) ≤ 3; omega
          · exact ih _ _ _ h
        · cases h
theorem wp1_nn {c : Nat} {R : Int → Int} {g : Int} (h : ∀ k : Int, 0 ≤ k → k < c → 0 ≤ R (k * 4 + 0)) : ∀ k : Int, 0 ≤ k → k < c → 0 ≤ wp1 c R g (k * 4 + 0) := by
  intro k k0 k1
  unfold wp1
  split
  · split
    · exact h k k0 k1
    · unfold wmv gu
      split
      · omega
      · split
        · omega
        · split
          · omega
          · exact h k k0 k1
  · exact h k k0 k1
theorem wpr_nn {c : Nat} {R : Int → Int} (h : ∀ k : Int, 0 ≤ k → k < c → 0 ≤ R (k * 4 + 0)) : ∀ n : Nat, ∀ k : Int, 0 ≤ k → k < c → 0 ≤ wpr c R n (k * 4 + 0)
  | 0 => h
  | n + 1 => wp1_nn (wpr_nn h n)
theorem wOrd_c2 {n : Int} {xs ys o xs' ys' : Int → Int} (h : wOrd n xs ys o) (hc : ∀ j, 0 ≤ j → j < n → xs' j = xs j ∧ ys' j = ys j) : wOrd n xs' ys' o := by
  obtain ⟨z1, z2, z3⟩ := h
  refine ⟨z1, z2, fun i j i0 hij hj => ?_⟩
  have h1 := z3 i j i0 hij hj
  have a1 := z1 i i0 (by omega)
  have a2 := z1 j (by omega) hj
  obtain ⟨c1, c2⟩ := hc (o i) a1.1 a1.2
  obtain ⟨c3, c4⟩ := hc (o j) a2.1 a2.2
  unfold wbf at *
  rw [c1, c2, c3, c4]
  exact h1
/-- the words of a side: class and model -/
def iWs (n : Int) (v x y : Int → Int) (b : Int) (mwo mxo myo : Int → Int) : Prop := ∀ j, 0 ≤ j → j < n → mwo (b + j) = v j ∧ mxo (b + j) = x j ∧ myo (b + j) = y j
theorem wRow_eq {l : List (Int × Int × Int × Int)} {cn rs : Int} {rw_ ro : Int → Int} (hk : ∀ q ∈ l, 0 ≤ q.1) (h1 : wTold l cn rw_) (h2 : mRow l rs ro) : cn = gsm (fun q => gb (0 < ro (4 * q))) rs.toNat ∧ ∀ t : Int, 0 ≤ t → t < rs → 0 < ro (4 * t) → ∀ k : Int, 0 ≤ k → k < 4 → rw_ (gsm (fun q => gb (0 < ro (4 * q))) t.toNat * 4 + k) = ro (4 * t + k) := by
  obtain ⟨R, r1, r2, r3⟩ := h1
  obtain ⟨S, s1, s2, s3⟩ := h2
  have hRS : ∀ q, 0 ≤ q → q < (l.length : Int) * 4 → R q = S q := by
    intro q q0 q1
    obtain ⟨i, hi⟩ : ∃ i : Nat, (i : Int) = q / 4 := ⟨(q / 4).toNat, by omega⟩
    have hlt : i < l.length := by omega
    obtain ⟨a0, a1, a2, a3⟩ := r1 i _ (List.getElem?_eq_getElem hlt)
    obtain ⟨b0, b1, b2, b3⟩ := s1 i _ (List.getElem?_eq_getElem hlt)
    have hm : q = (i : Int) * 4 + 0 ∨ q = (i : Int) * 4 + 1 ∨ q = (i : Int) * 4 + 2 ∨ q = (i : Int) * 4 + 3 := by omega
    rcases hm with e | e | e | e
    · rw [e, a0, b0]
    · rw [e, a1, b1]
    · rw [e, a2, b2]
    · rw [e, a3, b3]
  have hRn : ∀ k : Int, 0 ≤ k → k < (l.length : Int) → 0 ≤ R (k * 4 + 0) := by
    intro k k0 k1
    have hlt : k.toNat < l.length := by omega
    obtain ⟨a0, -⟩ := r1 k.toNat _ (List.getElem?_eq_getElem hlt)
    rw [show ((k.toNat : Nat) : Int) = k by omega] at a0
    rw [a0]
    exact hk _ (List.getElem_mem hlt)
  have hW := wpr_c hRS l.length (Nat.le_refl _)
  have hN := wpr_nn hRn l.length
  have hro : ∀ q, 0 ≤ q → q < (l.length : Int) * 4 → ro q = wpr l.length R l.length q := fun q q0 q1 => by
    rw [s3 q q0 (by omega), hW q q0 q1]
  have hg : ∀ n : Nat, n ≤ l.length → wkc (wpr l.length R l.length) n = gsm (fun q => gb (0 < ro (4 * q))) n := fun n hn => by
    unfold wkc
    apply gsm_congr
    intro q q0 q1
    have h9 := hN q q0 (by omega)
    show gb (wpr l.length R l.length (q * 4 + 0) ≠ 0) = gb (0 < ro (4 * q))
    rw [hro (4 * q) (by omega) (by omega), show 4 * q = q * 4 + 0 by omega]
    exact gb_c ⟨fun h8 => by omega, fun h8 => by omega⟩
  refine ⟨?_, fun t t0 t1 ht k k0 k1 => ?_⟩
  · rw [r2, s2, hg _ (Nat.le_refl _)]
    rfl
  · have h8 := r3 t.toNat (by omega) (by
      rw [show ((t.toNat : Nat) : Int) = t by omega]
      rw [hro (4 * t) (by omega) (by omega), show 4 * t = t * 4 + 0 by omega] at ht
      omega) k k0 k1
    rw [show ((t.toNat : Nat) : Int) = t by omega, hg _ (by omega)] at h8
    rw [h8, hro (4 * t + k) (by omega) (by omega), show 4 * t + k = t * 4 + k by omega]
theorem iWd {n0 n1 cn rs : Int} {v0 x0 y0 o0 v1 x1 y1 o1 rw_ mwn mwo mxo myo ord ro : Int → Int} (hn : (0 ≤ n0 ∧ n0 ≤ 40) ∧ 0 ≤ n1 ∧ n1 ≤ 40) (e0 : mwn 0 = n0) (e1 : mwn 1 = n1) (hO0 : wOrd n0 x0 y0 o0) (hO1 : wOrd n1 x1 y1 o1) (hs0 : iWs n0 v0 x0 y0 0 mwo mxo myo) (hs1 : iWs n1 v1 x1 y1 40 mwo mxo myo) (hc : wVal n0 v0 x0 y0 o0 n1 v1 x1 y1 o1 cn rw_) (hm : mWv mwn mwo mxo myo ord rs ro) : cn = gsm (fun q => gb (0 < ro (4 * q))) rs.toNat ∧ ∀ t : Int, 0 ≤ t → t < rs → 0 < ro (4 * t) → ∀ k : Int, 0 ≤ k → k < 4 → rw_ (gsm (fun q => gb (0 < ro (4 * q))) t.toNat * 4 + k) = ro (4 * t + k) := by
  obtain ⟨L, l1, l2⟩ := hc
  obtain ⟨m1, m2, M, m3, m4⟩ := hm
  rw [e0] at m1
  rw [e1] at m2
  rw [e0, e1] at m3 m4
  have u0 : ∀ j : Int, 0 ≤ j → j < n0 → o0 j = ord j := fun j j0 j1 => by
    have h9 := wOrd_uni hO0 (wOrd_c2 m1 (fun j j0 j1 => by
      have h8 := hs0 j j0 j1
      rw [Int.zero_add] at h8
      exact ⟨h8.2.1.symm, h8.2.2.symm⟩)) j.toNat (by omega)
    rw [show ((j.toNat : Nat) : Int) = j by omega] at h9
    exact h9
  have u1 : ∀ j : Int, 0 ≤ j → j < n1 → o1 j = ord (40 + j) - 40 := fun j j0 j1 => by
    have h9 := wOrd_uni hO1 (wOrd_c2 m2 (fun j j0 j1 => by
      have h8 := hs1 j j0 j1
      exact ⟨h8.2.1.symm, h8.2.2.symm⟩)) j.toNat (by omega)
    rw [show ((j.toNat : Nat) : Int) = j by omega] at h9
    exact h9
  have a0 : ∀ j : Int, 0 ≤ j → j < n0 → mwo (ord j) = v0 (o0 j) ∧ mxo (ord j) = x0 (o0 j) ∧ myo (ord j) = y0 (o0 j) := fun j j0 j1 => by
    have h9 := hO0.1 j j0 j1
    have h8 := hs0 (o0 j) h9.1 h9.2
    rw [Int.zero_add] at h8
    rw [← u0 j j0 j1]
    exact h8
  have a1 : ∀ j : Int, 0 ≤ j → j < n1 → mwo (ord (40 + j)) = v1 (o1 j) ∧ mxo (ord (40 + j)) = x1 (o1 j) ∧ myo (ord (40 + j)) = y1 (o1 j) := fun j j0 j1 => by
    have h9 := hO1.1 j j0 j1
    have h8 := hs1 (o1 j) h9.1 h9.2
    have h7 := u1 j j0 j1
    rw [show 40 + o1 j = ord (40 + j) by omega] at h8
    exact h8
  have hL := wLok_uni (u := fun j => v0 (o0 j)) (v := fun j => v1 (o1 j)) (u' := mU mwo ord) (v' := mV mwo ord) (fun a h1 h2 => (a0 a h1 h2).1.symm) (fun b h1 h2 => (a1 b h1 h2).1.symm) l1 m3
  have hl := wWk_c (u := fun j => v0 (o0 j)) (nu := o0) (xa := fun j => x0 (o0 j)) (ya := fun j => y0 (o0 j)) (v := fun j => v1 (o1 j)) (nv := o1) (xb := fun j => x1 (o1 j)) (yb := fun j => y1 (o1 j)) (u' := mU mwo ord) (nu' := ord) (xa' := fun j => mxo (ord j)) (ya' := fun j => myo (ord j)) (v' := mV mwo ord) (nv' := fun j => ord (40 + j) - 40) (xb' := fun j => mxo (ord (40 + j))) (yb' := fun j => myo (ord (40 + j))) (L := L) (L' := M)
    (fun a h1 h2 => ⟨(a0 a h1 h2).1.symm, u0 a h1 h2, (a0 a h1 h2).2.1.symm, (a0 a h1 h2).2.2.symm⟩) (fun b h1 h2 => ⟨(a1 b h1 h2).1.symm, u1 b h1 h2, (a1 b h1 h2).2.1.symm, (a1 b h1 h2).2.2.symm⟩) (fun a b h1 h2 h3 h4 => hL 80 a b h1 h2 h3 h4 (by omega)) 80 0 0 (by omega) (by omega) (by omega) (by omega)
  rw [hl] at l2
  exact wRow_eq (fun q hq => wWk_k _ _ _ q hq) l2 m4
