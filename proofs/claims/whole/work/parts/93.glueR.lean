/-! class and model tell the same: pages, what rules find, faults -/
def iPg (w0 w1 h0 h1 mpw mph : Int → Int) : Prop := ∀ q : Int, 0 ≤ q → q < 20 → (mpw q = w0 q ∧ mpw (20 + q) = w1 q) ∧ (mph q = h0 q ∧ mph (20 + q) = h1 q) ∧ 0 ≤ w0 q ∧ 0 ≤ w1 q
theorem iPg_m {w0 w1 h0 h1 mpw mph : Int → Int} (h : iPg w0 w1 h0 h1 mpw mph) {q : Int} (q0 : 0 ≤ q) (q1 : q < 20) : gms w0 w1 q ↔ mms mpw q := by
  obtain ⟨⟨a, b⟩, -, -⟩ := h q q0 q1
  unfold gms mms
  rw [a, b]
theorem iPg_ms {w0 w1 h0 h1 mpw mph : Int → Int} (h : iPg w0 w1 h0 h1 mpw mph) (n : Nat) (hn : n ≤ 20) : gsm (fun q => gb (gms w0 w1 q)) n = gsm (fun q => gb (mms mpw q)) n :=
  gsm_congr n fun q q0 q1 => gb_c (iPg_m h q0 (by omega))
theorem iPg_os {w0 w1 h0 h1 mpw mph : Int → Int} (h : iPg w0 w1 h0 h1 mpw mph) : gsm (fun q => gb (gos w0 w1 h0 h1 q)) 20 = gsm (fun q => gb (0 < mpw q ∧ 0 < mpw (20 + q) ∧ (mpw q ≠ mpw (20 + q) ∨ mph q ≠ mph (20 + q)))) 20 :=
  gsm_congr 20 fun q q0 q1 => by
    obtain ⟨⟨a, b⟩, ⟨c, d⟩, -⟩ := h q q0 (by omega)
    show gb (gos w0 w1 h0 h1 q) = gb (0 < mpw q ∧ 0 < mpw (20 + q) ∧ (mpw q ≠ mpw (20 + q) ∨ mph q ≠ mph (20 + q)))
    unfold gos
    rw [a, b, c, d]
theorem gmx_congr {f g : Int → Int} : ∀ n : Nat, (∀ i : Int, 0 ≤ i → i < n → f i = g i) → gmx f n = gmx g n
  | 0, _ => rfl
  | n + 1, h => by
    show max (gmx f n) (f n) = max (gmx g n) (g n)
    rw [gmx_congr n (fun i a b => h i a (by omega)), h n (by omega) (by omega)]
/-- rows counted in the class, rows counted in the model -/
theorem iKind {rs : Int} {rw_ ro : Int → Int} (hr : ∀ t : Int, 0 ≤ t → t < rs → 0 < ro (4 * t) → ∀ k : Int, 0 ≤ k → k < 4 → rw_ (gsm (fun q => gb (0 < ro (4 * q))) t.toNat * 4 + k) = ro (4 * t + k)) (Pr : Int → Prop) : ∀ m : Nat, (m : Int) ≤ rs → gsm (fun q => gb (Pr (rw_ (q * 4 + 0)))) (gsm (fun q => gb (0 < ro (4 * q))) m).toNat = gsm (fun q => gb (0 < ro (4 * q) ∧ Pr (ro (4 * q)))) m
  | 0, _ => rfl
  | m + 1, hm => by
    have ih := iKind hr Pr m (by omega)
    have hg := gsm_gb (fun q => 0 < ro (4 * q)) m
    show gsm (fun q => gb (Pr (rw_ (q * 4 + 0)))) (gsm (fun q => gb (0 < ro (4 * q))) m + gb (0 < ro (4 * (m : Int)))).toNat = gsm (fun q => gb (0 < ro (4 * q) ∧ Pr (ro (4 * q)))) m + gb (0 < ro (4 * (m : Int)) ∧ Pr (ro (4 * (m : Int))))
    by_cases h9 : 0 < ro (4 * (m : Int))
    · have h8 := hr m (by omega) (by omega) h9 0 (by omega) (by omega)
      rw [show ((m : Int)).toNat = m from rfl] at h8
      have h7 := gsm_next (fun q => gb (Pr (rw_ (q * 4 + 0)))) hg.1 rfl
      rw [gb_t h9, ← h7, ih]
      show _ + gb (Pr (rw_ (gsm (fun q => gb (0 < ro (4 * q))) m * 4 + 0))) = _
      rw [h8, Int.add_zero]
      congr 1
      exact gb_c ⟨fun h => ⟨h9, h⟩, fun h => h.2⟩
    · rw [gb_f h9, gb_f (P := 0 < ro (4 * (m : Int)) ∧ Pr (ro (4 * (m : Int)))) (fun h => h9 h.1), Int.add_zero, Int.add_zero, ih]
theorem gsm_pls {f g : Int → Int} : ∀ n : Nat, gsm f n + gsm g n = gsm (fun q => f q + g q) n
  | 0 => rfl
  | n + 1 => by
    show gsm f n + f n + (gsm g n + g n) = gsm (fun q => f q + g q) n + (f n + g n)
    rw [← gsm_pls n]
    omega
/-- what a rule finds is the same -/
theorem iFv {W H P M : Nat} (hW : W ≤ 32) (hH : H ≤ 32) (hP : P = W * H) {p0 p1 mpt rows : Int → Int} {ne fa dp c : Int} (hpt : iPt W H p0 p1 mpt) (hg : gVal W H P M ne fa p0 p1 dp c rows)
    {n0 n1 cn : Int} {v0 x0 y0 o0 v1 x1 y1 o1 rw_ mwn mwo mxo myo : Int → Int} (hn : (0 ≤ n0 ∧ n0 ≤ 40) ∧ 0 ≤ n1 ∧ n1 ≤ 40) (e0 : mwn 0 = n0) (e1 : mwn 1 = n1) (hO0 : wOrd n0 x0 y0 o0) (hO1 : wOrd n1 x1 y1 o1) (hs0 : iWs n0 v0 x0 y0 0 mwo mxo myo) (hs1 : iWs n1 v1 x1 y1 40 mwo mxo myo) (hc : wVal n0 v0 x0 y0 o0 n1 v1 x1 y1 o1 cn rw_)
    {w0 w1 h0 h1 mpw mph : Int → Int} (hpg : iPg w0 w1 h0 h1 mpw mph) {k v u : Int} (hk : 0 ≤ k ∧ k ≤ 5) (hv : cFv dp c rows cn rw_ w0 w1 h0 h1 k v) (hu : mFv W H ne fa mpt mwn mwo mxo myo mpw mph k u) : v = u := by
  obtain ⟨c0, c1, c2, c3, c4, c5, -⟩ := hv
  obtain ⟨m0, m1, m2, m3, m4, m5, -⟩ := hu
  have hk6 : k = 0 ∨ k = 1 ∨ k = 2 ∨ k = 3 ∨ k = 4 ∨ k = 5 := by omega
  rcases hk6 with e | e | e | e | e | e
  · rw [c0 e, m0 e, hg.1]
    exact iPt_s hW hH hP hpt
  · obtain ⟨mn, nb, bo, df, hm, hu⟩ := m1 e
    obtain ⟨-, b2, b3, -⟩ := iPt_b hW hH hP hpt hg hm
    rw [c1 e, hu, ← b2]
    have hc0 := hg.2.1.1
    refine gmx_congr _ fun i i0 i1 => ?_
    have t := b3 i i0 (by omega)
    have t0 := t 0 (by omega) (by omega)
    rw [Int.add_zero (4 * i)] at t0
    show (rows (i * 5 + 2) - rows (i * 5 + 0) + 1) * (rows (i * 5 + 3) - rows (i * 5 + 1) + 1) = (bo (4 * i + 2) - bo (4 * i) + 1) * (bo (4 * i + 3) - bo (4 * i + 1) + 1)
    rw [t0, t 1 (by omega) (by omega), t 2 (by omega) (by omega), t 3 (by omega) (by omega)]
  · obtain ⟨ord, rs, ro, hm, hu⟩ := m2 e
    obtain ⟨r1, r2⟩ := iWd hn e0 e1 hO0 hO1 hs0 hs1 hc hm
    rw [c2 e, hu, r1]
    by_cases hrs : 0 ≤ rs
    · have := iKind r2 (fun z => z = 1) rs.toNat (by omega)
      rw [this]
      exact gsm_congr _ fun q _ _ => gb_c ⟨fun h => ⟨h.1, Or.inl h.2⟩, fun h => ⟨h.1, h.2.elim id id⟩⟩
    · rw [show rs.toNat = 0 by omega]
      rfl
  · obtain ⟨ord, rs, ro, hm, hu⟩ := m3 e
    obtain ⟨r1, r2⟩ := iWd hn e0 e1 hO0 hO1 hs0 hs1 hc hm
    rw [c3 e, hu, r1]
    by_cases hrs : 0 ≤ rs
    · rw [iKind r2 (fun z => z = 2) rs.toNat (by omega), iKind r2 (fun z => z = 4) rs.toNat (by omega), gsm_pls]
      refine gsm_congr _ fun q _ _ => ?_
      show gb (0 < ro (4 * q) ∧ ro (4 * q) = 2) + gb (0 < ro (4 * q) ∧ ro (4 * q) = 4) = gb (0 < ro (4 * q) ∧ (ro (4 * q) = 2 ∨ ro (4 * q) = 4))
      by_cases h2 : ro (4 * q) = 2
      · rw [gb_t ⟨by omega, h2⟩, gb_f (fun h => by omega), gb_t ⟨by omega, Or.inl h2⟩]
        rfl
      · by_cases h4 : ro (4 * q) = 4
        · rw [gb_f (fun h => h2 h.2), gb_t ⟨by omega, h4⟩, gb_t ⟨by omega, Or.inr h4⟩]
          rfl
        · rw [gb_f (fun h => h2 h.2), gb_f (fun h => h4 h.2), gb_f (fun h => h.2.elim h2 h4)]
          rfl
    · rw [show rs.toNat = 0 by omega]
      rfl
  · rw [c4 e, m4 e]
    exact iPg_ms hpg 20 (Nat.le_refl _)
  · rw [c5 e, m5 e]
    exact iPg_os hpg
theorem gsm_sur {f : Int → Prop} : ∀ (n : Nat) (i : Int), 0 ≤ i → i < gsm (fun q => gb (f q)) n → ∃ r : Int, 0 ≤ r ∧ r < n ∧ f r ∧ gsm (fun q => gb (f q)) r.toNat = i
  | 0, i, h0, h1 => by
    have h2 : i < 0 := h1
    omega
  | n + 1, i, h0, h1 => by
    have h2 : i < gsm (fun q => gb (f q)) n + gb (f (n : Int)) := h1
    by_cases h3 : i < gsm (fun q => gb (f q)) n
    · obtain ⟨r, r0, r1, r2, r3⟩ := gsm_sur n i h0 h3
      exact ⟨r, r0, by omega, r2, r3⟩
    · by_cases h4 : f (n : Int)
      · rw [gb_t h4] at h2
        exact ⟨n, by omega, by omega, h4, by rw [show ((n : Int)).toNat = n from rfl]; omega⟩
      · rw [gb_f h4] at h2
        omega
/-- the rules, and the faults that the last check told -/
def iRu (rc fc : Int) (kd fl lm fs : Int → Int) (mrl mfl : Int) (mrk mrb mrf mfr mfm : Int → Int) : Prop := (mrl = rc ∧ mfl = fc) ∧ (∀ r, 0 ≤ r → r < rc → mrk r = kd r ∧ mrb r = lm r ∧ mrf r = fl r) ∧ ∀ i, 0 ≤ i → i < fc → (0 ≤ mfr i ∧ mfr i < rc) ∧ fs (i * 3) = mfr i ∧ fs (i * 3 + 1) = (if mrf (mfr i) = 0 then mrk (mfr i) else -1) ∧ fs (i * 3 + 2) = mfm i
theorem iCk {rc fc2 fl2 : Int} {kd lm fl fv fu fs2 mrk mrb mrf fr2 fm2 : Int → Int} (hrc : 0 ≤ rc) (hr : ∀ r, 0 ≤ r → r < rc → mrk r = kd r ∧ mrb r = lm r ∧ mrf r = fl r) (h01 : ∀ r : Int, fl r = 0 ∨ fl r = 1) (hv : ∀ r, 0 ≤ r → r < rc → fl r = 0 → fv r = fu r) (hc : cCk kd lm fl fv rc fc2 fs2) (hm : mCk mrb mrf fu rc fl2 fr2 fm2) : fl2 = fc2 ∧ ∀ i, 0 ≤ i → i < fc2 → (0 ≤ fr2 i ∧ fr2 i < rc) ∧ fs2 (i * 3) = fr2 i ∧ fs2 (i * 3 + 1) = (if mrf (fr2 i) = 0 then mrk (fr2 i) else -1) ∧ fs2 (i * 3 + 2) = fm2 i := by
  have hF : ∀ r, 0 ≤ r → r < rc → ((fl r = 1 ∨ lm r < fv r) ↔ (mrf r = 1 ∨ mrb r < fu r)) := fun r r0 r1 => by
    obtain ⟨a, b, c⟩ := hr r r0 r1
    rw [b, c]
    by_cases h0 : fl r = 0
    · rw [hv r r0 r1 h0]
    · have := h01 r
      exact ⟨fun _ => Or.inl (by omega), fun _ => Or.inl (by omega)⟩
  have hG : ∀ n : Nat, (n : Int) ≤ rc → gsm (fun r => gb (fl r = 1 ∨ lm r < fv r)) n = gsm (fun r => gb (mrf r = 1 ∨ mrb r < fu r)) n := fun n hn => gsm_congr n fun q q0 q1 => gb_c (hF q q0 (by omega))
  obtain ⟨c1, c2⟩ := hc
  obtain ⟨m1, m2⟩ := hm
  refine ⟨by rw [c1, m1, hG _ (by omega)], fun i i0 i1 => ?_⟩
  rw [c1] at i1
  obtain ⟨r, r0, r1, r2, r3⟩ := gsm_sur (f := fun r => fl r = 1 ∨ lm r < fv r) rc.toNat i i0 i1
  have k1 := c2 r r0 (by omega) r2
  have k2 := m2 r r0 (by omega) ((hF r r0 (by omega)).mp r2)
  rw [← hG _ (by omega)] at k2
  rw [r3] at k1 k2
  obtain ⟨a, b, c⟩ := hr r r0 (by omega)
  refine ⟨by rw [k2.1]; omega, by rw [k1.1, k2.1], by rw [k1.2.1, k2.1, c, a], ?_⟩
  rw [k1.2.2, k2.2, c]
  by_cases h0 : fl r = 0
  · rw [if_pos h0, if_pos h0, hv r r0 (by omega) h0]
  · rw [if_neg h0, if_neg h0]
