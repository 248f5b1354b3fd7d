theorem mgw_at (f : Int → Int) (b x1 x2 x3 x4 : Int) : mrw (mgw f b x1 x2 x3 x4) b 0 = min x1 (f (4 * b)) ∧ mrw (mgw f b x1 x2 x3 x4) b 1 = min x2 (f (4 * b + 1)) ∧ mrw (mgw f b x1 x2 x3 x4) b 2 = max x3 (f (4 * b + 2)) ∧ mrw (mgw f b x1 x2 x3 x4) b 3 = max x4 (f (4 * b + 3)) ∧ ∀ j, (j < 4 * b ∨ 4 * b + 4 ≤ j) → mgw f b x1 x2 x3 x4 j = f j := by
  unfold mrw mgw
  refine ⟨?_, ?_, ?_, ?_, fun j hj => ?_⟩
  · rw [gu_n _ _ (by omega), gu_n _ _ (by omega), gu_n _ _ (by omega), show 4 * b + 0 = 4 * b by omega, gu_s]
  · rw [gu_n _ _ (by omega), gu_n _ _ (by omega), gu_s]
  · rw [gu_n _ _ (by omega), gu_s]
  · rw [gu_s]
  · rw [gu_n _ _ (by omega), gu_n _ _ (by omega), gu_n _ _ (by omega), gu_n _ _ (by omega)]
theorem mgw_r {f : Int → Int} (h : ∀ j, inR (f j)) {b x1 x2 x3 x4 : Int} (h1 : inR x1) (h2 : inR x2) (h3 : inR x3) (h4 : inR x4) : ∀ j, inR (mgw f b x1 x2 x3 x4 j) := by
  unfold mgw
  exact gu_r (gu_r (gu_r (gu_r h (gmn_r h1 (h _)).1) (gmn_r h2 (h _)).1) (gmn_r h3 (h _)).2) (gmn_r h4 (h _)).2
def mmem (df lb : Int → Int) (r j : Int) : Prop := (0 ≤ j ∧ j < 1024) ∧ df j = 1 ∧ lb j = r
/-- box b is the least one of those before q that have the label r (and of r) -/
def mLp (df lb : Int → Int) (r q : Int) (b : Int → Int) : Prop := (∀ j, mmem df lb r j → j < q → fin b (j % 32) (j / 32)) ∧ (∃ j, mmem df lb r j ∧ b 0 = j % 32) ∧ (∃ j, mmem df lb r j ∧ b 1 = j / 32) ∧ (∃ j, mmem df lb r j ∧ b 2 = j % 32) ∧ (∃ j, mmem df lb r j ∧ b 3 = j / 32)
theorem mLp_skip {df lb : Int → Int} {r q : Int} {b : Int → Int} (h : mLp df lb r q b) (hn : ¬ mmem df lb r q) : mLp df lb r (q + 1) b := ⟨fun j hj h9 => h.1 j hj (by
  by_cases e : j = q
  · subst e; exact absurd hj hn
  · omega), h.2⟩
theorem mLp_grow {df lb : Int → Int} {r q : Int} {b c : Int → Int} (h : mLp df lb r q b) (hm : mmem df lb r q) (c0 : c 0 = min (q % 32) (b 0)) (c1 : c 1 = min (q / 32) (b 1)) (c2 : c 2 = max (q % 32) (b 2)) (c3 : c 3 = max (q / 32) (b 3)) : mLp df lb r (q + 1) c := by
  obtain ⟨h0, ⟨j0, m0, e0⟩, ⟨j1, m1, e1⟩, ⟨j2, m2, e2⟩, ⟨j3, m3, e3⟩⟩ := h
  refine ⟨fun j hj h9 => ?_, ?_, ?_, ?_, ?_⟩
  · by_cases e : j = q
    · subst e
      unfold fin
      omega
    · have := h0 j hj (by omega)
      unfold fin at *
      omega
  · by_cases e : q % 32 ≤ b 0
    · exact ⟨q, hm, by omega⟩
    · exact ⟨j0, m0, by omega⟩
  · by_cases e : q / 32 ≤ b 1
    · exact ⟨q, hm, by omega⟩
    · exact ⟨j1, m1, by omega⟩
  · by_cases e : b 2 ≤ q % 32
    · exact ⟨q, hm, by omega⟩
    · exact ⟨j2, m2, by omega⟩
  · by_cases e : b 3 ≤ q / 32
    · exact ⟨q, hm, by omega⟩
    · exact ⟨j3, m3, by omega⟩
theorem mLp_c {df lb : Int → Int} {r q : Int} {b c : Int → Int} (h : mLp df lb r q b) (e0 : c 0 = b 0) (e1 : c 1 = b 1) (e2 : c 2 = b 2) (e3 : c 3 = b 3) : mLp df lb r q c := by
  unfold mLp fin at *
  rw [e0, e1, e2, e3]
  exact h
theorem mLp_keep {df lb : Int → Int} {r q i n : Int} {f g : Int → Int} (h : mLp df lb r q (mrw f i)) (hi : i < n) (hk : ∀ j, j < 4 * n → g j = f j) : mLp df lb r q (mrw g i) := mLp_c h (hk _ (by omega)) (hk _ (by omega)) (hk _ (by omega)) (hk _ (by omega))
/-- the boxes of the labels before p -/
def mMk (df lb : Int → Int) (p n : Int) (bo : Int → Int) : Prop := (0 ≤ n ∧ n ≤ p) ∧ (∀ i, 0 ≤ i → i < n → ∃ r, (0 ≤ r ∧ r < p) ∧ mmem df lb r r ∧ mLp df lb r 1024 (mrw bo i)) ∧ (∀ r, 0 ≤ r → r < p → mmem df lb r r → ∃ i, 0 ≤ i ∧ i < n ∧ mLp df lb r 1024 (mrw bo i)) ∧ ∀ j, inR (bo j)
theorem mMk_skip {df lb : Int → Int} {p n : Int} {bo : Int → Int} (h : mMk df lb p n bo) (hn : ¬ mmem df lb p p) : mMk df lb (p + 1) n bo := ⟨⟨h.1.1, by have := h.1; omega⟩, fun i i0 i1 => by
  obtain ⟨r, h1, h2⟩ := h.2.1 i i0 i1
  exact ⟨r, by omega, h2⟩, fun r r0 r1 hr => by
  by_cases e : r = p
  · subst e; exact absurd hr hn
  · exact h.2.2.1 r r0 (by omega) hr, h.2.2.2⟩
theorem mMk_add {df lb : Int → Int} {p n : Int} {bo bo' : Int → Int} (h : mMk df lb p n bo) (p0 : 0 ≤ p) (hm : mmem df lb p p) (hk : ∀ j, j < 4 * n → bo' j = bo j) (hl : mLp df lb p 1024 (mrw bo' n)) (hr : ∀ j, inR (bo' j)) : mMk df lb (p + 1) (n + 1) bo' := by
  obtain ⟨h1, h2, h3, h4⟩ := h
  refine ⟨by omega, fun i i0 i1 => ?_, fun r r0 r1 hr => ?_, hr⟩
  · by_cases e : i = n
    · subst e
      exact ⟨p, by omega, hm, hl⟩
    · obtain ⟨r, k1, k2, k3⟩ := h2 i i0 (by omega)
      exact ⟨r, by omega, k2, mLp_keep k3 (by omega) hk⟩
  · by_cases e : r = p
    · subst e
      exact ⟨n, by omega, by omega, hl⟩
    · obtain ⟨i, i0, i1, k3⟩ := h3 r r0 (by omega) hr
      exact ⟨i, i0, by omega, mLp_keep k3 i1 hk⟩
def mm1 (f : Int → Int) (b n k : Int) : Int → Int := gu f (4 * b + k) (f (4 * n + k))
def mmv (f : Int → Int) (b n : Int) : Int → Int := mm1 (mm1 (mm1 (mm1 f b n 0) b n 1) b n 2) b n 3
def ms1 (f : Int → Int) (i k j : Int) : Int → Int := gu (gu f (4 * i + j) (f (4 * k + j))) (4 * k + j) (f (4 * i + j))
def msw (f : Int → Int) (i k : Int) : Int → Int := ms1 (ms1 (ms1 (ms1 f i k 0) i k 1) i k 2) i k 3
theorem msw_row (f : Int → Int) {i k : Int} (h : i ≠ k) (a j : Int) (j0 : 0 ≤ j) (j1 : j < 4) : mrw (msw f i k) a j = mrw f (if a = i then k else if a = k then i else a) j := by
  have key : ∀ (g : Int → Int) (n : Int), 0 ≤ n → n < 4 → ∀ a m : Int, 0 ≤ m → m < 4 → ms1 g i k n (4 * a + m) = if m = n then (if a = i then g (4 * k + m) else if a = k then g (4 * i + m) else g (4 * a + m)) else g (4 * a + m) := by
    intro g n n0 n1 a m m0 m1
    unfold ms1
    by_cases e : m = n
    · subst e
      rw [if_pos rfl]
      by_cases e1 : a = k
      · subst e1
        rw [gu_s, if_neg (by omega), if_pos rfl]
      · rw [gu_n _ _ (by omega)]
        by_cases e2 : a = i
        · subst e2
          rw [gu_s, if_pos rfl]
        · rw [gu_n _ _ (by omega), if_neg e2, if_neg e1]
    · rw [if_neg e, gu_n _ _ (by omega), gu_n _ _ (by omega)]
  unfold mrw msw
  have hc : j = 0 ∨ j = 1 ∨ j = 2 ∨ j = 3 := by omega
  by_cases e1 : a = i
  · subst e1
    rw [if_pos rfl]
    rcases hc with rfl | rfl | rfl | rfl <;> simp [key, h, -Int.add_zero]
  · rw [if_neg e1]
    by_cases e2 : a = k
    · subst e2
      rw [if_pos rfl]
      rcases hc with rfl | rfl | rfl | rfl <;> simp [key, e1, -Int.add_zero]
    · rw [if_neg e2]
      rcases hc with rfl | rfl | rfl | rfl <;> simp [key, e1, e2, -Int.add_zero]
theorem mmv_row (f : Int → Int) {b n : Int} (a j : Int) (j0 : 0 ≤ j) (j1 : j < 4) : mrw (mmv f b n) a j = mrw f (if a = b then n else a) j := by
  have key : ∀ (g : Int → Int) (m : Int), 0 ≤ m → m < 4 → ∀ a l : Int, 0 ≤ l → l < 4 → mm1 g b n m (4 * a + l) = if l = m ∧ a = b then g (4 * n + l) else g (4 * a + l) := by
    intro g m m0 m1 a l l0 l1
    unfold mm1
    by_cases e : l = m ∧ a = b
    · rw [if_pos e, e.1, e.2, gu_s]
    · rw [if_neg e, gu_n _ _ (by omega)]
  unfold mrw mmv
  have hc : j = 0 ∨ j = 1 ∨ j = 2 ∨ j = 3 := by omega
  by_cases e1 : a = b
  · subst e1
    rw [if_pos rfl]
    rcases hc with rfl | rfl | rfl | rfl <;> simp [key, -Int.add_zero]
  · rw [if_neg e1]
    rcases hc with rfl | rfl | rfl | rfl <;> simp [key, e1, -Int.add_zero]
/-- rows before i are in order with all behind them; row i with those before k -/
def mSo (bo : Int → Int) (nb i k : Int) : Prop := (∀ a b, 0 ≤ a → a < b → b < nb → a < i → ¬ flt (mrw bo b) (mrw bo a)) ∧ ∀ b, i < b → b < k → b < nb → ¬ flt (mrw bo b) (mrw bo i)
theorem flt_c {b c b' c' : Int → Int} (e0 : b 0 = b' 0) (e1 : b 1 = b' 1) (f0 : c 0 = c' 0) (f1 : c 1 = c' 1) : flt b c ↔ flt b' c' := by
  unfold flt
  rw [e0, e1, f0, f1]
theorem mSo_swap {bo : Int → Int} {nb i k : Int} (h : mSo bo nb i k) (i0 : 0 ≤ i) (ik : i < k) (k1 : k < nb) (hl : flt (mrw bo k) (mrw bo i)) : mSo (msw bo i k) nb i (k + 1) := by
  obtain ⟨h1, h2⟩ := h
  have R : ∀ a, mrw (msw bo i k) a 0 = mrw bo (if a = i then k else if a = k then i else a) 0 ∧ mrw (msw bo i k) a 1 = mrw bo (if a = i then k else if a = k then i else a) 1 := fun a => ⟨msw_row bo (by omega) a 0 (by omega) (by omega), msw_row bo (by omega) a 1 (by omega) (by omega)⟩
  refine ⟨fun a b a0 ab b1 ai => ?_, fun b b0 b1 b2 => ?_⟩
  · rw [flt_c (R b).1 (R b).2 (R a).1 (R a).2, if_neg (show ¬ a = i by omega), if_neg (show ¬ a = k by omega)]
    refine h1 a _ a0 ?_ ?_ ai
    · split
      · omega
      · split <;> omega
    · split
      · omega
      · split <;> omega
  · rw [flt_c (R b).1 (R b).2 (R i).1 (R i).2, if_neg (show ¬ b = i by omega), if_pos rfl]
    by_cases e : b = k
    · rw [if_pos e]
      unfold flt at *
      omega
    · rw [if_neg e]
      have := h2 b b0 (by omega) b2
      unfold flt at *
      omega
set_option maxHeartbeats 4000000 in
set_option maxRecDepth 100000 in
theorem c_X8_makeBoxes (l : Launch) (D : va_G) (cA : Nat → ClassId) (W : Nat) (H : Nat) (mth : Int) (mbd : Int) (mne : Int) (mnw : Int) (mmn : Int) (mbx : Int) (man : Int) (mrs : Int) (mrl : Int) (mfl : Int) (mpt : Int → Int) (mdf : Int → Int) (mlb : Int → Int) (mbo : Int → Int) (mwn : Int → Int) (mwo : Int → Int) (mxo : Int → Int) (myo : Int → Int) (mor : Int → Int) (mco : Int → Int) (mro : Int → Int) (mpw : Int → Int) (mph : Int → Int) (mrk : Int → Int) (mrb : Int → Int) (mrf : Int → Int) (mfr : Int → Int) (mfm : Int → Int) (med : Int → Int) (map : Int → Int) (mwh : Int → Int) (hdf : ∀ q : Int, mdf q = 0 ∨ mdf q = 1) (hlb : ∀ q : Int, inR (mlb q)) (hbo : ∀ q : Int, inR (mbo q)) :
    gC l D cA yX8_makeBoxes mX8_makeBoxes none 0 0 [gr 60] (moW W H mth mbd mne mnw mmn mbx man mrs mrl mfl mpt mdf mlb mbo mwn mwo mxo myo mor mco mro mpw mph mrk mrb mrf mfr mfm med map mwh) (fun r9 w9 => ∃ (bx2 : Int) (bo2 : Int → Int), r9 = none ∧ w9 = moW W H mth mbd mne mnw mmn bx2 man mrs mrl mfl mpt mdf mlb bo2 mwn mwo mxo myo mor mco mro mpw mph mrk mrb mrf mfr mfm med map mwh ∧ (mMk mdf mlb 1024 bx2 bo2)) := by
  refine gC_of rfl kX8_makeBoxes rfl rfl (Nat.le_of_ble_eq_true rfl) (fun X ad hX hE => ?_)
  refine G.go hX 5 (moW W H mth mbd mne mnw mmn 0 man mrs mrl mfl mpt mdf mlb mbo mwn mwo mxo myo mor mco mro mpw mph mrk mrb mrf mfr mfm med map mwh, 7, [(0, gr 60), (1, gi 0)], []) rfl trivial ?_
  have lp7 : ∀ (n : Nat) (p : Int) (bx1 : Int) (bo1 : Int → Int), (0 ≤ p ∧ p ≤ 1024) → (mMk mdf mlb p bx1 bo1) → (1024 - p).toNat < n → G X mX8_makeBoxes ad 0 0 (moW W H mth mbd mne mnw mmn bx1 man mrs mrl mfl mpt mdf mlb bo1 mwn mwo mxo myo mor mco mro mpw mph mrk mrb mrf mfr mfm med map mwh, 7, [(0, gr 60), (1, gi p)], []) := by
    intro n
    induction n with
    | zero => intro p bx1 bo1 hp hM hm9; exact absurd hm9 (Nat.not_lt_zero _)
    | succ n ih7 =>
      intro p bx1 bo1 hp hM hm7
      have hM1 := hM.1
      refine G.go hX 2 (moW W H mth mbd mne mnw mmn bx1 man mrs mrl mfl mpt mdf mlb bo1 mwn mwo mxo myo mor mco mro mpw mph mrk mrb mrf mfr mfm med map mwh, 11, [(0, gr 60), (1, gi p)], [gi 1024, gi p]) rfl trivial ?_
      refine g_icmp_ge hX 150 rfl rfl ⟨by omega, by omega⟩ ⟨by omega, by omega⟩ (fun b11 => ?_) (fun b11 => ?_)
      ·
        exact g_vret hX hE rfl ⟨bx1, bo1, rfl, rfl, by (rw [show (1024 : Int) = p by omega]; exact hM)⟩
      ·
        have hb9 := hdf p
        refine G.go hX 4 (moW W H mth mbd mne mnw mmn bx1 man mrs mrl mfl mpt mdf mlb bo1 mwn mwo mxo myo mor mco mro mpw mph mrk mrb mrf mfr mfm med map mwh, 20, [(0, gr 60), (1, gi p)], [gi (mdf p)]) rfl ?_ ?_
        · refine ⟨?_, trivial⟩
          · omega
        refine g_if_eq hX 144 rfl rfl ⟨by omega, by omega⟩ (fun b20 => ?_) (fun b20 => ?_)
        ·
          refine G.go hX 2 (moW W H mth mbd mne mnw mmn bx1 man mrs mrl mfl mpt mdf mlb bo1 mwn mwo mxo myo mor mco mro mpw mph mrk mrb mrf mfr mfm med map mwh, 7, [(0, gr 60), (1, gi (p + 1))], []) rfl trivial ?_
          exact ih7 (p + 1) bx1 bo1 (by omega) (by exact mMk_skip hM (fun h9 => by have := h9.2.1; omega)) (by omega)
        ·
          refine G.go hX 5 (moW W H mth mbd mne mnw mmn bx1 man mrs mrl mfl mpt mdf mlb bo1 mwn mwo mxo myo mor mco mro mpw mph mrk mrb mrf mfr mfm med map mwh, 30, [(0, gr 60), (1, gi p)], [gi p, gi (mlb p)]) rfl ?_ ?_
          · refine ⟨?_, trivial⟩
            · omega
          refine g_icmp_ne hX 144 rfl rfl (by first | exact hlb _ | exact ⟨by omega, by omega⟩) (by first | exact hlb _ | exact ⟨by omega, by omega⟩) (fun b30 => ?_) (fun b30 => ?_)
          ·
            refine G.go hX 2 (moW W H mth mbd mne mnw mmn bx1 man mrs mrl mfl mpt mdf mlb bo1 mwn mwo mxo myo mor mco mro mpw mph mrk mrb mrf mfr mfm med map mwh, 7, [(0, gr 60), (1, gi (p + 1))], []) rfl trivial ?_
            exact ih7 (p + 1) bx1 bo1 (by omega) (by exact mMk_skip hM (fun h9 => by have := h9.2.2; omega)) (by omega)
          ·
            have hmp : mmem mdf mlb p p := ⟨⟨by omega, by omega⟩, by omega, by omega⟩
            refine G.go hX 4 (moW W H mth mbd mne mnw mmn bx1 man mrs mrl mfl mpt mdf mlb bo1 mwn mwo mxo myo mor mco mro mpw mph mrk mrb mrf mfr mfm med map mwh, 37, [(0, gr 60), (1, gi p), (2, gi 0)], [gi 4, gi 0]) rfl trivial ?_
            refine g_icmp_ge hX 76 rfl rfl ⟨by omega, by omega⟩ ⟨by omega, by omega⟩ (fun b37 => ?_) (fun b37 => ?_)
            ·
              exfalso
              omega
            ·
              refine G.go hX 11 (moW W H mth mbd mne mnw mmn bx1 man mrs mrl mfl mpt mdf mlb bo1 mwn mwo mxo myo mor mco mro mpw mph mrk mrb mrf mfr mfm med map mwh, 55, [(0, gr 60), (1, gi p), (2, gi 0)], [gi 0, gi ((4 * bx1) + 0), gr 64]) rfl ?_ ?_
              · refine ⟨?_, trivial⟩
                · omega
              refine g_if_ne hX 65 rfl rfl ⟨by omega, by omega⟩ (fun b55 => ?_) (fun b55 => ?_)
              ·
                exfalso
                omega
              ·
                refine G.go hX 9 (moW W H mth mbd mne mnw mmn bx1 man mrs mrl mfl mpt mdf mlb (gu bo1 ((4 * bx1) + 0) (p % 32)) mwn mwo mxo myo mor mco mro mpw mph mrk mrb mrf mfr mfm med map mwh, 37, [(0, gr 60), (1, gi p), (2, gi 1)], [gi 4, gi 1]) rfl ?_ ?_
                · refine ⟨?_, ?_, trivial⟩
                  · omega
                  · omega
                refine g_icmp_ge hX 76 rfl rfl ⟨by omega, by omega⟩ ⟨by omega, by omega⟩ (fun b37 => ?_) (fun b37 => ?_)
                ·
                  exfalso
                  omega
                ·
                  refine G.go hX 11 (moW W H mth mbd mne mnw mmn bx1 man mrs mrl mfl mpt mdf mlb (gu bo1 ((4 * bx1) + 0) (p % 32)) mwn mwo mxo myo mor mco mro mpw mph mrk mrb mrf mfr mfm med map mwh, 55, [(0, gr 60), (1, gi p), (2, gi 1)], [gi 1, gi ((4 * bx1) + 1), gr 64]) rfl ?_ ?_
                  · refine ⟨?_, trivial⟩
                    · omega
                  refine g_if_ne hX 65 rfl rfl ⟨by omega, by omega⟩ (fun b55 => ?_) (fun b55 => ?_)
                  ·
                    refine G.go hX 8 (moW W H mth mbd mne mnw mmn bx1 man mrs mrl mfl mpt mdf mlb (gu (gu bo1 ((4 * bx1) + 0) (p % 32)) ((4 * bx1) + 1) (p / 32)) mwn mwo mxo myo mor mco mro mpw mph mrk mrb mrf mfr mfm med map mwh, 37, [(0, gr 60), (1, gi p), (2, gi 2)], [gi 4, gi 2]) rfl ?_ ?_
                    · refine ⟨?_, ?_, trivial⟩
                      · omega
                      · omega
                    refine g_icmp_ge hX 76 rfl rfl ⟨by omega, by omega⟩ ⟨by omega, by omega⟩ (fun b37 => ?_) (fun b37 => ?_)
                    ·
                      exfalso
                      omega
                    ·
                      refine G.go hX 11 (moW W H mth mbd mne mnw mmn bx1 man mrs mrl mfl mpt mdf mlb (gu (gu bo1 ((4 * bx1) + 0) (p % 32)) ((4 * bx1) + 1) (p / 32)) mwn mwo mxo myo mor mco mro mpw mph mrk mrb mrf mfr mfm med map mwh, 55, [(0, gr 60), (1, gi p), (2, gi 2)], [gi 0, gi ((4 * bx1) + 2), gr 64]) rfl ?_ ?_
                      · refine ⟨?_, trivial⟩
                        · omega
                      refine g_if_ne hX 65 rfl rfl ⟨by omega, by omega⟩ (fun b55 => ?_) (fun b55 => ?_)
                      ·
                        exfalso
                        omega
                      ·
                        refine G.go hX 9 (moW W H mth mbd mne mnw mmn bx1 man mrs mrl mfl mpt mdf mlb (gu (gu (gu bo1 ((4 * bx1) + 0) (p % 32)) ((4 * bx1) + 1) (p / 32)) ((4 * bx1) + 2) (p % 32)) mwn mwo mxo myo mor mco mro mpw mph mrk mrb mrf mfr mfm med map mwh, 37, [(0, gr 60), (1, gi p), (2, gi 3)], [gi 4, gi 3]) rfl ?_ ?_
                        · refine ⟨?_, ?_, trivial⟩
                          · omega
                          · omega
                        refine g_icmp_ge hX 76 rfl rfl ⟨by omega, by omega⟩ ⟨by omega, by omega⟩ (fun b37 => ?_) (fun b37 => ?_)
                        ·
                          exfalso
                          omega
                        ·
                          refine G.go hX 11 (moW W H mth mbd mne mnw mmn bx1 man mrs mrl mfl mpt mdf mlb (gu (gu (gu bo1 ((4 * bx1) + 0) (p % 32)) ((4 * bx1) + 1) (p / 32)) ((4 * bx1) + 2) (p % 32)) mwn mwo mxo myo mor mco mro mpw mph mrk mrb mrf mfr mfm med map mwh, 55, [(0, gr 60), (1, gi p), (2, gi 3)], [gi 1, gi ((4 * bx1) + 3), gr 64]) rfl ?_ ?_
                          · refine ⟨?_, trivial⟩
                            · omega
                          refine g_if_ne hX 65 rfl rfl ⟨by omega, by omega⟩ (fun b55 => ?_) (fun b55 => ?_)
                          ·
                            refine G.go hX 8 (moW W H mth mbd mne mnw mmn bx1 man mrs mrl mfl mpt mdf mlb (gu (gu (gu (gu bo1 ((4 * bx1) + 0) (p % 32)) ((4 * bx1) + 1) (p / 32)) ((4 * bx1) + 2) (p % 32)) ((4 * bx1) + 3) (p / 32)) mwn mwo mxo myo mor mco mro mpw mph mrk mrb mrf mfr mfm med map mwh, 37, [(0, gr 60), (1, gi p), (2, gi 4)], [gi 4, gi 4]) rfl ?_ ?_
                            · refine ⟨?_, ?_, trivial⟩
                              · omega
                              · omega
                            refine g_icmp_ge hX 76 rfl rfl ⟨by omega, by omega⟩ ⟨by omega, by omega⟩ (fun b37 => ?_) (fun b37 => ?_)
                            ·
                              have hz0 : mrw (gu (gu (gu (gu bo1 (4 * bx1 + 0) (p % 32)) (4 * bx1 + 1) (p / 32)) (4 * bx1 + 2) (p % 32)) (4 * bx1 + 3) (p / 32)) bx1 0 = p % 32 := by (unfold mrw; rw [gu_n _ _ (by omega), gu_n _ _ (by omega), gu_n _ _ (by omega), gu_s])
                              have hz1 : mrw (gu (gu (gu (gu bo1 (4 * bx1 + 0) (p % 32)) (4 * bx1 + 1) (p / 32)) (4 * bx1 + 2) (p % 32)) (4 * bx1 + 3) (p / 32)) bx1 1 = p / 32 := by (unfold mrw; rw [gu_n _ _ (by omega), gu_n _ _ (by omega), gu_s])
                              have hz2 : mrw (gu (gu (gu (gu bo1 (4 * bx1 + 0) (p % 32)) (4 * bx1 + 1) (p / 32)) (4 * bx1 + 2) (p % 32)) (4 * bx1 + 3) (p / 32)) bx1 2 = p % 32 := by (unfold mrw; rw [gu_n _ _ (by omega), gu_s])
                              have hz3 : mrw (gu (gu (gu (gu bo1 (4 * bx1 + 0) (p % 32)) (4 * bx1 + 1) (p / 32)) (4 * bx1 + 2) (p % 32)) (4 * bx1 + 3) (p / 32)) bx1 3 = p / 32 := by (unfold mrw; rw [gu_s])
                              refine G.go hX 2 (moW W H mth mbd mne mnw mmn bx1 man mrs mrl mfl mpt mdf mlb (gu (gu (gu (gu bo1 ((4 * bx1) + 0) (p % 32)) ((4 * bx1) + 1) (p / 32)) ((4 * bx1) + 2) (p % 32)) ((4 * bx1) + 3) (p / 32)) mwn mwo mxo myo mor mco mro mpw mph mrk mrb mrf mfr mfm med map mwh, 78, [(0, gr 60), (1, gi p), (2, gi 0)], []) rfl trivial ?_
                              have lp78 : ∀ (n : Nat) (q : Int) (bo3 : Int → Int), (0 ≤ q ∧ q ≤ 1024) → (∀ j, j < 4 * bx1 → bo3 j = bo1 j) → (mLp mdf mlb p q (mrw bo3 bx1)) → (∀ j : Int, inR (bo3 j)) → (1024 - q).toNat < n → G X mX8_makeBoxes ad 0 0 (moW W H mth mbd mne mnw mmn bx1 man mrs mrl mfl mpt mdf mlb bo3 mwn mwo mxo myo mor mco mro mpw mph mrk mrb mrf mfr mfm med map mwh, 78, [(0, gr 60), (1, gi p), (2, gi q)], []) := by
                                intro n
                                induction n with
                                | zero => intro q bo3 hq hk3 hL3 hr3 hm9; exact absurd hm9 (Nat.not_lt_zero _)
                                | succ n ih78 =>
                                  intro q bo3 hq hk3 hL3 hr3 hm78
                                  refine G.go hX 2 (moW W H mth mbd mne mnw mmn bx1 man mrs mrl mfl mpt mdf mlb bo3 mwn mwo mxo myo mor mco mro mpw mph mrk mrb mrf mfr mfm med map mwh, 82, [(0, gr 60), (1, gi p), (2, gi q)], [gi 1024, gi q]) rfl trivial ?_
                                  refine g_icmp_ge hX 134 rfl rfl ⟨by omega, by omega⟩ ⟨by omega, by omega⟩ (fun b82 => ?_) (fun b82 => ?_)
                                  ·
                                    refine G.go hX 8 (moW W H mth mbd mne mnw mmn (bx1 + 1) man mrs mrl mfl mpt mdf mlb bo3 mwn mwo mxo myo mor mco mro mpw mph mrk mrb mrf mfr mfm med map mwh, 7, [(0, gr 60), (1, gi (p + 1)), (2, gi q)], []) rfl trivial ?_
                                    refine G.locs [(0, gr 60), (1, gi (p + 1))] [0, 1] rfl ?_
                                    exact ih7 (p + 1) (bx1 + 1) bo3 (by omega) (by exact mMk_add hM hp.1 hmp hk3 (by rw [show (1024 : Int) = q by omega]; exact hL3) hr3) (by omega)
                                  ·
                                    have hc9 := hdf q
                                    refine G.go hX 4 (moW W H mth mbd mne mnw mmn bx1 man mrs mrl mfl mpt mdf mlb bo3 mwn mwo mxo myo mor mco mro mpw mph mrk mrb mrf mfr mfm med map mwh, 91, [(0, gr 60), (1, gi p), (2, gi q)], [gi (mdf q)]) rfl ?_ ?_
                                    · refine ⟨?_, trivial⟩
                                      · omega
                                    refine g_if_eq hX 128 rfl rfl ⟨by omega, by omega⟩ (fun b91 => ?_) (fun b91 => ?_)
                                    ·
                                      refine G.go hX 2 (moW W H mth mbd mne mnw mmn bx1 man mrs mrl mfl mpt mdf mlb bo3 mwn mwo mxo myo mor mco mro mpw mph mrk mrb mrf mfr mfm med map mwh, 78, [(0, gr 60), (1, gi p), (2, gi (q + 1))], []) rfl trivial ?_
                                      exact ih78 (q + 1) bo3 (by omega) (by exact hk3) (by exact mLp_skip hL3 (fun h9 => by have := h9.2.1; omega)) (by exact hr3) (by omega)
                                    ·
                                      refine G.go hX 5 (moW W H mth mbd mne mnw mmn bx1 man mrs mrl mfl mpt mdf mlb bo3 mwn mwo mxo myo mor mco mro mpw mph mrk mrb mrf mfr mfm med map mwh, 101, [(0, gr 60), (1, gi p), (2, gi q)], [gi p, gi (mlb q)]) rfl ?_ ?_
                                      · refine ⟨?_, trivial⟩
                                        · omega
                                      refine g_icmp_ne hX 128 rfl rfl (by first | exact hlb _ | exact ⟨by omega, by omega⟩) (by first | exact hlb _ | exact ⟨by omega, by omega⟩) (fun b101 => ?_) (fun b101 => ?_)
                                      ·
                                        refine G.go hX 2 (moW W H mth mbd mne mnw mmn bx1 man mrs mrl mfl mpt mdf mlb bo3 mwn mwo mxo myo mor mco mro mpw mph mrk mrb mrf mfr mfm med map mwh, 78, [(0, gr 60), (1, gi p), (2, gi (q + 1))], []) rfl trivial ?_
                                        exact ih78 (q + 1) bo3 (by omega) (by exact hk3) (by exact mLp_skip hL3 (fun h9 => by have := h9.2.2; omega)) (by exact hr3) (by omega)
                                      ·
                                        have hq0 : mrw bo3 bx1 0 = bo3 (4 * bx1) := by (unfold mrw; rw [Int.add_zero])
                                        refine G.go hX 15 (moW W H mth mbd mne mnw mmn bx1 man mrs mrl mfl mpt mdf mlb bo3 mwn mwo mxo myo mor mco mro mpw mph mrk mrb mrf mfr mfm med map mwh, 125, [(0, gr 60), (1, gi p), (2, gi q)], [gi (q / 32), gi (q % 32), gi (q / 32), gi (q % 32), gi bx1, gr 60]) rfl ?_ ?_
                                        · refine ⟨?_, ?_, ?_, ?_, trivial⟩
                                          · omega
                                          · omega
                                          · omega
                                          · omega
                                        refine G.callV (av := [gi bx1, gi (q % 32), gi (q / 32), gi (q % 32), gi (q / 32)]) (o := 60) (st := []) hX rfl (fun l D cA => c_X8_grow l D cA W H mth mbd mne mnw mmn bx1 man mrs mrl mfl mpt mdf mlb bo3 mwn mwo mxo myo mor mco mro mpw mph mrk mrb mrf mfr mfm med map mwh bx1 (q % 32) (q / 32) (q % 32) (q / 32) (by first | assumption | omega) hr3 ⟨by omega, by omega⟩ ⟨by omega, by omega⟩ ⟨by omega, by omega⟩ ⟨by omega, by omega⟩) (by decide +kernel) aX8_grow rfl rfl rfl ⟨rfl, rfl⟩ (by decide) (Nat.le_of_ble_eq_true rfl) [0, 1, 2, 3, 4, 5, 6, 7, 8, 9, 10, 11, 12, 13, 14, 15, 16, 17, 18, 19, 20, 21] [] [] rfl rfl rfl (fun r w' hp => ?_)
                                        obtain ⟨rfl, rfl⟩ := hp
                                        show G X mX8_makeBoxes ad 0 0 (moW W H mth mbd mne mnw mmn bx1 man mrs mrl mfl mpt mdf mlb (mgw bo3 bx1 (q % 32) (q / 32) (q % 32) (q / 32)) mwn mwo mxo myo mor mco mro mpw mph mrk mrb mrf mfr mfm med map mwh, 128, [(0, gr 60), (1, gi p), (2, gi q)], [])
                                        refine G.go hX 2 (moW W H mth mbd mne mnw mmn bx1 man mrs mrl mfl mpt mdf mlb (mgw bo3 bx1 (q % 32) (q / 32) (q % 32) (q / 32)) mwn mwo mxo myo mor mco mro mpw mph mrk mrb mrf mfr mfm med map mwh, 78, [(0, gr 60), (1, gi p), (2, gi (q + 1))], []) rfl trivial ?_
                                        exact ih78 (q + 1) (mgw bo3 bx1 (q % 32) (q / 32) (q % 32) (q / 32)) (by omega) (by intro j h9; rw [(mgw_at bo3 bx1 (q % 32) (q / 32) (q % 32) (q / 32)).2.2.2.2 j (by omega)]; exact hk3 j h9) (by have e9 := mgw_at bo3 bx1 (q % 32) (q / 32) (q % 32) (q / 32); exact mLp_grow hL3 ⟨⟨by omega, by omega⟩, by omega, by omega⟩ (by rw [e9.1, ← hq0]) e9.2.1 e9.2.2.1 e9.2.2.2.1) (by exact mgw_r hr3 ⟨by omega, by omega⟩ ⟨by omega, by omega⟩ ⟨by omega, by omega⟩ ⟨by omega, by omega⟩) (by omega)
                              exact lp78 _ 0 (gu (gu (gu (gu bo1 ((4 * bx1) + 0) (p % 32)) ((4 * bx1) + 1) (p / 32)) ((4 * bx1) + 2) (p % 32)) ((4 * bx1) + 3) (p / 32)) (by omega) (by intro j h9; rw [gu_n _ _ (by omega), gu_n _ _ (by omega), gu_n _ _ (by omega), gu_n _ _ (by omega)]) (by exact ⟨fun j hj h9 => by (have := hj.1; omega), ⟨p, hmp, hz0⟩, ⟨p, hmp, hz1⟩, ⟨p, hmp, hz2⟩, ⟨p, hmp, hz3⟩⟩) (by exact gu_r (gu_r (gu_r (gu_r hM.2.2.2 ⟨by omega, by omega⟩) ⟨by omega, by omega⟩) ⟨by omega, by omega⟩) ⟨by omega, by omega⟩) (Nat.lt_succ_self _)
                            ·
                              exfalso
                              omega
                          ·
                            exfalso
                            omega
                  ·
                    exfalso
                    omega
  exact lp7 _ 0 0 mbo (by omega) (by exact ⟨⟨by omega, by omega⟩, fun i a b => by omega, fun r a b => by omega, hbo⟩) (Nat.lt_succ_self _)
set_option maxHeartbeats 4000000 in
set_option maxRecDepth 100000 in
theorem c_X8_joinBoxes (l : Launch) (D : va_G) (cA : Nat → ClassId) (W : Nat) (H : Nat) (mth : Int) (mbd : Int) (mne : Int) (mnw : Int) (mmn : Int) (mbx : Int) (man : Int) (mrs : Int) (mrl : Int) (mfl : Int) (mpt : Int → Int) (mdf : Int → Int) (mlb : Int → Int) (mbo : Int → Int) (mwn : Int → Int) (mwo : Int → Int) (mxo : Int → Int) (myo : Int → Int) (mor : Int → Int) (mco : Int → Int) (mro : Int → Int) (mpw : Int → Int) (mph : Int → Int) (mrk : Int → Int) (mrb : Int → Int) (mrf : Int → Int) (mfr : Int → Int) (mfm : Int → Int) (med : Int → Int) (map : Int → Int) (mwh : Int → Int) (F : Int → (Int → Int) → Prop) (hst : ∀ (nb : Int) (bo : Int → Int) (a b : Int), F nb bo → 0 ≤ a → a < b → b < nb → fsh (mrw bo a) (mrw bo b) → F (nb - 1) (mmv (mgw bo a (bo (4 * b)) (bo (4 * b + 1)) (bo (4 * b + 2)) (bo (4 * b + 3))) b (nb - 1))) (hok : ∀ (nb : Int) (bo : Int → Int), F nb bo → (0 ≤ nb ∧ nb ≤ 1024) ∧ ∀ j : Int, inR (bo j)) (hF : F mbx mbo) :
    gC l D cA yX8_joinBoxes mX8_joinBoxes none 0 0 [gr 60] (moW W H mth mbd mne mnw mmn mbx man mrs mrl mfl mpt mdf mlb mbo mwn mwo mxo myo mor mco mro mpw mph mrk mrb mrf mfr mfm med map mwh) (fun r9 w9 => ∃ (bx2 : Int) (bo2 : Int → Int), r9 = none ∧ w9 = moW W H mth mbd mne mnw mmn bx2 man mrs mrl mfl mpt mdf mlb bo2 mwn mwo mxo myo mor mco mro mpw mph mrk mrb mrf mfr mfm med map mwh ∧ (F bx2 bo2) ∧ (∀ a9 b9 : Int, 0 ≤ a9 → a9 < b9 → b9 < bx2 → (True) → ¬ fsh (mrw bo2 a9) (mrw bo2 b9))) := by
  refine gC_of rfl kX8_joinBoxes rfl rfl (Nat.le_of_ble_eq_true rfl) (fun X ad hX hE => ?_)
  refine G.go hX 2 (moW W H mth mbd mne mnw mmn mbx man mrs mrl mfl mpt mdf mlb mbo mwn mwo mxo myo mor mco mro mpw mph mrk mrb mrf mfr mfm med map mwh, 2, [(0, gr 60), (1, gi 1)], []) rfl trivial ?_
  have lp2 : ∀ (n : Nat) (mo1 : Int) (bx1 : Int) (bo1 : Int → Int), (F bx1 bo1) → (mo1 = 0 ∨ mo1 = 1) → (mo1 = 0 → ∀ a9 b9 : Int, 0 ≤ a9 → a9 < b9 → b9 < bx1 → (True) → ¬ fsh (mrw bo1 a9) (mrw bo1 b9)) → (2 * bx1 + mo1).toNat < n → G X mX8_joinBoxes ad 0 0 (moW W H mth mbd mne mnw mmn bx1 man mrs mrl mfl mpt mdf mlb bo1 mwn mwo mxo myo mor mco mro mpw mph mrk mrb mrf mfr mfm med map mwh, 2, [(0, gr 60), (1, gi mo1)], []) := by
    intro n
    induction n with
    | zero => intro mo1 bx1 bo1 hF1 hm1 hz1 hm9; exact absurd hm9 (Nat.not_lt_zero _)
    | succ n ih2 =>
      intro mo1 bx1 bo1 hF1 hm1 hz1 hm2
      have hk1 := hok _ _ hF1
      refine G.go hX 1 (moW W H mth mbd mne mnw mmn bx1 man mrs mrl mfl mpt mdf mlb bo1 mwn mwo mxo myo mor mco mro mpw mph mrk mrb mrf mfr mfm med map mwh, 3, [(0, gr 60), (1, gi mo1)], [gi mo1]) rfl trivial ?_
      refine g_if_eq hX 153 rfl rfl ⟨by omega, by omega⟩ (fun b3 => ?_) (fun b3 => ?_)
      ·
        exact g_vret hX hE rfl ⟨bx1, bo1, rfl, rfl, hF1, hz1 b3⟩
      ·
        refine G.go hX 7 (moW W H mth mbd mne mnw mmn bx1 man mrs mrl mfl mpt mdf mlb bo1 mwn mwo mxo myo mor mco mro mpw mph mrk mrb mrf mfr mfm med map mwh, 15, [(0, gr 60), (1, gi 0), (2, gi (bx1 - 1))], []) rfl trivial ?_
        have lp15 : ∀ (n : Nat) (mo3 : Int) (b : Int) (bx3 : Int) (bo3 : Int → Int), (-1 ≤ b ∧ b < 1024) → (F bx3 bo3) → (mo3 = 0 ∨ mo3 = 1) → (mo3 = 0 → bx3 = bx1 ∧ bo3 = bo1 ∧ ∀ a9 b9 : Int, 0 ≤ a9 → a9 < b9 → b9 < bx1 → (b < b9) → ¬ fsh (mrw bo1 a9) (mrw bo1 b9)) → (mo3 = 1 → bx3 < bx1) → (mo3 = 0 → b < bx1) → (b + 1).toNat < n → G X mX8_joinBoxes ad 0 0 (moW W H mth mbd mne mnw mmn bx3 man mrs mrl mfl mpt mdf mlb bo3 mwn mwo mxo myo mor mco mro mpw mph mrk mrb mrf mfr mfm med map mwh, 15, [(0, gr 60), (1, gi mo3), (2, gi b)], []) := by
          intro n
          induction n with
          | zero => intro mo3 b bx3 bo3 hb hF3 hm3 hz3 ho3 hb3 hm9; exact absurd hm9 (Nat.not_lt_zero _)
          | succ n ih15 =>
            intro mo3 b bx3 bo3 hb hF3 hm3 hz3 ho3 hb3 hm15
            refine G.go hX 1 (moW W H mth mbd mne mnw mmn bx3 man mrs mrl mfl mpt mdf mlb bo3 mwn mwo mxo myo mor mco mro mpw mph mrk mrb mrf mfr mfm med map mwh, 16, [(0, gr 60), (1, gi mo3), (2, gi b)], [gi b]) rfl trivial ?_
            refine g_if_le hX 150 rfl rfl ⟨by omega, by omega⟩ (fun b16 => ?_) (fun b16 => ?_)
            ·
              refine G.go hX 1 (moW W H mth mbd mne mnw mmn bx3 man mrs mrl mfl mpt mdf mlb bo3 mwn mwo mxo myo mor mco mro mpw mph mrk mrb mrf mfr mfm med map mwh, 2, [(0, gr 60), (1, gi mo3), (2, gi b)], []) rfl trivial ?_
              refine G.locs [(0, gr 60), (1, gi mo3)] [0, 1] rfl ?_
              exact ih2 mo3 bx3 bo3 (by exact hF3) (by exact hm3) (by exact fun h9 => by (obtain ⟨e1, e2, e3⟩ := hz3 h9; rw [e1, e2]; exact fun a9 b9 k1 k2 k3 _ => e3 a9 b9 k1 k2 k3 (by omega))) (by have hk9 := hok _ _ hF3; rcases hm3 with h9 | h9; (have := (hz3 h9).1; omega); (have := ho3 h9; omega))
            ·
              refine G.go hX 1 (moW W H mth mbd mne mnw mmn bx3 man mrs mrl mfl mpt mdf mlb bo3 mwn mwo mxo myo mor mco mro mpw mph mrk mrb mrf mfr mfm med map mwh, 20, [(0, gr 60), (1, gi mo3), (2, gi b)], [gi mo3]) rfl trivial ?_
              refine g_if_ne hX 150 rfl rfl ⟨by omega, by omega⟩ (fun b20 => ?_) (fun b20 => ?_)
              ·
                refine G.go hX 1 (moW W H mth mbd mne mnw mmn bx3 man mrs mrl mfl mpt mdf mlb bo3 mwn mwo mxo myo mor mco mro mpw mph mrk mrb mrf mfr mfm med map mwh, 2, [(0, gr 60), (1, gi mo3), (2, gi b)], []) rfl trivial ?_
                refine G.locs [(0, gr 60), (1, gi mo3)] [0, 1] rfl ?_
                exact ih2 mo3 bx3 bo3 (by exact hF3) (by exact hm3) (by exact fun h9 => by (obtain ⟨e1, e2, e3⟩ := hz3 h9; rw [e1, e2]; exact fun a9 b9 k1 k2 k3 _ => e3 a9 b9 k1 k2 k3 (by omega))) (by have hk9 := hok _ _ hF3; rcases hm3 with h9 | h9; (have := (hz3 h9).1; omega); (have := ho3 h9; omega))
              ·
                refine G.go hX 2 (moW W H mth mbd mne mnw mmn bx3 man mrs mrl mfl mpt mdf mlb bo3 mwn mwo mxo myo mor mco mro mpw mph mrk mrb mrf mfr mfm med map mwh, 25, [(0, gr 60), (1, gi mo3), (2, gi b), (3, gi 0)], []) rfl trivial ?_
                have lp25 : ∀ (n : Nat) (mo5 : Int) (a : Int) (bx5 : Int) (bo5 : Int → Int), (0 ≤ a ∧ a ≤ b) → (F bx5 bo5) → (mo5 = 0 ∨ mo5 = 1) → (mo5 = 0 → bx5 = bx1 ∧ bo5 = bo1 ∧ (∀ a9 b9 : Int, 0 ≤ a9 → a9 < b9 → b9 < bx1 → (b < b9) → ¬ fsh (mrw bo1 a9) (mrw bo1 b9)) ∧ ∀ a9 : Int, 0 ≤ a9 → a9 < a → ¬ fsh (mrw bo1 a9) (mrw bo1 b)) → (mo5 = 1 → bx5 < bx1) → (b - a).toNat < n → G X mX8_joinBoxes ad 0 0 (moW W H mth mbd mne mnw mmn bx5 man mrs mrl mfl mpt mdf mlb bo5 mwn mwo mxo myo mor mco mro mpw mph mrk mrb mrf mfr mfm med map mwh, 25, [(0, gr 60), (1, gi mo5), (2, gi b), (3, gi a)], []) := by
                  intro n
                  induction n with
                  | zero => intro mo5 a bx5 bo5 ha hF5 hm5 hz5 ho5 hm9; exact absurd hm9 (Nat.not_lt_zero _)
                  | succ n ih25 =>
                    intro mo5 a bx5 bo5 ha hF5 hm5 hz5 ho5 hm25
                    refine G.go hX 2 (moW W H mth mbd mne mnw mmn bx5 man mrs mrl mfl mpt mdf mlb bo5 mwn mwo mxo myo mor mco mro mpw mph mrk mrb mrf mfr mfm med map mwh, 27, [(0, gr 60), (1, gi mo5), (2, gi b), (3, gi a)], [gi b, gi a]) rfl trivial ?_
                    refine g_icmp_ge hX 144 rfl rfl ⟨by omega, by omega⟩ ⟨by omega, by omega⟩ (fun b27 => ?_) (fun b27 => ?_)
                    ·
                      refine G.go hX 2 (moW W H mth mbd mne mnw mmn bx5 man mrs mrl mfl mpt mdf mlb bo5 mwn mwo mxo myo mor mco mro mpw mph mrk mrb mrf mfr mfm med map mwh, 15, [(0, gr 60), (1, gi mo5), (2, gi (b + (-1))), (3, gi a)], []) rfl trivial ?_
                      refine G.locs [(0, gr 60), (1, gi mo5), (2, gi (b + (-1)))] [0, 1, 2] rfl ?_
                      exact ih15 mo5 (b + (-1)) bx5 bo5 (by omega) (by exact hF5) (by exact hm5) (by exact fun h9 => by (obtain ⟨e1, e2, e3, e4⟩ := hz5 h9; exact ⟨e1, e2, fun a9 b9 k1 k2 k3 k4 => by (by_cases e9 : b9 = b; (subst e9; exact e4 a9 k1 (by omega)); exact e3 a9 b9 k1 k2 k3 (by omega))⟩)) (by exact ho5) (by intro h9; have := hb3 (by omega); omega) (by omega)
                    ·
                      refine G.go hX 1 (moW W H mth mbd mne mnw mmn bx5 man mrs mrl mfl mpt mdf mlb bo5 mwn mwo mxo myo mor mco mro mpw mph mrk mrb mrf mfr mfm med map mwh, 31, [(0, gr 60), (1, gi mo5), (2, gi b), (3, gi a)], [gi mo5]) rfl trivial ?_
                      refine g_if_ne hX 144 rfl rfl ⟨by omega, by omega⟩ (fun b31 => ?_) (fun b31 => ?_)
                      ·
                        refine G.go hX 2 (moW W H mth mbd mne mnw mmn bx5 man mrs mrl mfl mpt mdf mlb bo5 mwn mwo mxo myo mor mco mro mpw mph mrk mrb mrf mfr mfm med map mwh, 15, [(0, gr 60), (1, gi mo5), (2, gi (b + (-1))), (3, gi a)], []) rfl trivial ?_
                        refine G.locs [(0, gr 60), (1, gi mo5), (2, gi (b + (-1)))] [0, 1, 2] rfl ?_
                        exact ih15 mo5 (b + (-1)) bx5 bo5 (by omega) (by exact hF5) (by exact hm5) (by exact fun h9 => by (obtain ⟨e1, e2, e3, e4⟩ := hz5 h9; exact ⟨e1, e2, fun a9 b9 k1 k2 k3 k4 => by (by_cases e9 : b9 = b; (subst e9; exact e4 a9 k1 (by omega)); exact e3 a9 b9 k1 k2 k3 (by omega))⟩)) (by exact ho5) (by intro h9; have := hb3 (by omega); omega) (by omega)
                      ·
                        have hz9 := hz5 (by omega)
                        have hb9 := hb3 (by omega)
                        have hk5 := hok _ _ hF5
                        refine G.go hX 3 (moW W H mth mbd mne mnw mmn bx5 man mrs mrl mfl mpt mdf mlb bo5 mwn mwo mxo myo mor mco mro mpw mph mrk mrb mrf mfr mfm med map mwh, 37, [(0, gr 60), (1, gi mo5), (2, gi b), (3, gi a)], [gi b, gi a, gr 60]) rfl trivial ?_
                        refine G.callV (av := [gi a, gi b]) (o := 60) (st := []) hX rfl (fun l D cA => c_X8_share l D cA W H mth mbd mne mnw mmn bx5 man mrs mrl mfl mpt mdf mlb bo5 mwn mwo mxo myo mor mco mro mpw mph mrk mrb mrf mfr mfm med map mwh a b (by first | assumption | omega) (by first | assumption | omega) hk5.2) (by decide +kernel) aX8_share rfl rfl rfl ⟨rfl, rfl⟩ (by decide) (Nat.le_of_ble_eq_true rfl) [0, 1, 2, 3, 4, 5, 6, 7, 8, 9, 10, 11, 12, 13, 14, 15, 16, 17, 18, 19, 20, 21] [] [] rfl rfl rfl (fun r w' hp => ?_)
                        obtain ⟨rfl, rfl⟩ := hp
                        show G X mX8_joinBoxes ad 0 0 (moW W H mth mbd mne mnw mmn bx5 man mrs mrl mfl mpt mdf mlb bo5 mwn mwo mxo myo mor mco mro mpw mph mrk mrb mrf mfr mfm med map mwh, 40, [(0, gr 60), (1, gi mo5), (2, gi b), (3, gi a)], [gi (gb (fsh (mrw bo5 a) (mrw bo5 b)))])
                        refine g_if_eq hX 138 rfl rfl (gb_r _) (fun b40 => ?_) (fun b40 => ?_)
                        ·
                          have b40 := gb_0.mp b40
                          refine G.go hX 2 (moW W H mth mbd mne mnw mmn bx5 man mrs mrl mfl mpt mdf mlb bo5 mwn mwo mxo myo mor mco mro mpw mph mrk mrb mrf mfr mfm med map mwh, 25, [(0, gr 60), (1, gi mo5), (2, gi b), (3, gi (a + 1))], []) rfl trivial ?_
                          exact ih25 mo5 (a + 1) bx5 bo5 (by omega) (by exact hF5) (by exact hm5) (by exact fun h9 => by (obtain ⟨e1, e2, e3, e4⟩ := hz5 h9; exact ⟨e1, e2, e3, fun a9 k1 k2 => by (by_cases e9 : a9 = a; (subst e9; rw [e2] at b40; exact b40); exact e4 a9 k1 (by omega))⟩)) (by exact ho5) (by omega)
                        ·
                          have b40 := gb_n0 b40
                          refine G.go hX 32 (moW W H mth mbd mne mnw mmn bx5 man mrs mrl mfl mpt mdf mlb bo5 mwn mwo mxo myo mor mco mro mpw mph mrk mrb mrf mfr mfm med map mwh, 83, [(0, gr 60), (1, gi mo5), (2, gi b), (3, gi a)], [gi (bo5 ((4 * b) + 3)), gi (bo5 ((4 * b) + 2)), gi (bo5 ((4 * b) + 1)), gi (bo5 (4 * b)), gi a, gr 60]) rfl ?_ ?_
                          · refine ⟨?_, ?_, ?_, ?_, trivial⟩
                            · omega
                            · omega
                            · omega
                            · omega
                          refine G.callV (av := [gi a, gi (bo5 (4 * b)), gi (bo5 ((4 * b) + 1)), gi (bo5 ((4 * b) + 2)), gi (bo5 ((4 * b) + 3))]) (o := 60) (st := []) hX rfl (fun l D cA => c_X8_grow l D cA W H mth mbd mne mnw mmn bx5 man mrs mrl mfl mpt mdf mlb bo5 mwn mwo mxo myo mor mco mro mpw mph mrk mrb mrf mfr mfm med map mwh a (bo5 (4 * b)) (bo5 ((4 * b) + 1)) (bo5 ((4 * b) + 2)) (bo5 ((4 * b) + 3)) (by first | assumption | omega) hk5.2 (hk5.2 _) (hk5.2 _) (hk5.2 _) (hk5.2 _)) (by decide +kernel) aX8_grow rfl rfl rfl ⟨rfl, rfl⟩ (by decide) (Nat.le_of_ble_eq_true rfl) [0, 1, 2, 3, 4, 5, 6, 7, 8, 9, 10, 11, 12, 13, 14, 15, 16, 17, 18, 19, 20, 21] [] [] rfl rfl rfl (fun r w' hp => ?_)
                          obtain ⟨rfl, rfl⟩ := hp
                          show G X mX8_joinBoxes ad 0 0 (moW W H mth mbd mne mnw mmn bx5 man mrs mrl mfl mpt mdf mlb (mgw bo5 a (bo5 (4 * b)) (bo5 ((4 * b) + 1)) (bo5 ((4 * b) + 2)) (bo5 ((4 * b) + 3))) mwn mwo mxo myo mor mco mro mpw mph mrk mrb mrf mfr mfm med map mwh, 86, [(0, gr 60), (1, gi mo5), (2, gi b), (3, gi a)], [])
                          refine G.go hX 10 (moW W H mth mbd mne mnw mmn (bx5 - 1) man mrs mrl mfl mpt mdf mlb (mgw bo5 a (bo5 (4 * b)) (bo5 ((4 * b) + 1)) (bo5 ((4 * b) + 2)) (bo5 ((4 * b) + 3))) mwn mwo mxo myo mor mco mro mpw mph mrk mrb mrf mfr mfm med map mwh, 102, [(0, gr 60), (1, gi mo5), (2, gi b), (3, gi a), (4, gi 0)], [gi 4, gi 0]) rfl trivial ?_
                          refine g_icmp_ge hX 136 rfl rfl ⟨by omega, by omega⟩ ⟨by omega, by omega⟩ (fun b102 => ?_) (fun b102 => ?_)
                          ·
                            exfalso
                            omega
                          ·
                            refine G.go hX 21 (moW W H mth mbd mne mnw mmn (bx5 - 1) man mrs mrl mfl mpt mdf mlb (gu (mgw bo5 a (bo5 (4 * b)) (bo5 ((4 * b) + 1)) (bo5 ((4 * b) + 2)) (bo5 ((4 * b) + 3))) ((4 * b) + 0) ((mgw bo5 a (bo5 (4 * b)) (bo5 ((4 * b) + 1)) (bo5 ((4 * b) + 2)) (bo5 ((4 * b) + 3))) ((4 * (bx5 - 1)) + 0))) mwn mwo mxo myo mor mco mro mpw mph mrk mrb mrf mfr mfm med map mwh, 102, [(0, gr 60), (1, gi mo5), (2, gi b), (3, gi a), (4, gi 1)], [gi 4, gi 1]) rfl ?_ ?_
                            · refine ⟨?_, ?_, trivial⟩
                              · omega
                              · omega
                            refine g_icmp_ge hX 136 rfl rfl ⟨by omega, by omega⟩ ⟨by omega, by omega⟩ (fun b102 => ?_) (fun b102 => ?_)
                            ·
                              exfalso
                              omega
                            ·
                              refine G.go hX 21 (moW W H mth mbd mne mnw mmn (bx5 - 1) man mrs mrl mfl mpt mdf mlb (gu (gu (mgw bo5 a (bo5 (4 * b)) (bo5 ((4 * b) + 1)) (bo5 ((4 * b) + 2)) (bo5 ((4 * b) + 3))) ((4 * b) + 0) ((mgw bo5 a (bo5 (4 * b)) (bo5 ((4 * b) + 1)) (bo5 ((4 * b) + 2)) (bo5 ((4 * b) + 3))) ((4 * (bx5 - 1)) + 0))) ((4 * b) + 1) ((gu (mgw bo5 a (bo5 (4 * b)) (bo5 ((4 * b) + 1)) (bo5 ((4 * b) + 2)) (bo5 ((4 * b) + 3))) ((4 * b) + 0) ((mgw bo5 a (bo5 (4 * b)) (bo5 ((4 * b) + 1)) (bo5 ((4 * b) + 2)) (bo5 ((4 * b) + 3))) ((4 * (bx5 - 1)) + 0))) ((4 * (bx5 - 1)) + 1))) mwn mwo mxo myo mor mco mro mpw mph mrk mrb mrf mfr mfm med map mwh, 102, [(0, gr 60), (1, gi mo5), (2, gi b), (3, gi a), (4, gi 2)], [gi 4, gi 2]) rfl ?_ ?_
                              · refine ⟨?_, ?_, trivial⟩
                                · omega
                                · omega
                              refine g_icmp_ge hX 136 rfl rfl ⟨by omega, by omega⟩ ⟨by omega, by omega⟩ (fun b102 => ?_) (fun b102 => ?_)
                              ·
                                exfalso
                                omega
                              ·
                                refine G.go hX 21 (moW W H mth mbd mne mnw mmn (bx5 - 1) man mrs mrl mfl mpt mdf mlb (gu (gu (gu (mgw bo5 a (bo5 (4 * b)) (bo5 ((4 * b) + 1)) (bo5 ((4 * b) + 2)) (bo5 ((4 * b) + 3))) ((4 * b) + 0) ((mgw bo5 a (bo5 (4 * b)) (bo5 ((4 * b) + 1)) (bo5 ((4 * b) + 2)) (bo5 ((4 * b) + 3))) ((4 * (bx5 - 1)) + 0))) ((4 * b) + 1) ((gu (mgw bo5 a (bo5 (4 * b)) (bo5 ((4 * b) + 1)) (bo5 ((4 * b) + 2)) (bo5 ((4 * b) + 3))) ((4 * b) + 0) ((mgw bo5 a (bo5 (4 * b)) (bo5 ((4 * b) + 1)) (bo5 ((4 * b) + 2)) (bo5 ((4 * b) + 3))) ((4 * (bx5 - 1)) + 0))) ((4 * (bx5 - 1)) + 1))) ((4 * b) + 2) ((gu (gu (mgw bo5 a (bo5 (4 * b)) (bo5 ((4 * b) + 1)) (bo5 ((4 * b) + 2)) (bo5 ((4 * b) + 3))) ((4 * b) + 0) ((mgw bo5 a (bo5 (4 * b)) (bo5 ((4 * b) + 1)) (bo5 ((4 * b) + 2)) (bo5 ((4 * b) + 3))) ((4 * (bx5 - 1)) + 0))) ((4 * b) + 1) ((gu (mgw bo5 a (bo5 (4 * b)) (bo5 ((4 * b) + 1)) (bo5 ((4 * b) + 2)) (bo5 ((4 * b) + 3))) ((4 * b) + 0) ((mgw bo5 a (bo5 (4 * b)) (bo5 ((4 * b) + 1)) (bo5 ((4 * b) + 2)) (bo5 ((4 * b) + 3))) ((4 * (bx5 - 1)) + 0))) ((4 * (bx5 - 1)) + 1))) ((4 * (bx5 - 1)) + 2))) mwn mwo mxo myo mor mco mro mpw mph mrk mrb mrf mfr mfm med map mwh, 102, [(0, gr 60), (1, gi mo5), (2, gi b), (3, gi a), (4, gi 3)], [gi 4, gi 3]) rfl ?_ ?_
                                · refine ⟨?_, ?_, trivial⟩
                                  · omega
                                  · omega
                                refine g_icmp_ge hX 136 rfl rfl ⟨by omega, by omega⟩ ⟨by omega, by omega⟩ (fun b102 => ?_) (fun b102 => ?_)
                                ·
                                  exfalso
                                  omega
                                ·
                                  refine G.go hX 21 (moW W H mth mbd mne mnw mmn (bx5 - 1) man mrs mrl mfl mpt mdf mlb (gu (gu (gu (gu (mgw bo5 a (bo5 (4 * b)) (bo5 ((4 * b) + 1)) (bo5 ((4 * b) + 2)) (bo5 ((4 * b) + 3))) ((4 * b) + 0) ((mgw bo5 a (bo5 (4 * b)) (bo5 ((4 * b) + 1)) (bo5 ((4 * b) + 2)) (bo5 ((4 * b) + 3))) ((4 * (bx5 - 1)) + 0))) ((4 * b) + 1) ((gu (mgw bo5 a (bo5 (4 * b)) (bo5 ((4 * b) + 1)) (bo5 ((4 * b) + 2)) (bo5 ((4 * b) + 3))) ((4 * b) + 0) ((mgw bo5 a (bo5 (4 * b)) (bo5 ((4 * b) + 1)) (bo5 ((4 * b) + 2)) (bo5 ((4 * b) + 3))) ((4 * (bx5 - 1)) + 0))) ((4 * (bx5 - 1)) + 1))) ((4 * b) + 2) ((gu (gu (mgw bo5 a (bo5 (4 * b)) (bo5 ((4 * b) + 1)) (bo5 ((4 * b) + 2)) (bo5 ((4 * b) + 3))) ((4 * b) + 0) ((mgw bo5 a (bo5 (4 * b)) (bo5 ((4 * b) + 1)) (bo5 ((4 * b) + 2)) (bo5 ((4 * b) + 3))) ((4 * (bx5 - 1)) + 0))) ((4 * b) + 1) ((gu (mgw bo5 a (bo5 (4 * b)) (bo5 ((4 * b) + 1)) (bo5 ((4 * b) + 2)) (bo5 ((4 * b) + 3))) ((4 * b) + 0) ((mgw bo5 a (bo5 (4 * b)) (bo5 ((4 * b) + 1)) (bo5 ((4 * b) + 2)) (bo5 ((4 * b) + 3))) ((4 * (bx5 - 1)) + 0))) ((4 * (bx5 - 1)) + 1))) ((4 * (bx5 - 1)) + 2))) ((4 * b) + 3) ((gu (gu (gu (mgw bo5 a (bo5 (4 * b)) (bo5 ((4 * b) + 1)) (bo5 ((4 * b) + 2)) (bo5 ((4 * b) + 3))) ((4 * b) + 0) ((mgw bo5 a (bo5 (4 * b)) (bo5 ((4 * b) + 1)) (bo5 ((4 * b) + 2)) (bo5 ((4 * b) + 3))) ((4 * (bx5 - 1)) + 0))) ((4 * b) + 1) ((gu (mgw bo5 a (bo5 (4 * b)) (bo5 ((4 * b) + 1)) (bo5 ((4 * b) + 2)) (bo5 ((4 * b) + 3))) ((4 * b) + 0) ((mgw bo5 a (bo5 (4 * b)) (bo5 ((4 * b) + 1)) (bo5 ((4 * b) + 2)) (bo5 ((4 * b) + 3))) ((4 * (bx5 - 1)) + 0))) ((4 * (bx5 - 1)) + 1))) ((4 * b) + 2) ((gu (gu (mgw bo5 a (bo5 (4 * b)) (bo5 ((4 * b) + 1)) (bo5 ((4 * b) + 2)) (bo5 ((4 * b) + 3))) ((4 * b) + 0) ((mgw bo5 a (bo5 (4 * b)) (bo5 ((4 * b) + 1)) (bo5 ((4 * b) + 2)) (bo5 ((4 * b) + 3))) ((4 * (bx5 - 1)) + 0))) ((4 * b) + 1) ((gu (mgw bo5 a (bo5 (4 * b)) (bo5 ((4 * b) + 1)) (bo5 ((4 * b) + 2)) (bo5 ((4 * b) + 3))) ((4 * b) + 0) ((mgw bo5 a (bo5 (4 * b)) (bo5 ((4 * b) + 1)) (bo5 ((4 * b) + 2)) (bo5 ((4 * b) + 3))) ((4 * (bx5 - 1)) + 0))) ((4 * (bx5 - 1)) + 1))) ((4 * (bx5 - 1)) + 2))) ((4 * (bx5 - 1)) + 3))) mwn mwo mxo myo mor mco mro mpw mph mrk mrb mrf mfr mfm med map mwh, 102, [(0, gr 60), (1, gi mo5), (2, gi b), (3, gi a), (4, gi 4)], [gi 4, gi 4]) rfl ?_ ?_
                                  · refine ⟨?_, ?_, trivial⟩
                                    · omega
                                    · omega
                                  refine g_icmp_ge hX 136 rfl rfl ⟨by omega, by omega⟩ ⟨by omega, by omega⟩ (fun b102 => ?_) (fun b102 => ?_)
                                  ·
                                    refine G.go hX 4 (moW W H mth mbd mne mnw mmn (bx5 - 1) man mrs mrl mfl mpt mdf mlb (gu (gu (gu (gu (mgw bo5 a (bo5 (4 * b)) (bo5 ((4 * b) + 1)) (bo5 ((4 * b) + 2)) (bo5 ((4 * b) + 3))) ((4 * b) + 0) ((mgw bo5 a (bo5 (4 * b)) (bo5 ((4 * b) + 1)) (bo5 ((4 * b) + 2)) (bo5 ((4 * b) + 3))) ((4 * (bx5 - 1)) + 0))) ((4 * b) + 1) ((gu (mgw bo5 a (bo5 (4 * b)) (bo5 ((4 * b) + 1)) (bo5 ((4 * b) + 2)) (bo5 ((4 * b) + 3))) ((4 * b) + 0) ((mgw bo5 a (bo5 (4 * b)) (bo5 ((4 * b) + 1)) (bo5 ((4 * b) + 2)) (bo5 ((4 * b) + 3))) ((4 * (bx5 - 1)) + 0))) ((4 * (bx5 - 1)) + 1))) ((4 * b) + 2) ((gu (gu (mgw bo5 a (bo5 (4 * b)) (bo5 ((4 * b) + 1)) (bo5 ((4 * b) + 2)) (bo5 ((4 * b) + 3))) ((4 * b) + 0) ((mgw bo5 a (bo5 (4 * b)) (bo5 ((4 * b) + 1)) (bo5 ((4 * b) + 2)) (bo5 ((4 * b) + 3))) ((4 * (bx5 - 1)) + 0))) ((4 * b) + 1) ((gu (mgw bo5 a (bo5 (4 * b)) (bo5 ((4 * b) + 1)) (bo5 ((4 * b) + 2)) (bo5 ((4 * b) + 3))) ((4 * b) + 0) ((mgw bo5 a (bo5 (4 * b)) (bo5 ((4 * b) + 1)) (bo5 ((4 * b) + 2)) (bo5 ((4 * b) + 3))) ((4 * (bx5 - 1)) + 0))) ((4 * (bx5 - 1)) + 1))) ((4 * (bx5 - 1)) + 2))) ((4 * b) + 3) ((gu (gu (gu (mgw bo5 a (bo5 (4 * b)) (bo5 ((4 * b) + 1)) (bo5 ((4 * b) + 2)) (bo5 ((4 * b) + 3))) ((4 * b) + 0) ((mgw bo5 a (bo5 (4 * b)) (bo5 ((4 * b) + 1)) (bo5 ((4 * b) + 2)) (bo5 ((4 * b) + 3))) ((4 * (bx5 - 1)) + 0))) ((4 * b) + 1) ((gu (mgw bo5 a (bo5 (4 * b)) (bo5 ((4 * b) + 1)) (bo5 ((4 * b) + 2)) (bo5 ((4 * b) + 3))) ((4 * b) + 0) ((mgw bo5 a (bo5 (4 * b)) (bo5 ((4 * b) + 1)) (bo5 ((4 * b) + 2)) (bo5 ((4 * b) + 3))) ((4 * (bx5 - 1)) + 0))) ((4 * (bx5 - 1)) + 1))) ((4 * b) + 2) ((gu (gu (mgw bo5 a (bo5 (4 * b)) (bo5 ((4 * b) + 1)) (bo5 ((4 * b) + 2)) (bo5 ((4 * b) + 3))) ((4 * b) + 0) ((mgw bo5 a (bo5 (4 * b)) (bo5 ((4 * b) + 1)) (bo5 ((4 * b) + 2)) (bo5 ((4 * b) + 3))) ((4 * (bx5 - 1)) + 0))) ((4 * b) + 1) ((gu (mgw bo5 a (bo5 (4 * b)) (bo5 ((4 * b) + 1)) (bo5 ((4 * b) + 2)) (bo5 ((4 * b) + 3))) ((4 * b) + 0) ((mgw bo5 a (bo5 (4 * b)) (bo5 ((4 * b) + 1)) (bo5 ((4 * b) + 2)) (bo5 ((4 * b) + 3))) ((4 * (bx5 - 1)) + 0))) ((4 * (bx5 - 1)) + 1))) ((4 * (bx5 - 1)) + 2))) ((4 * (bx5 - 1)) + 3))) mwn mwo mxo myo mor mco mro mpw mph mrk mrb mrf mfr mfm med map mwh, 25, [(0, gr 60), (1, gi 1), (2, gi b), (3, gi (a + 1)), (4, gi 4)], []) rfl trivial ?_
                                    refine G.locs [(0, gr 60), (1, gi 1), (2, gi b), (3, gi (a + 1))] [0, 1, 2, 3] rfl ?_
                                    exact ih25 1 (a + 1) (bx5 - 1) (gu (gu (gu (gu (mgw bo5 a (bo5 (4 * b)) (bo5 ((4 * b) + 1)) (bo5 ((4 * b) + 2)) (bo5 ((4 * b) + 3))) ((4 * b) + 0) ((mgw bo5 a (bo5 (4 * b)) (bo5 ((4 * b) + 1)) (bo5 ((4 * b) + 2)) (bo5 ((4 * b) + 3))) ((4 * (bx5 - 1)) + 0))) ((4 * b) + 1) ((gu (mgw bo5 a (bo5 (4 * b)) (bo5 ((4 * b) + 1)) (bo5 ((4 * b) + 2)) (bo5 ((4 * b) + 3))) ((4 * b) + 0) ((mgw bo5 a (bo5 (4 * b)) (bo5 ((4 * b) + 1)) (bo5 ((4 * b) + 2)) (bo5 ((4 * b) + 3))) ((4 * (bx5 - 1)) + 0))) ((4 * (bx5 - 1)) + 1))) ((4 * b) + 2) ((gu (gu (mgw bo5 a (bo5 (4 * b)) (bo5 ((4 * b) + 1)) (bo5 ((4 * b) + 2)) (bo5 ((4 * b) + 3))) ((4 * b) + 0) ((mgw bo5 a (bo5 (4 * b)) (bo5 ((4 * b) + 1)) (bo5 ((4 * b) + 2)) (bo5 ((4 * b) + 3))) ((4 * (bx5 - 1)) + 0))) ((4 * b) + 1) ((gu (mgw bo5 a (bo5 (4 * b)) (bo5 ((4 * b) + 1)) (bo5 ((4 * b) + 2)) (bo5 ((4 * b) + 3))) ((4 * b) + 0) ((mgw bo5 a (bo5 (4 * b)) (bo5 ((4 * b) + 1)) (bo5 ((4 * b) + 2)) (bo5 ((4 * b) + 3))) ((4 * (bx5 - 1)) + 0))) ((4 * (bx5 - 1)) + 1))) ((4 * (bx5 - 1)) + 2))) ((4 * b) + 3) ((gu (gu (gu (mgw bo5 a (bo5 (4 * b)) (bo5 ((4 * b) + 1)) (bo5 ((4 * b) + 2)) (bo5 ((4 * b) + 3))) ((4 * b) + 0) ((mgw bo5 a (bo5 (4 * b)) (bo5 ((4 * b) + 1)) (bo5 ((4 * b) + 2)) (bo5 ((4 * b) + 3))) ((4 * (bx5 - 1)) + 0))) ((4 * b) + 1) ((gu (mgw bo5 a (bo5 (4 * b)) (bo5 ((4 * b) + 1)) (bo5 ((4 * b) + 2)) (bo5 ((4 * b) + 3))) ((4 * b) + 0) ((mgw bo5 a (bo5 (4 * b)) (bo5 ((4 * b) + 1)) (bo5 ((4 * b) + 2)) (bo5 ((4 * b) + 3))) ((4 * (bx5 - 1)) + 0))) ((4 * (bx5 - 1)) + 1))) ((4 * b) + 2) ((gu (gu (mgw bo5 a (bo5 (4 * b)) (bo5 ((4 * b) + 1)) (bo5 ((4 * b) + 2)) (bo5 ((4 * b) + 3))) ((4 * b) + 0) ((mgw bo5 a (bo5 (4 * b)) (bo5 ((4 * b) + 1)) (bo5 ((4 * b) + 2)) (bo5 ((4 * b) + 3))) ((4 * (bx5 - 1)) + 0))) ((4 * b) + 1) ((gu (mgw bo5 a (bo5 (4 * b)) (bo5 ((4 * b) + 1)) (bo5 ((4 * b) + 2)) (bo5 ((4 * b) + 3))) ((4 * b) + 0) ((mgw bo5 a (bo5 (4 * b)) (bo5 ((4 * b) + 1)) (bo5 ((4 * b) + 2)) (bo5 ((4 * b) + 3))) ((4 * (bx5 - 1)) + 0))) ((4 * (bx5 - 1)) + 1))) ((4 * (bx5 - 1)) + 2))) ((4 * (bx5 - 1)) + 3))) (by omega) (by exact hst _ _ _ _ hF5 (by omega) (by omega) (by omega) b40) (by exact Or.inr rfl) (by intro h9; omega) (by intro _; omega) (by omega)
                                  ·
                                    exfalso
                                    omega
                exact lp25 _ mo3 0 bx3 bo3 (by omega) (by exact hF3) (by exact hm3) (by exact fun h9 => ⟨(hz3 h9).1, (hz3 h9).2.1, (hz3 h9).2.2, fun a9 k1 k2 => by omega⟩) (by exact ho3) (Nat.lt_succ_self _)
        exact lp15 _ 0 (bx1 - 1) bx1 bo1 (by omega) (by exact hF1) (by exact Or.inl rfl) (by exact fun _ => ⟨rfl, rfl, fun a9 b9 k1 k2 k3 k4 => by omega⟩) (by intro h9; omega) (by intro h9; omega) (Nat.lt_succ_self _)
  exact lp2 _ 1 mbx mbo (by exact hF) (by exact Or.inr rfl) (by intro h9; omega) (Nat.lt_succ_self _)
set_option maxHeartbeats 4000000 in
set_option maxRecDepth 100000 in
theorem c_X8_sortBoxes (l : Launch) (D : va_G) (cA : Nat → ClassId) (W : Nat) (H : Nat) (mth : Int) (mbd : Int) (mne : Int) (mnw : Int) (mmn : Int) (mbx : Int) (man : Int) (mrs : Int) (mrl : Int) (mfl : Int) (mpt : Int → Int) (mdf : Int → Int) (mlb : Int → Int) (mbo : Int → Int) (mwn : Int → Int) (mwo : Int → Int) (mxo : Int → Int) (myo : Int → Int) (mor : Int → Int) (mco : Int → Int) (mro : Int → Int) (mpw : Int → Int) (mph : Int → Int) (mrk : Int → Int) (mrb : Int → Int) (mrf : Int → Int) (mfr : Int → Int) (mfm : Int → Int) (med : Int → Int) (map : Int → Int) (mwh : Int → Int) (F : (Int → Int) → Prop) (hbx : 0 ≤ mbx ∧ mbx ≤ 1024) (hst : ∀ (bo : Int → Int) (i k : Int), F bo → 0 ≤ i → i < mbx → 0 ≤ k → k < mbx → i ≠ k → F (msw bo i k)) (hok : ∀ bo : Int → Int, F bo → ∀ i : Int, 0 ≤ i → i < mbx → (0 ≤ bo (4 * i) ∧ bo (4 * i) ≤ 31) ∧ 0 ≤ bo (4 * i + 1) ∧ bo (4 * i + 1) ≤ 31) (hF : F mbo) :
    gC l D cA yX8_sortBoxes mX8_sortBoxes none 0 0 [gr 60] (moW W H mth mbd mne mnw mmn mbx man mrs mrl mfl mpt mdf mlb mbo mwn mwo mxo myo mor mco mro mpw mph mrk mrb mrf mfr mfm med map mwh) (fun r9 w9 => ∃ (bo2 : Int → Int), r9 = none ∧ w9 = moW W H mth mbd mne mnw mmn mbx man mrs mrl mfl mpt mdf mlb bo2 mwn mwo mxo myo mor mco mro mpw mph mrk mrb mrf mfr mfm med map mwh ∧ (F bo2) ∧ (∀ i j : Int, 0 ≤ i → i < j → j < mbx → ¬ flt (mrw bo2 j) (mrw bo2 i))) := by
  refine gC_of rfl kX8_sortBoxes rfl rfl (Nat.le_of_ble_eq_true rfl) (fun X ad hX hE => ?_)
  refine G.go hX 2 (moW W H mth mbd mne mnw mmn mbx man mrs mrl mfl mpt mdf mlb mbo mwn mwo mxo myo mor mco mro mpw mph mrk mrb mrf mfr mfm med map mwh, 2, [(0, gr 60), (1, gi 0)], []) rfl trivial ?_
  have lp2 : ∀ (n : Nat) (i : Int) (bo1 : Int → Int), (0 ≤ i ∧ i ≤ mbx) → (F bo1) → (mSo bo1 mbx i 0) → (mbx - i).toNat < n → G X mX8_sortBoxes ad 0 0 (moW W H mth mbd mne mnw mmn mbx man mrs mrl mfl mpt mdf mlb bo1 mwn mwo mxo myo mor mco mro mpw mph mrk mrb mrf mfr mfm med map mwh, 2, [(0, gr 60), (1, gi i)], []) := by
    intro n
    induction n with
    | zero => intro i bo1 hi hF1 hs1 hm9; exact absurd hm9 (Nat.not_lt_zero _)
    | succ n ih2 =>
      intro i bo1 hi hF1 hs1 hm2
      refine G.go hX 3 (moW W H mth mbd mne mnw mmn mbx man mrs mrl mfl mpt mdf mlb bo1 mwn mwo mxo myo mor mco mro mpw mph mrk mrb mrf mfr mfm med map mwh, 7, [(0, gr 60), (1, gi i)], [gi mbx, gi i]) rfl trivial ?_
      refine g_icmp_ge hX 150 rfl rfl ⟨by omega, by omega⟩ ⟨by omega, by omega⟩ (fun b7 => ?_) (fun b7 => ?_)
      ·
        exact g_vret hX hE rfl ⟨bo1, rfl, rfl, hF1, fun a b k1 k2 k3 => hs1.1 a b k1 k2 k3 (by omega)⟩
      ·
        refine G.go hX 4 (moW W H mth mbd mne mnw mmn mbx man mrs mrl mfl mpt mdf mlb bo1 mwn mwo mxo myo mor mco mro mpw mph mrk mrb mrf mfr mfm med map mwh, 14, [(0, gr 60), (1, gi i), (2, gi (i + 1))], []) rfl trivial ?_
        have lp14 : ∀ (n : Nat) (k : Int) (bo3 : Int → Int), (i < k ∧ k ≤ mbx) → (F bo3) → (mSo bo3 mbx i k) → (mbx - k).toNat < n → G X mX8_sortBoxes ad 0 0 (moW W H mth mbd mne mnw mmn mbx man mrs mrl mfl mpt mdf mlb bo3 mwn mwo mxo myo mor mco mro mpw mph mrk mrb mrf mfr mfm med map mwh, 14, [(0, gr 60), (1, gi i), (2, gi k)], []) := by
          intro n
          induction n with
          | zero => intro k bo3 hk hF3 hs3 hm9; exact absurd hm9 (Nat.not_lt_zero _)
          | succ n ih14 =>
            intro k bo3 hk hF3 hs3 hm14
            refine G.go hX 3 (moW W H mth mbd mne mnw mmn mbx man mrs mrl mfl mpt mdf mlb bo3 mwn mwo mxo myo mor mco mro mpw mph mrk mrb mrf mfr mfm med map mwh, 19, [(0, gr 60), (1, gi i), (2, gi k)], [gi mbx, gi k]) rfl trivial ?_
            refine g_icmp_ge hX 144 rfl rfl ⟨by omega, by omega⟩ ⟨by omega, by omega⟩ (fun b19 => ?_) (fun b19 => ?_)
            ·
              refine G.go hX 2 (moW W H mth mbd mne mnw mmn mbx man mrs mrl mfl mpt mdf mlb bo3 mwn mwo mxo myo mor mco mro mpw mph mrk mrb mrf mfr mfm med map mwh, 2, [(0, gr 60), (1, gi (i + 1)), (2, gi k)], []) rfl trivial ?_
              refine G.locs [(0, gr 60), (1, gi (i + 1))] [0, 1] rfl ?_
              exact ih2 (i + 1) bo3 (by omega) (by exact hF3) (by exact ⟨fun a b k1 k2 k3 k4 => by (by_cases e9 : a = i; (subst e9; exact hs3.2 b (by omega) (by omega) k3); exact hs3.1 a b k1 k2 k3 (by omega)), fun b k1 k2 => by omega⟩) (by omega)
            ·
              have hok1 := hok _ hF3 i (by omega) (by omega)
              have hok2 := hok _ hF3 k (by omega) (by omega)
              refine G.go hX 40 (moW W H mth mbd mne mnw mmn mbx man mrs mrl mfl mpt mdf mlb bo3 mwn mwo mxo myo mor mco mro mpw mph mrk mrb mrf mfr mfm med map mwh, 75, [(0, gr 60), (1, gi i), (2, gi k), (3, gi ((32 * (bo3 ((4 * i) + 1))) + (bo3 (4 * i)))), (4, gi ((32 * (bo3 ((4 * k) + 1))) + (bo3 (4 * k)))), (5, gi 0)], [gi 4, gi 0]) rfl ?_ ?_
              · refine ⟨?_, ?_, ?_, ?_, trivial⟩
                · omega
                · omega
                · omega
                · omega
              refine g_icmp_ge hX 138 rfl rfl ⟨by omega, by omega⟩ ⟨by omega, by omega⟩ (fun b75 => ?_) (fun b75 => ?_)
              ·
                exfalso
                omega
              ·
                refine G.go hX 2 (moW W H mth mbd mne mnw mmn mbx man mrs mrl mfl mpt mdf mlb bo3 mwn mwo mxo myo mor mco mro mpw mph mrk mrb mrf mfr mfm med map mwh, 81, [(0, gr 60), (1, gi i), (2, gi k), (3, gi ((32 * (bo3 ((4 * i) + 1))) + (bo3 (4 * i)))), (4, gi ((32 * (bo3 ((4 * k) + 1))) + (bo3 (4 * k)))), (5, gi 0)], [gi ((32 * (bo3 ((4 * i) + 1))) + (bo3 (4 * i))), gi ((32 * (bo3 ((4 * k) + 1))) + (bo3 (4 * k)))]) rfl trivial ?_
                refine g_icmp_ge hX 138 rfl rfl ⟨by omega, by omega⟩ ⟨by omega, by omega⟩ (fun b81 => ?_) (fun b81 => ?_)
                ·
                  refine G.go hX 2 (moW W H mth mbd mne mnw mmn mbx man mrs mrl mfl mpt mdf mlb bo3 mwn mwo mxo myo mor mco mro mpw mph mrk mrb mrf mfr mfm med map mwh, 14, [(0, gr 60), (1, gi i), (2, gi (k + 1)), (3, gi ((32 * (bo3 ((4 * i) + 1))) + (bo3 (4 * i)))), (4, gi ((32 * (bo3 ((4 * k) + 1))) + (bo3 (4 * k)))), (5, gi 0)], []) rfl trivial ?_
                  refine G.locs [(0, gr 60), (1, gi i), (2, gi (k + 1))] [0, 1, 2] rfl ?_
                  exact ih14 (k + 1) bo3 (by omega) (by exact hF3) (by exact ⟨hs3.1, fun b k1 k2 k3 => by (by_cases e9 : b = k; (subst e9; unfold flt mrw; simp only [Int.add_zero]; omega); exact hs3.2 b k1 (by omega) k3)⟩) (by omega)
                ·
                  refine G.go hX 38 (moW W H mth mbd mne mnw mmn mbx man mrs mrl mfl mpt mdf mlb (gu (gu bo3 ((4 * i) + 0) (bo3 ((4 * k) + 0))) ((4 * k) + 0) (bo3 ((4 * i) + 0))) mwn mwo mxo myo mor mco mro mpw mph mrk mrb mrf mfr mfm med map mwh, 75, [(0, gr 60), (1, gi i), (2, gi k), (3, gi ((32 * (bo3 ((4 * i) + 1))) + (bo3 (4 * i)))), (4, gi ((32 * (bo3 ((4 * k) + 1))) + (bo3 (4 * k)))), (5, gi 1), (6, gi (bo3 ((4 * i) + 0)))], [gi 4, gi 1]) rfl ?_ ?_
                  · refine ⟨?_, ?_, ?_, ?_, trivial⟩
                    · omega
                    · omega
                    · omega
                    · omega
                  refine g_icmp_ge hX 138 rfl rfl ⟨by omega, by omega⟩ ⟨by omega, by omega⟩ (fun b75 => ?_) (fun b75 => ?_)
                  ·
                    exfalso
                    omega
                  ·
                    refine G.go hX 2 (moW W H mth mbd mne mnw mmn mbx man mrs mrl mfl mpt mdf mlb (gu (gu bo3 ((4 * i) + 0) (bo3 ((4 * k) + 0))) ((4 * k) + 0) (bo3 ((4 * i) + 0))) mwn mwo mxo myo mor mco mro mpw mph mrk mrb mrf mfr mfm med map mwh, 81, [(0, gr 60), (1, gi i), (2, gi k), (3, gi ((32 * (bo3 ((4 * i) + 1))) + (bo3 (4 * i)))), (4, gi ((32 * (bo3 ((4 * k) + 1))) + (bo3 (4 * k)))), (5, gi 1), (6, gi (bo3 ((4 * i) + 0)))], [gi ((32 * (bo3 ((4 * i) + 1))) + (bo3 (4 * i))), gi ((32 * (bo3 ((4 * k) + 1))) + (bo3 (4 * k)))]) rfl trivial ?_
                    refine g_icmp_ge hX 138 rfl rfl ⟨by omega, by omega⟩ ⟨by omega, by omega⟩ (fun b81 => ?_) (fun b81 => ?_)
                    ·
                      exfalso
                      omega
                    ·
                      refine G.go hX 38 (moW W H mth mbd mne mnw mmn mbx man mrs mrl mfl mpt mdf mlb (gu (gu (gu (gu bo3 ((4 * i) + 0) (bo3 ((4 * k) + 0))) ((4 * k) + 0) (bo3 ((4 * i) + 0))) ((4 * i) + 1) ((gu (gu bo3 ((4 * i) + 0) (bo3 ((4 * k) + 0))) ((4 * k) + 0) (bo3 ((4 * i) + 0))) ((4 * k) + 1))) ((4 * k) + 1) ((gu (gu bo3 ((4 * i) + 0) (bo3 ((4 * k) + 0))) ((4 * k) + 0) (bo3 ((4 * i) + 0))) ((4 * i) + 1))) mwn mwo mxo myo mor mco mro mpw mph mrk mrb mrf mfr mfm med map mwh, 75, [(0, gr 60), (1, gi i), (2, gi k), (3, gi ((32 * (bo3 ((4 * i) + 1))) + (bo3 (4 * i)))), (4, gi ((32 * (bo3 ((4 * k) + 1))) + (bo3 (4 * k)))), (5, gi 2), (6, gi ((gu (gu bo3 ((4 * i) + 0) (bo3 ((4 * k) + 0))) ((4 * k) + 0) (bo3 ((4 * i) + 0))) ((4 * i) + 1)))], [gi 4, gi 2]) rfl ?_ ?_
                      · refine ⟨?_, ?_, ?_, ?_, trivial⟩
                        · omega
                        · omega
                        · omega
                        · omega
                      refine g_icmp_ge hX 138 rfl rfl ⟨by omega, by omega⟩ ⟨by omega, by omega⟩ (fun b75 => ?_) (fun b75 => ?_)
                      ·
                        exfalso
                        omega
                      ·
                        refine G.go hX 2 (moW W H mth mbd mne mnw mmn mbx man mrs mrl mfl mpt mdf mlb (gu (gu (gu (gu bo3 ((4 * i) + 0) (bo3 ((4 * k) + 0))) ((4 * k) + 0) (bo3 ((4 * i) + 0))) ((4 * i) + 1) ((gu (gu bo3 ((4 * i) + 0) (bo3 ((4 * k) + 0))) ((4 * k) + 0) (bo3 ((4 * i) + 0))) ((4 * k) + 1))) ((4 * k) + 1) ((gu (gu bo3 ((4 * i) + 0) (bo3 ((4 * k) + 0))) ((4 * k) + 0) (bo3 ((4 * i) + 0))) ((4 * i) + 1))) mwn mwo mxo myo mor mco mro mpw mph mrk mrb mrf mfr mfm med map mwh, 81, [(0, gr 60), (1, gi i), (2, gi k), (3, gi ((32 * (bo3 ((4 * i) + 1))) + (bo3 (4 * i)))), (4, gi ((32 * (bo3 ((4 * k) + 1))) + (bo3 (4 * k)))), (5, gi 2), (6, gi ((gu (gu bo3 ((4 * i) + 0) (bo3 ((4 * k) + 0))) ((4 * k) + 0) (bo3 ((4 * i) + 0))) ((4 * i) + 1)))], [gi ((32 * (bo3 ((4 * i) + 1))) + (bo3 (4 * i))), gi ((32 * (bo3 ((4 * k) + 1))) + (bo3 (4 * k)))]) rfl trivial ?_
                        refine g_icmp_ge hX 138 rfl rfl ⟨by omega, by omega⟩ ⟨by omega, by omega⟩ (fun b81 => ?_) (fun b81 => ?_)
                        ·
                          exfalso
                          omega
                        ·
                          refine G.go hX 38 (moW W H mth mbd mne mnw mmn mbx man mrs mrl mfl mpt mdf mlb (gu (gu (gu (gu (gu (gu bo3 ((4 * i) + 0) (bo3 ((4 * k) + 0))) ((4 * k) + 0) (bo3 ((4 * i) + 0))) ((4 * i) + 1) ((gu (gu bo3 ((4 * i) + 0) (bo3 ((4 * k) + 0))) ((4 * k) + 0) (bo3 ((4 * i) + 0))) ((4 * k) + 1))) ((4 * k) + 1) ((gu (gu bo3 ((4 * i) + 0) (bo3 ((4 * k) + 0))) ((4 * k) + 0) (bo3 ((4 * i) + 0))) ((4 * i) + 1))) ((4 * i) + 2) ((gu (gu (gu (gu bo3 ((4 * i) + 0) (bo3 ((4 * k) + 0))) ((4 * k) + 0) (bo3 ((4 * i) + 0))) ((4 * i) + 1) ((gu (gu bo3 ((4 * i) + 0) (bo3 ((4 * k) + 0))) ((4 * k) + 0) (bo3 ((4 * i) + 0))) ((4 * k) + 1))) ((4 * k) + 1) ((gu (gu bo3 ((4 * i) + 0) (bo3 ((4 * k) + 0))) ((4 * k) + 0) (bo3 ((4 * i) + 0))) ((4 * i) + 1))) ((4 * k) + 2))) ((4 * k) + 2) ((gu (gu (gu (gu bo3 ((4 * i) + 0) (bo3 ((4 * k) + 0))) ((4 * k) + 0) (bo3 ((4 * i) + 0))) ((4 * i) + 1) ((gu (gu bo3 ((4 * i) + 0) (bo3 ((4 * k) + 0))) ((4 * k) + 0) (bo3 ((4 * i) + 0))) ((4 * k) + 1))) ((4 * k) + 1) ((gu (gu bo3 ((4 * i) + 0) (bo3 ((4 * k) + 0))) ((4 * k) + 0) (bo3 ((4 * i) + 0))) ((4 * i) + 1))) ((4 * i) + 2))) mwn mwo mxo myo mor mco mro mpw mph mrk mrb mrf mfr mfm med map mwh, 75, [(0, gr 60), (1, gi i), (2, gi k), (3, gi ((32 * (bo3 ((4 * i) + 1))) + (bo3 (4 * i)))), (4, gi ((32 * (bo3 ((4 * k) + 1))) + (bo3 (4 * k)))), (5, gi 3), (6, gi ((gu (gu (gu (gu bo3 ((4 * i) + 0) (bo3 ((4 * k) + 0))) ((4 * k) + 0) (bo3 ((4 * i) + 0))) ((4 * i) + 1) ((gu (gu bo3 ((4 * i) + 0) (bo3 ((4 * k) + 0))) ((4 * k) + 0) (bo3 ((4 * i) + 0))) ((4 * k) + 1))) ((4 * k) + 1) ((gu (gu bo3 ((4 * i) + 0) (bo3 ((4 * k) + 0))) ((4 * k) + 0) (bo3 ((4 * i) + 0))) ((4 * i) + 1))) ((4 * i) + 2)))], [gi 4, gi 3]) rfl ?_ ?_
                          · refine ⟨?_, ?_, ?_, ?_, trivial⟩
                            · omega
                            · omega
                            · omega
                            · omega
                          refine g_icmp_ge hX 138 rfl rfl ⟨by omega, by omega⟩ ⟨by omega, by omega⟩ (fun b75 => ?_) (fun b75 => ?_)
                          ·
                            exfalso
                            omega
                          ·
                            refine G.go hX 2 (moW W H mth mbd mne mnw mmn mbx man mrs mrl mfl mpt mdf mlb (gu (gu (gu (gu (gu (gu bo3 ((4 * i) + 0) (bo3 ((4 * k) + 0))) ((4 * k) + 0) (bo3 ((4 * i) + 0))) ((4 * i) + 1) ((gu (gu bo3 ((4 * i) + 0) (bo3 ((4 * k) + 0))) ((4 * k) + 0) (bo3 ((4 * i) + 0))) ((4 * k) + 1))) ((4 * k) + 1) ((gu (gu bo3 ((4 * i) + 0) (bo3 ((4 * k) + 0))) ((4 * k) + 0) (bo3 ((4 * i) + 0))) ((4 * i) + 1))) ((4 * i) + 2) ((gu (gu (gu (gu bo3 ((4 * i) + 0) (bo3 ((4 * k) + 0))) ((4 * k) + 0) (bo3 ((4 * i) + 0))) ((4 * i) + 1) ((gu (gu bo3 ((4 * i) + 0) (bo3 ((4 * k) + 0))) ((4 * k) + 0) (bo3 ((4 * i) + 0))) ((4 * k) + 1))) ((4 * k) + 1) ((gu (gu bo3 ((4 * i) + 0) (bo3 ((4 * k) + 0))) ((4 * k) + 0) (bo3 ((4 * i) + 0))) ((4 * i) + 1))) ((4 * k) + 2))) ((4 * k) + 2) ((gu (gu (gu (gu bo3 ((4 * i) + 0) (bo3 ((4 * k) + 0))) ((4 * k) + 0) (bo3 ((4 * i) + 0))) ((4 * i) + 1) ((gu (gu bo3 ((4 * i) + 0) (bo3 ((4 * k) + 0))) ((4 * k) + 0) (bo3 ((4 * i) + 0))) ((4 * k) + 1))) ((4 * k) + 1) ((gu (gu bo3 ((4 * i) + 0) (bo3 ((4 * k) + 0))) ((4 * k) + 0) (bo3 ((4 * i) + 0))) ((4 * i) + 1))) ((4 * i) + 2))) mwn mwo mxo myo mor mco mro mpw mph mrk mrb mrf mfr mfm med map mwh, 81, [(0, gr 60), (1, gi i), (2, gi k), (3, gi ((32 * (bo3 ((4 * i) + 1))) + (bo3 (4 * i)))), (4, gi ((32 * (bo3 ((4 * k) + 1))) + (bo3 (4 * k)))), (5, gi 3), (6, gi ((gu (gu (gu (gu bo3 ((4 * i) + 0) (bo3 ((4 * k) + 0))) ((4 * k) + 0) (bo3 ((4 * i) + 0))) ((4 * i) + 1) ((gu (gu bo3 ((4 * i) + 0) (bo3 ((4 * k) + 0))) ((4 * k) + 0) (bo3 ((4 * i) + 0))) ((4 * k) + 1))) ((4 * k) + 1) ((gu (gu bo3 ((4 * i) + 0) (bo3 ((4 * k) + 0))) ((4 * k) + 0) (bo3 ((4 * i) + 0))) ((4 * i) + 1))) ((4 * i) + 2)))], [gi ((32 * (bo3 ((4 * i) + 1))) + (bo3 (4 * i))), gi ((32 * (bo3 ((4 * k) + 1))) + (bo3 (4 * k)))]) rfl trivial ?_
                            refine g_icmp_ge hX 138 rfl rfl ⟨by omega, by omega⟩ ⟨by omega, by omega⟩ (fun b81 => ?_) (fun b81 => ?_)
                            ·
                              exfalso
                              omega
                            ·
                              refine G.go hX 38 (moW W H mth mbd mne mnw mmn mbx man mrs mrl mfl mpt mdf mlb (gu (gu (gu (gu (gu (gu (gu (gu bo3 ((4 * i) + 0) (bo3 ((4 * k) + 0))) ((4 * k) + 0) (bo3 ((4 * i) + 0))) ((4 * i) + 1) ((gu (gu bo3 ((4 * i) + 0) (bo3 ((4 * k) + 0))) ((4 * k) + 0) (bo3 ((4 * i) + 0))) ((4 * k) + 1))) ((4 * k) + 1) ((gu (gu bo3 ((4 * i) + 0) (bo3 ((4 * k) + 0))) ((4 * k) + 0) (bo3 ((4 * i) + 0))) ((4 * i) + 1))) ((4 * i) + 2) ((gu (gu (gu (gu bo3 ((4 * i) + 0) (bo3 ((4 * k) + 0))) ((4 * k) + 0) (bo3 ((4 * i) + 0))) ((4 * i) + 1) ((gu (gu bo3 ((4 * i) + 0) (bo3 ((4 * k) + 0))) ((4 * k) + 0) (bo3 ((4 * i) + 0))) ((4 * k) + 1))) ((4 * k) + 1) ((gu (gu bo3 ((4 * i) + 0) (bo3 ((4 * k) + 0))) ((4 * k) + 0) (bo3 ((4 * i) + 0))) ((4 * i) + 1))) ((4 * k) + 2))) ((4 * k) + 2) ((gu (gu (gu (gu bo3 ((4 * i) + 0) (bo3 ((4 * k) + 0))) ((4 * k) + 0) (bo3 ((4 * i) + 0))) ((4 * i) + 1) ((gu (gu bo3 ((4 * i) + 0) (bo3 ((4 * k) + 0))) ((4 * k) + 0) (bo3 ((4 * i) + 0))) ((4 * k) + 1))) ((4 * k) + 1) ((gu (gu bo3 ((4 * i) + 0) (bo3 ((4 * k) + 0))) ((4 * k) + 0) (bo3 ((4 * i) + 0))) ((4 * i) + 1))) ((4 * i) + 2))) ((4 * i) + 3) ((gu (gu (gu (gu (gu (gu bo3 ((4 * i) + 0) (bo3 ((4 * k) + 0))) ((4 * k) + 0) (bo3 ((4 * i) + 0))) ((4 * i) + 1) ((gu (gu bo3 ((4 * i) + 0) (bo3 ((4 * k) + 0))) ((4 * k) + 0) (bo3 ((4 * i) + 0))) ((4 * k) + 1))) ((4 * k) + 1) ((gu (gu bo3 ((4 * i) + 0) (bo3 ((4 * k) + 0))) ((4 * k) + 0) (bo3 ((4 * i) + 0))) ((4 * i) + 1))) ((4 * i) + 2) ((gu (gu (gu (gu bo3 ((4 * i) + 0) (bo3 ((4 * k) + 0))) ((4 * k) + 0) (bo3 ((4 * i) + 0))) ((4 * i) + 1) ((gu (gu bo3 ((4 * i) + 0) (bo3 ((4 * k) + 0))) ((4 * k) + 0) (bo3 ((4 * i) + 0))) ((4 * k) + 1))) ((4 * k) + 1) ((gu (gu bo3 ((4 * i) + 0) (bo3 ((4 * k) + 0))) ((4 * k) + 0) (bo3 ((4 * i) + 0))) ((4 * i) + 1))) ((4 * k) + 2))) ((4 * k) + 2) ((gu (gu (gu (gu bo3 ((4 * i) + 0) (bo3 ((4 * k) + 0))) ((4 * k) + 0) (bo3 ((4 * i) + 0))) ((4 * i) + 1) ((gu (gu bo3 ((4 * i) + 0) (bo3 ((4 * k) + 0))) ((4 * k) + 0) (bo3 ((4 * i) + 0))) ((4 * k) + 1))) ((4 * k) + 1) ((gu (gu bo3 ((4 * i) + 0) (bo3 ((4 * k) + 0))) ((4 * k) + 0) (bo3 ((4 * i) + 0))) ((4 * i) + 1))) ((4 * i) + 2))) ((4 * k) + 3))) ((4 * k) + 3) ((gu (gu (gu (gu (gu (gu bo3 ((4 * i) + 0) (bo3 ((4 * k) + 0))) ((4 * k) + 0) (bo3 ((4 * i) + 0))) ((4 * i) + 1) ((gu (gu bo3 ((4 * i) + 0) (bo3 ((4 * k) + 0))) ((4 * k) + 0) (bo3 ((4 * i) + 0))) ((4 * k) + 1))) ((4 * k) + 1) ((gu (gu bo3 ((4 * i) + 0) (bo3 ((4 * k) + 0))) ((4 * k) + 0) (bo3 ((4 * i) + 0))) ((4 * i) + 1))) ((4 * i) + 2) ((gu (gu (gu (gu bo3 ((4 * i) + 0) (bo3 ((4 * k) + 0))) ((4 * k) + 0) (bo3 ((4 * i) + 0))) ((4 * i) + 1) ((gu (gu bo3 ((4 * i) + 0) (bo3 ((4 * k) + 0))) ((4 * k) + 0) (bo3 ((4 * i) + 0))) ((4 * k) + 1))) ((4 * k) + 1) ((gu (gu bo3 ((4 * i) + 0) (bo3 ((4 * k) + 0))) ((4 * k) + 0) (bo3 ((4 * i) + 0))) ((4 * i) + 1))) ((4 * k) + 2))) ((4 * k) + 2) ((gu (gu (gu (gu bo3 ((4 * i) + 0) (bo3 ((4 * k) + 0))) ((4 * k) + 0) (bo3 ((4 * i) + 0))) ((4 * i) + 1) ((gu (gu bo3 ((4 * i) + 0) (bo3 ((4 * k) + 0))) ((4 * k) + 0) (bo3 ((4 * i) + 0))) ((4 * k) + 1))) ((4 * k) + 1) ((gu (gu bo3 ((4 * i) + 0) (bo3 ((4 * k) + 0))) ((4 * k) + 0) (bo3 ((4 * i) + 0))) ((4 * i) + 1))) ((4 * i) + 2))) ((4 * i) + 3))) mwn mwo mxo myo mor mco mro mpw mph mrk mrb mrf mfr mfm med map mwh, 75, [(0, gr 60), (1, gi i), (2, gi k), (3, gi ((32 * (bo3 ((4 * i) + 1))) + (bo3 (4 * i)))), (4, gi ((32 * (bo3 ((4 * k) + 1))) + (bo3 (4 * k)))), (5, gi 4), (6, gi ((gu (gu (gu (gu (gu (gu bo3 ((4 * i) + 0) (bo3 ((4 * k) + 0))) ((4 * k) + 0) (bo3 ((4 * i) + 0))) ((4 * i) + 1) ((gu (gu bo3 ((4 * i) + 0) (bo3 ((4 * k) + 0))) ((4 * k) + 0) (bo3 ((4 * i) + 0))) ((4 * k) + 1))) ((4 * k) + 1) ((gu (gu bo3 ((4 * i) + 0) (bo3 ((4 * k) + 0))) ((4 * k) + 0) (bo3 ((4 * i) + 0))) ((4 * i) + 1))) ((4 * i) + 2) ((gu (gu (gu (gu bo3 ((4 * i) + 0) (bo3 ((4 * k) + 0))) ((4 * k) + 0) (bo3 ((4 * i) + 0))) ((4 * i) + 1) ((gu (gu bo3 ((4 * i) + 0) (bo3 ((4 * k) + 0))) ((4 * k) + 0) (bo3 ((4 * i) + 0))) ((4 * k) + 1))) ((4 * k) + 1) ((gu (gu bo3 ((4 * i) + 0) (bo3 ((4 * k) + 0))) ((4 * k) + 0) (bo3 ((4 * i) + 0))) ((4 * i) + 1))) ((4 * k) + 2))) ((4 * k) + 2) ((gu (gu (gu (gu bo3 ((4 * i) + 0) (bo3 ((4 * k) + 0))) ((4 * k) + 0) (bo3 ((4 * i) + 0))) ((4 * i) + 1) ((gu (gu bo3 ((4 * i) + 0) (bo3 ((4 * k) + 0))) ((4 * k) + 0) (bo3 ((4 * i) + 0))) ((4 * k) + 1))) ((4 * k) + 1) ((gu (gu bo3 ((4 * i) + 0) (bo3 ((4 * k) + 0))) ((4 * k) + 0) (bo3 ((4 * i) + 0))) ((4 * i) + 1))) ((4 * i) + 2))) ((4 * i) + 3)))], [gi 4, gi 4]) rfl ?_ ?_
                              · refine ⟨?_, ?_, ?_, ?_, trivial⟩
                                · omega
                                · omega
                                · omega
                                · omega
                              refine g_icmp_ge hX 138 rfl rfl ⟨by omega, by omega⟩ ⟨by omega, by omega⟩ (fun b75 => ?_) (fun b75 => ?_)
                              ·
                                refine G.go hX 2 (moW W H mth mbd mne mnw mmn mbx man mrs mrl mfl mpt mdf mlb (gu (gu (gu (gu (gu (gu (gu (gu bo3 ((4 * i) + 0) (bo3 ((4 * k) + 0))) ((4 * k) + 0) (bo3 ((4 * i) + 0))) ((4 * i) + 1) ((gu (gu bo3 ((4 * i) + 0) (bo3 ((4 * k) + 0))) ((4 * k) + 0) (bo3 ((4 * i) + 0))) ((4 * k) + 1))) ((4 * k) + 1) ((gu (gu bo3 ((4 * i) + 0) (bo3 ((4 * k) + 0))) ((4 * k) + 0) (bo3 ((4 * i) + 0))) ((4 * i) + 1))) ((4 * i) + 2) ((gu (gu (gu (gu bo3 ((4 * i) + 0) (bo3 ((4 * k) + 0))) ((4 * k) + 0) (bo3 ((4 * i) + 0))) ((4 * i) + 1) ((gu (gu bo3 ((4 * i) + 0) (bo3 ((4 * k) + 0))) ((4 * k) + 0) (bo3 ((4 * i) + 0))) ((4 * k) + 1))) ((4 * k) + 1) ((gu (gu bo3 ((4 * i) + 0) (bo3 ((4 * k) + 0))) ((4 * k) + 0) (bo3 ((4 * i) + 0))) ((4 * i) + 1))) ((4 * k) + 2))) ((4 * k) + 2) ((gu (gu (gu (gu bo3 ((4 * i) + 0) (bo3 ((4 * k) + 0))) ((4 * k) + 0) (bo3 ((4 * i) + 0))) ((4 * i) + 1) ((gu (gu bo3 ((4 * i) + 0) (bo3 ((4 * k) + 0))) ((4 * k) + 0) (bo3 ((4 * i) + 0))) ((4 * k) + 1))) ((4 * k) + 1) ((gu (gu bo3 ((4 * i) + 0) (bo3 ((4 * k) + 0))) ((4 * k) + 0) (bo3 ((4 * i) + 0))) ((4 * i) + 1))) ((4 * i) + 2))) ((4 * i) + 3) ((gu (gu (gu (gu (gu (gu bo3 ((4 * i) + 0) (bo3 ((4 * k) + 0))) ((4 * k) + 0) (bo3 ((4 * i) + 0))) ((4 * i) + 1) ((gu (gu bo3 ((4 * i) + 0) (bo3 ((4 * k) + 0))) ((4 * k) + 0) (bo3 ((4 * i) + 0))) ((4 * k) + 1))) ((4 * k) + 1) ((gu (gu bo3 ((4 * i) + 0) (bo3 ((4 * k) + 0))) ((4 * k) + 0) (bo3 ((4 * i) + 0))) ((4 * i) + 1))) ((4 * i) + 2) ((gu (gu (gu (gu bo3 ((4 * i) + 0) (bo3 ((4 * k) + 0))) ((4 * k) + 0) (bo3 ((4 * i) + 0))) ((4 * i) + 1) ((gu (gu bo3 ((4 * i) + 0) (bo3 ((4 * k) + 0))) ((4 * k) + 0) (bo3 ((4 * i) + 0))) ((4 * k) + 1))) ((4 * k) + 1) ((gu (gu bo3 ((4 * i) + 0) (bo3 ((4 * k) + 0))) ((4 * k) + 0) (bo3 ((4 * i) + 0))) ((4 * i) + 1))) ((4 * k) + 2))) ((4 * k) + 2) ((gu (gu (gu (gu bo3 ((4 * i) + 0) (bo3 ((4 * k) + 0))) ((4 * k) + 0) (bo3 ((4 * i) + 0))) ((4 * i) + 1) ((gu (gu bo3 ((4 * i) + 0) (bo3 ((4 * k) + 0))) ((4 * k) + 0) (bo3 ((4 * i) + 0))) ((4 * k) + 1))) ((4 * k) + 1) ((gu (gu bo3 ((4 * i) + 0) (bo3 ((4 * k) + 0))) ((4 * k) + 0) (bo3 ((4 * i) + 0))) ((4 * i) + 1))) ((4 * i) + 2))) ((4 * k) + 3))) ((4 * k) + 3) ((gu (gu (gu (gu (gu (gu bo3 ((4 * i) + 0) (bo3 ((4 * k) + 0))) ((4 * k) + 0) (bo3 ((4 * i) + 0))) ((4 * i) + 1) ((gu (gu bo3 ((4 * i) + 0) (bo3 ((4 * k) + 0))) ((4 * k) + 0) (bo3 ((4 * i) + 0))) ((4 * k) + 1))) ((4 * k) + 1) ((gu (gu bo3 ((4 * i) + 0) (bo3 ((4 * k) + 0))) ((4 * k) + 0) (bo3 ((4 * i) + 0))) ((4 * i) + 1))) ((4 * i) + 2) ((gu (gu (gu (gu bo3 ((4 * i) + 0) (bo3 ((4 * k) + 0))) ((4 * k) + 0) (bo3 ((4 * i) + 0))) ((4 * i) + 1) ((gu (gu bo3 ((4 * i) + 0) (bo3 ((4 * k) + 0))) ((4 * k) + 0) (bo3 ((4 * i) + 0))) ((4 * k) + 1))) ((4 * k) + 1) ((gu (gu bo3 ((4 * i) + 0) (bo3 ((4 * k) + 0))) ((4 * k) + 0) (bo3 ((4 * i) + 0))) ((4 * i) + 1))) ((4 * k) + 2))) ((4 * k) + 2) ((gu (gu (gu (gu bo3 ((4 * i) + 0) (bo3 ((4 * k) + 0))) ((4 * k) + 0) (bo3 ((4 * i) + 0))) ((4 * i) + 1) ((gu (gu bo3 ((4 * i) + 0) (bo3 ((4 * k) + 0))) ((4 * k) + 0) (bo3 ((4 * i) + 0))) ((4 * k) + 1))) ((4 * k) + 1) ((gu (gu bo3 ((4 * i) + 0) (bo3 ((4 * k) + 0))) ((4 * k) + 0) (bo3 ((4 * i) + 0))) ((4 * i) + 1))) ((4 * i) + 2))) ((4 * i) + 3))) mwn mwo mxo myo mor mco mro mpw mph mrk mrb mrf mfr mfm med map mwh, 14, [(0, gr 60), (1, gi i), (2, gi (k + 1)), (3, gi ((32 * (bo3 ((4 * i) + 1))) + (bo3 (4 * i)))), (4, gi ((32 * (bo3 ((4 * k) + 1))) + (bo3 (4 * k)))), (5, gi 4), (6, gi ((gu (gu (gu (gu (gu (gu bo3 ((4 * i) + 0) (bo3 ((4 * k) + 0))) ((4 * k) + 0) (bo3 ((4 * i) + 0))) ((4 * i) + 1) ((gu (gu bo3 ((4 * i) + 0) (bo3 ((4 * k) + 0))) ((4 * k) + 0) (bo3 ((4 * i) + 0))) ((4 * k) + 1))) ((4 * k) + 1) ((gu (gu bo3 ((4 * i) + 0) (bo3 ((4 * k) + 0))) ((4 * k) + 0) (bo3 ((4 * i) + 0))) ((4 * i) + 1))) ((4 * i) + 2) ((gu (gu (gu (gu bo3 ((4 * i) + 0) (bo3 ((4 * k) + 0))) ((4 * k) + 0) (bo3 ((4 * i) + 0))) ((4 * i) + 1) ((gu (gu bo3 ((4 * i) + 0) (bo3 ((4 * k) + 0))) ((4 * k) + 0) (bo3 ((4 * i) + 0))) ((4 * k) + 1))) ((4 * k) + 1) ((gu (gu bo3 ((4 * i) + 0) (bo3 ((4 * k) + 0))) ((4 * k) + 0) (bo3 ((4 * i) + 0))) ((4 * i) + 1))) ((4 * k) + 2))) ((4 * k) + 2) ((gu (gu (gu (gu bo3 ((4 * i) + 0) (bo3 ((4 * k) + 0))) ((4 * k) + 0) (bo3 ((4 * i) + 0))) ((4 * i) + 1) ((gu (gu bo3 ((4 * i) + 0) (bo3 ((4 * k) + 0))) ((4 * k) + 0) (bo3 ((4 * i) + 0))) ((4 * k) + 1))) ((4 * k) + 1) ((gu (gu bo3 ((4 * i) + 0) (bo3 ((4 * k) + 0))) ((4 * k) + 0) (bo3 ((4 * i) + 0))) ((4 * i) + 1))) ((4 * i) + 2))) ((4 * i) + 3)))], []) rfl trivial ?_
                                refine G.locs [(0, gr 60), (1, gi i), (2, gi (k + 1))] [0, 1, 2] rfl ?_
                                exact ih14 (k + 1) (gu (gu (gu (gu (gu (gu (gu (gu bo3 ((4 * i) + 0) (bo3 ((4 * k) + 0))) ((4 * k) + 0) (bo3 ((4 * i) + 0))) ((4 * i) + 1) ((gu (gu bo3 ((4 * i) + 0) (bo3 ((4 * k) + 0))) ((4 * k) + 0) (bo3 ((4 * i) + 0))) ((4 * k) + 1))) ((4 * k) + 1) ((gu (gu bo3 ((4 * i) + 0) (bo3 ((4 * k) + 0))) ((4 * k) + 0) (bo3 ((4 * i) + 0))) ((4 * i) + 1))) ((4 * i) + 2) ((gu (gu (gu (gu bo3 ((4 * i) + 0) (bo3 ((4 * k) + 0))) ((4 * k) + 0) (bo3 ((4 * i) + 0))) ((4 * i) + 1) ((gu (gu bo3 ((4 * i) + 0) (bo3 ((4 * k) + 0))) ((4 * k) + 0) (bo3 ((4 * i) + 0))) ((4 * k) + 1))) ((4 * k) + 1) ((gu (gu bo3 ((4 * i) + 0) (bo3 ((4 * k) + 0))) ((4 * k) + 0) (bo3 ((4 * i) + 0))) ((4 * i) + 1))) ((4 * k) + 2))) ((4 * k) + 2) ((gu (gu (gu (gu bo3 ((4 * i) + 0) (bo3 ((4 * k) + 0))) ((4 * k) + 0) (bo3 ((4 * i) + 0))) ((4 * i) + 1) ((gu (gu bo3 ((4 * i) + 0) (bo3 ((4 * k) + 0))) ((4 * k) + 0) (bo3 ((4 * i) + 0))) ((4 * k) + 1))) ((4 * k) + 1) ((gu (gu bo3 ((4 * i) + 0) (bo3 ((4 * k) + 0))) ((4 * k) + 0) (bo3 ((4 * i) + 0))) ((4 * i) + 1))) ((4 * i) + 2))) ((4 * i) + 3) ((gu (gu (gu (gu (gu (gu bo3 ((4 * i) + 0) (bo3 ((4 * k) + 0))) ((4 * k) + 0) (bo3 ((4 * i) + 0))) ((4 * i) + 1) ((gu (gu bo3 ((4 * i) + 0) (bo3 ((4 * k) + 0))) ((4 * k) + 0) (bo3 ((4 * i) + 0))) ((4 * k) + 1))) ((4 * k) + 1) ((gu (gu bo3 ((4 * i) + 0) (bo3 ((4 * k) + 0))) ((4 * k) + 0) (bo3 ((4 * i) + 0))) ((4 * i) + 1))) ((4 * i) + 2) ((gu (gu (gu (gu bo3 ((4 * i) + 0) (bo3 ((4 * k) + 0))) ((4 * k) + 0) (bo3 ((4 * i) + 0))) ((4 * i) + 1) ((gu (gu bo3 ((4 * i) + 0) (bo3 ((4 * k) + 0))) ((4 * k) + 0) (bo3 ((4 * i) + 0))) ((4 * k) + 1))) ((4 * k) + 1) ((gu (gu bo3 ((4 * i) + 0) (bo3 ((4 * k) + 0))) ((4 * k) + 0) (bo3 ((4 * i) + 0))) ((4 * i) + 1))) ((4 * k) + 2))) ((4 * k) + 2) ((gu (gu (gu (gu bo3 ((4 * i) + 0) (bo3 ((4 * k) + 0))) ((4 * k) + 0) (bo3 ((4 * i) + 0))) ((4 * i) + 1) ((gu (gu bo3 ((4 * i) + 0) (bo3 ((4 * k) + 0))) ((4 * k) + 0) (bo3 ((4 * i) + 0))) ((4 * k) + 1))) ((4 * k) + 1) ((gu (gu bo3 ((4 * i) + 0) (bo3 ((4 * k) + 0))) ((4 * k) + 0) (bo3 ((4 * i) + 0))) ((4 * i) + 1))) ((4 * i) + 2))) ((4 * k) + 3))) ((4 * k) + 3) ((gu (gu (gu (gu (gu (gu bo3 ((4 * i) + 0) (bo3 ((4 * k) + 0))) ((4 * k) + 0) (bo3 ((4 * i) + 0))) ((4 * i) + 1) ((gu (gu bo3 ((4 * i) + 0) (bo3 ((4 * k) + 0))) ((4 * k) + 0) (bo3 ((4 * i) + 0))) ((4 * k) + 1))) ((4 * k) + 1) ((gu (gu bo3 ((4 * i) + 0) (bo3 ((4 * k) + 0))) ((4 * k) + 0) (bo3 ((4 * i) + 0))) ((4 * i) + 1))) ((4 * i) + 2) ((gu (gu (gu (gu bo3 ((4 * i) + 0) (bo3 ((4 * k) + 0))) ((4 * k) + 0) (bo3 ((4 * i) + 0))) ((4 * i) + 1) ((gu (gu bo3 ((4 * i) + 0) (bo3 ((4 * k) + 0))) ((4 * k) + 0) (bo3 ((4 * i) + 0))) ((4 * k) + 1))) ((4 * k) + 1) ((gu (gu bo3 ((4 * i) + 0) (bo3 ((4 * k) + 0))) ((4 * k) + 0) (bo3 ((4 * i) + 0))) ((4 * i) + 1))) ((4 * k) + 2))) ((4 * k) + 2) ((gu (gu (gu (gu bo3 ((4 * i) + 0) (bo3 ((4 * k) + 0))) ((4 * k) + 0) (bo3 ((4 * i) + 0))) ((4 * i) + 1) ((gu (gu bo3 ((4 * i) + 0) (bo3 ((4 * k) + 0))) ((4 * k) + 0) (bo3 ((4 * i) + 0))) ((4 * k) + 1))) ((4 * k) + 1) ((gu (gu bo3 ((4 * i) + 0) (bo3 ((4 * k) + 0))) ((4 * k) + 0) (bo3 ((4 * i) + 0))) ((4 * i) + 1))) ((4 * i) + 2))) ((4 * i) + 3))) (by omega) (by exact hst _ _ _ hF3 (by omega) (by omega) (by omega) (by omega) (by omega)) (by exact mSo_swap hs3 hi.1 (by omega) (by omega) (by unfold flt mrw; simp only [Int.add_zero]; omega)) (by omega)
                              ·
                                exfalso
                                omega
        exact lp14 _ (i + 1) bo1 (by omega) (by exact hF1) (by exact ⟨hs1.1, fun b k1 k2 k3 => by omega⟩) (Nat.lt_succ_self _)
  exact lp2 _ 0 mbo (by omega) (by exact hF) (by exact ⟨fun a b k1 k2 k3 k4 => by omega, fun b k1 k2 => by omega⟩) (Nat.lt_succ_self _)
