/-- the model's rows are the list's, its gone ones paired -/
def mRow (l : List (Int × Int × Int × Int)) (rs : Int) (ro : Int → Int) : Prop := ∃ R : Int → Int, wrl R l ∧ rs = (l.length : Int) ∧ ∀ q, 0 ≤ q → q < 4 * rs → ro q = wpr l.length R l.length q
def mWv (wn wo xo yo ord : Int → Int) (rs : Int) (ro : Int → Int) : Prop := wOrd (wn 0) (fun j => xo j) (fun j => yo j) (fun j => ord j) ∧ wOrd (wn 1) (fun j => xo (40 + j)) (fun j => yo (40 + j)) (fun j => ord (40 + j) - 40) ∧ ∃ L : Int → Int → Int, wLok (wn 0) (wn 1) (mU wo ord) (mV wo ord) L ∧ mRow (wWk (wn 0) (wn 1) (mU wo ord) ord (fun j => xo (ord j)) (fun j => yo (ord j)) (mV wo ord) (fun j => ord (40 + j) - 40) (fun j => xo (ord (40 + j))) (fun j => yo (ord (40 + j))) L 80 0 0) rs ro
theorem wOrd_c {n : Int} {xs ys o xs' ys' o' : Int → Int} (h : wOrd n xs ys o) (hx : ∀ j, xs' j = xs j) (hy : ∀ j, ys' j = ys j) (ho : ∀ j, 0 ≤ j → j < n → o' j = o j) : wOrd n xs' ys' o' := by
  obtain ⟨z1, z2, z3⟩ := h
  refine ⟨fun j a b => ?_, fun k a b => ?_, fun a b c d e => ?_⟩
  · rw [ho j a b]; exact z1 j a b
  · obtain ⟨j, j0, j1, j2⟩ := z2 k a b
    exact ⟨j, j0, j1, by rw [ho j j0 j1]; exact j2⟩
  · have z4 := z3 a b c d e
    rw [ho a c (by omega), ho b (by omega) e]
    unfold wbf at *
    rw [hx, hx, hy, hy]
    exact z4
theorem wmv4 (R : Int → Int) {k q : Int} (h : k ≠ q) : gu (gu (gu R (4 * k) 2) (4 * k + 3) ((gu R (4 * k) 2) (4 * q + 3))) (4 * q) 0 = wmv R k q := by
  unfold wmv
  rw [show 4 * k = k * 4 + 0 by omega, show 4 * q = q * 4 + 0 by omega, gu_n R 2 (show q * 4 + 0 + 3 ≠ k * 4 + 0 by omega), show k * 4 + 0 + 3 = k * 4 + 3 by omega, show q * 4 + 0 + 3 = q * 4 + 3 by omega]
/-- the pairing of row k, at row q -/
def mPk (c : Nat) (R S : Int → Int) (k q : Int) : Prop := (S = R ∧ (R (k * 4 + 0) = 1 → wfi R (R (k * 4 + 1)) c 0 = wfi R (R (k * 4 + 1)) (c - q).toNat q)) ∨ (S = wp1 c R k ∧ S (k * 4 + 0) ≠ 1)
theorem mPk_end {c : Nat} {R S : Int → Int} {k q : Int} (h : mPk c R S k q) (he : (c : Int) ≤ q ∨ ¬ S (4 * k) = 1) : S = wp1 c R k := by
  rcases h with ⟨rfl, h2⟩ | ⟨h1, _⟩
  · unfold wp1
    by_cases e : S (k * 4 + 0) = 1
    · rw [if_pos e, h2 e]
      rcases he with he | he
      · rw [show ((c : Int) - q).toNat = 0 by omega]
        unfold wfi
        rw [if_pos (by omega)]
      · rw [show 4 * k = k * 4 + 0 by omega] at he
        exact absurd e he
    · rw [if_neg e]
  · exact h1
theorem mPk_skip {c : Nat} {R S : Int → Int} {k q : Int} (h : mPk c R S k q) (q1 : q < c) (h1 : S (4 * k) = 1) (hn : ¬ (S (4 * q) = 3 ∧ S (4 * q + 1) = S (4 * k + 1))) : mPk c R S k (q + 1) := by
  rcases h with ⟨rfl, h2⟩ | ⟨_, h2⟩
  · refine Or.inl ⟨rfl, fun e => ?_⟩
    rw [h2 e]
    refine wfi_s q1 (fun h9 => hn ?_)
    rw [show 4 * q = q * 4 + 0 by omega, show 4 * k = k * 4 + 0 by omega, show q * 4 + 0 + 1 = q * 4 + 1 by omega, show k * 4 + 0 + 1 = k * 4 + 1 by omega]
    exact h9
  · rw [show 4 * k = k * 4 + 0 by omega] at h1
    exact absurd h1 h2
theorem mPk_found {c : Nat} {R S : Int → Int} {k q : Int} (h : mPk c R S k q) (q0 : 0 ≤ q) (q1 : q < c) (h1 : S (4 * k) = 1) (hf : S (4 * q) = 3 ∧ S (4 * q + 1) = S (4 * k + 1)) : mPk c R (gu (gu (gu S (4 * k) 2) (4 * k + 3) ((gu S (4 * k) 2) (4 * q + 3))) (4 * q) 0) k (q + 1) := by
  have hkq : k ≠ q := fun e => by
    rw [e] at h1
    omega
  rw [wmv4 S hkq]
  rw [show 4 * q = q * 4 + 0 by omega, show 4 * k = k * 4 + 0 by omega, show q * 4 + 0 + 1 = q * 4 + 1 by omega, show k * 4 + 0 + 1 = k * 4 + 1 by omega] at hf
  rw [show 4 * k = k * 4 + 0 by omega] at h1
  rcases h with ⟨rfl, h2⟩ | ⟨_, h2⟩
  · refine Or.inr ⟨?_, ?_⟩
    · unfold wp1
      rw [if_pos h1, h2 h1, wfi_f q1 hf, if_neg (by omega)]
    · unfold wmv
      rw [gu_n _ _ (by omega), gu_n _ _ (by omega), gu_s]
      omega
  · exact absurd h1 h2
set_option maxHeartbeats 4000000 in
set_option maxRecDepth 100000 in
theorem c_X8_compare (l : Launch) (D : va_G) (cA : Nat → ClassId) (W : Nat) (H : Nat) (mth : Int) (mbd : Int) (mne : Int) (mnw : Int) (mmn : Int) (mbx : Int) (man : Int) (mrs : Int) (mrl : Int) (mfl : Int) (mpt : Int → Int) (mdf : Int → Int) (mlb : Int → Int) (mbo : Int → Int) (mwn : Int → Int) (mwo : Int → Int) (mxo : Int → Int) (myo : Int → Int) (mor : Int → Int) (mco : Int → Int) (mro : Int → Int) (mpw : Int → Int) (mph : Int → Int) (mrk : Int → Int) (mrb : Int → Int) (mrf : Int → Int) (mfr : Int → Int) (mfm : Int → Int) (med : Int → Int) (map : Int → Int) (mwh : Int → Int) (hwn : (0 ≤ mwn 0 ∧ mwn 0 ≤ 40) ∧ 0 ≤ mwn 1 ∧ mwn 1 ≤ 40) (hwo : ∀ q : Int, inR (mwo q)) (hxy : ∀ q : Int, inR (mxo q) ∧ inR (myo q)) (hro : ∀ q : Int, inR (mro q)) (han : man = 0 ∨ man = 1) (hrs : 0 ≤ mrs ∧ mrs ≤ 80) (hval : man = 0 → mWv mwn mwo mxo myo mor mrs mro) :
    gC l D cA yX8_compare mX8_compare none 0 0 [gr 60] (moW W H mth mbd mne mnw mmn mbx man mrs mrl mfl mpt mdf mlb mbo mwn mwo mxo myo mor mco mro mpw mph mrk mrb mrf mfr mfm med map mwh) (fun r9 w9 => ∃ (or2 : Int → Int) (co2 : Int → Int) (rs2 : Int) (ro2 : Int → Int), r9 = none ∧ w9 = moW W H mth mbd mne mnw mmn mbx 0 rs2 mrl mfl mpt mdf mlb mbo mwn mwo mxo myo or2 co2 ro2 mpw mph mrk mrb mrf mfr mfm med map mwh ∧ (mWv mwn mwo mxo myo or2 rs2 ro2) ∧ (∀ q : Int, inR (ro2 q)) ∧ (0 ≤ rs2 ∧ rs2 ≤ 80)) := by
  refine gC_of rfl kX8_compare rfl rfl (Nat.le_of_ble_eq_true rfl) (fun X ad hX hE => ?_)
  refine G.go hX 2 (moW W H mth mbd mne mnw mmn mbx man mrs mrl mfl mpt mdf mlb mbo mwn mwo mxo myo mor mco mro mpw mph mrk mrb mrf mfr mfm med map mwh, 4, [(0, gr 60)], [gi man]) rfl trivial ?_
  refine g_if_ne hX 8 rfl rfl ⟨by omega, by omega⟩ (fun b4 => ?_) (fun b4 => ?_)
  ·
    refine G.go hX 5 (moW W H mth mbd mne mnw mmn mbx 0 mrs mrl mfl mpt mdf mlb mbo mwn mwo mxo myo mor mco mro mpw mph mrk mrb mrf mfr mfm med map mwh, 15, [(0, gr 60)], [gi 0, gr 60]) rfl ?_ ?_
    · refine ⟨?_, trivial⟩
      · omega
    refine G.callV (av := [gi 0]) (o := 60) (st := []) hX rfl (fun l D cA => c_X8_sortWords l D cA W H mth mbd mne mnw mmn mbx 0 mrs mrl mfl mpt mdf mlb mbo mwn mwo mxo myo mor mco mro mpw mph mrk mrb mrf mfr mfm med map mwh 0 (Or.inl rfl) hwn.1 (by first | assumption | omega)) (by decide +kernel) aX8_sortWords rfl rfl rfl ⟨rfl, rfl⟩ (by decide) (Nat.le_of_ble_eq_true rfl) [0, 1, 2, 3, 4, 5, 6, 7, 8, 9, 10, 11, 12, 13, 14, 15, 16, 17, 18, 19, 20, 21] [] [] rfl rfl rfl (fun r w' hp => ?_)
    obtain ⟨or5, rfl, rfl, ho5, hO5⟩ := hp
    show G X mX8_compare ad 0 0 (moW W H mth mbd mne mnw mmn mbx 0 mrs mrl mfl mpt mdf mlb mbo mwn mwo mxo myo or5 mco mro mpw mph mrk mrb mrf mfr mfm med map mwh, 18, [(0, gr 60)], [])
    refine G.go hX 2 (moW W H mth mbd mne mnw mmn mbx 0 mrs mrl mfl mpt mdf mlb mbo mwn mwo mxo myo or5 mco mro mpw mph mrk mrb mrf mfr mfm med map mwh, 20, [(0, gr 60)], [gi 1, gr 60]) rfl trivial ?_
    refine G.callV (av := [gi 1]) (o := 60) (st := []) hX rfl (fun l D cA => c_X8_sortWords l D cA W H mth mbd mne mnw mmn mbx 0 mrs mrl mfl mpt mdf mlb mbo mwn mwo mxo myo or5 mco mro mpw mph mrk mrb mrf mfr mfm med map mwh 1 (Or.inr rfl) hwn.2 (by first | assumption | omega)) (by decide +kernel) aX8_sortWords rfl rfl rfl ⟨rfl, rfl⟩ (by decide) (Nat.le_of_ble_eq_true rfl) [0, 1, 2, 3, 4, 5, 6, 7, 8, 9, 10, 11, 12, 13, 14, 15, 16, 17, 18, 19, 20, 21] [] [] rfl rfl rfl (fun r w' hp => ?_)
    obtain ⟨or6, rfl, rfl, ho6, hO6⟩ := hp
    show G X mX8_compare ad 0 0 (moW W H mth mbd mne mnw mmn mbx 0 mrs mrl mfl mpt mdf mlb mbo mwn mwo mxo myo or6 mco mro mpw mph mrk mrb mrf mfr mfm med map mwh, 23, [(0, gr 60)], [])
    have hO0 : wOrd (mwn 0) (fun j => mxo j) (fun j => myo j) (fun j => or6 j) := wOrd_c hO5 (fun j => by simp) (fun j => by simp) (fun j a b => by (show or6 j = or5 (40 * 0 + j) - 40 * 0; rw [ho6 j (by omega)]; simp))
    have hO1 : wOrd (mwn 1) (fun j => mxo (40 + j)) (fun j => myo (40 + j)) (fun j => or6 (40 + j) - 40) := wOrd_c hO6 (fun j => by simp) (fun j => by simp) (fun j a b => by simp)
    have hor0 : ∀ j, 0 ≤ j → j < mwn 0 → 0 ≤ or6 j ∧ or6 j < 40 := fun j a b => by (have h9 : 0 ≤ or6 j ∧ or6 j < mwn 0 := hO0.1 j a b; omega)
    have hor1 : ∀ j, 0 ≤ j → j < mwn 1 → 40 ≤ or6 (40 + j) ∧ or6 (40 + j) < 80 := fun j a b => by (have h9 : 0 ≤ or6 (40 + j) - 40 ∧ or6 (40 + j) - 40 < mwn 1 := hO1.1 j a b; omega)
    refine G.go hX 1 (moW W H mth mbd mne mnw mmn mbx 0 mrs mrl mfl mpt mdf mlb mbo mwn mwo mxo myo or6 mco mro mpw mph mrk mrb mrf mfr mfm med map mwh, 24, [(0, gr 60)], [gr 60]) rfl trivial ?_
    refine G.callV (av := []) (o := 60) (st := []) hX rfl (fun l D cA => c_X8_fillCommon l D cA W H mth mbd mne mnw mmn mbx 0 mrs mrl mfl mpt mdf mlb mbo mwn mwo mxo myo or6 mco mro mpw mph mrk mrb mrf mfr mfm med map mwh (by first | assumption | omega) (by first | assumption | omega) (by first | assumption | omega) (by first | assumption | omega)) (by decide +kernel) aX8_fillCommon rfl rfl rfl ⟨rfl, rfl⟩ (by decide) (Nat.le_of_ble_eq_true rfl) [0, 1, 2, 3, 4, 5, 6, 7, 8, 9, 10, 11, 12, 13, 14, 15, 16, 17, 18, 19, 20, 21] [] [] rfl rfl rfl (fun r w' hp => ?_)
    obtain ⟨co5, rfl, rfl, hL5⟩ := hp
    show G X mX8_compare ad 0 0 (moW W H mth mbd mne mnw mmn mbx 0 mrs mrl mfl mpt mdf mlb mbo mwn mwo mxo myo or6 co5 mro mpw mph mrk mrb mrf mfr mfm med map mwh, 27, [(0, gr 60)], [])
    refine G.go hX 7 (moW W H mth mbd mne mnw mmn mbx 0 0 mrl mfl mpt mdf mlb mbo mwn mwo mxo myo or6 co5 mro mpw mph mrk mrb mrf mfr mfm med map mwh, 36, [(0, gr 60), (1, gi 0), (2, gi 0)], []) rfl trivial ?_
    have lp36 : ∀ (n : Nat) (i : Int) (j : Int) (st : Int) (rs1 : Int) (ro1 : Int → Int) (l1 : List (Int × Int × Int × Int)), (((0 ≤ i ∧ i ≤ mwn 0) ∧ 0 ≤ j ∧ j ≤ mwn 1) ∧ 0 ≤ rs1 ∧ rs1 ≤ i + j) → (0 ≤ st ∧ st ≤ 80 ∧ mwn 0 - i + (mwn 1 - j) ≤ 80 - st) → (rs1 = (l1.length : Int)) → (wrl ro1 l1) → (l1 ++ wWk (mwn 0) (mwn 1) (mU mwo or6) or6 (fun j => mxo (or6 j)) (fun j => myo (or6 j)) (mV mwo or6) (fun j => or6 (40 + j) - 40) (fun j => mxo (or6 (40 + j))) (fun j => myo (or6 (40 + j))) (fun a b => co5 (a * 41 + b)) (80 - st).toNat i j = wWk (mwn 0) (mwn 1) (mU mwo or6) or6 (fun j => mxo (or6 j)) (fun j => myo (or6 j)) (mV mwo or6) (fun j => or6 (40 + j) - 40) (fun j => mxo (or6 (40 + j))) (fun j => myo (or6 (40 + j))) (fun a b => co5 (a * 41 + b)) 80 0 0) → (∀ q : Int, inR (ro1 q)) → (mwn 0 - i + (mwn 1 - j)).toNat < n → G X mX8_compare ad 0 0 (moW W H mth mbd mne mnw mmn mbx 0 rs1 mrl mfl mpt mdf mlb mbo mwn mwo mxo myo or6 co5 ro1 mpw mph mrk mrb mrf mfr mfm med map mwh, 36, [(0, gr 60), (1, gi i), (2, gi j)], []) := by
      intro n
      induction n with
      | zero => intro i j st rs1 ro1 l1 hab hst hc1 hr1 hw1 hi1 hm9; exact absurd hm9 (Nat.not_lt_zero _)
      | succ n ih36 =>
        intro i j st rs1 ro1 l1 hab hst hc1 hr1 hw1 hi1 hm36
        refine G.go hX 5 (moW W H mth mbd mne mnw mmn mbx 0 rs1 mrl mfl mpt mdf mlb mbo mwn mwo mxo myo or6 co5 ro1 mpw mph mrk mrb mrf mfr mfm med map mwh, 43, [(0, gr 60), (1, gi i), (2, gi j)], [gi (mwn 0), gi i]) rfl ?_ ?_
        · refine ⟨?_, trivial⟩
          · omega
        refine g_icmp_lt hX 56 rfl rfl ⟨by omega, by omega⟩ ⟨by omega, by omega⟩ (fun b43 => ?_) (fun b43 => ?_)
        ·
          have hfu : (80 - st).toNat = (80 - (st + 1)).toNat + 1 := by omega
          refine G.go hX 5 (moW W H mth mbd mne mnw mmn mbx 0 rs1 mrl mfl mpt mdf mlb mbo mwn mwo mxo myo or6 co5 ro1 mpw mph mrk mrb mrf mfr mfm med map mwh, 63, [(0, gr 60), (1, gi i), (2, gi j)], [gi (mwn 0), gi i]) rfl ?_ ?_
          · refine ⟨?_, trivial⟩
            · omega
          refine g_icmp_ge hX 75 rfl rfl ⟨by omega, by omega⟩ ⟨by omega, by omega⟩ (fun b63 => ?_) (fun b63 => ?_)
          ·
            refine G.go hX 7 (moW W H mth mbd mne mnw mmn mbx 0 rs1 mrl mfl mpt mdf mlb mbo mwn mwo mxo myo or6 co5 ro1 mpw mph mrk mrb mrf mfr mfm med map mwh, 84, [(0, gr 60), (1, gi i), (2, gi j), (3, gi (-1))], [gi (mwn 1), gi j]) rfl ?_ ?_
            · refine ⟨?_, trivial⟩
              · omega
            refine g_icmp_ge hX 96 rfl rfl ⟨by omega, by omega⟩ ⟨by omega, by omega⟩ (fun b84 => ?_) (fun b84 => ?_)
            ·
              exfalso
              omega
            ·
              have e1 := hor1 j (by omega) (by omega)
              refine G.go hX 3 (moW W H mth mbd mne mnw mmn mbx 0 rs1 mrl mfl mpt mdf mlb mbo mwn mwo mxo myo or6 co5 ro1 mpw mph mrk mrb mrf mfr mfm med map mwh, 90, [(0, gr 60), (1, gi i), (2, gi j), (3, gi (-1))], [gi j, gi 1, gr 60]) rfl trivial ?_
              refine G.callV (av := [gi 1, gi j]) (o := 60) (st := []) hX rfl (fun l D cA => c_X8_at l D cA W H mth mbd mne mnw mmn mbx 0 rs1 mrl mfl mpt mdf mlb mbo mwn mwo mxo myo or6 co5 ro1 mpw mph mrk mrb mrf mfr mfm med map mwh 1 j (by first | assumption | omega)) (by decide +kernel) aX8_at rfl rfl rfl ⟨rfl, rfl⟩ (by decide) (Nat.le_of_ble_eq_true rfl) [0, 1, 2, 3, 4, 5, 6, 7, 8, 9, 10, 11, 12, 13, 14, 15, 16, 17, 18, 19, 20, 21] [] [] rfl rfl rfl (fun r w' hp => ?_)
              obtain ⟨rfl, rfl⟩ := hp
              rw [show (40 * 1 + j : Int) = 40 + j by omega]
              show G X mX8_compare ad 0 0 (moW W H mth mbd mne mnw mmn mbx 0 rs1 mrl mfl mpt mdf mlb mbo mwn mwo mxo myo or6 co5 ro1 mpw mph mrk mrb mrf mfr mfm med map mwh, 93, [(0, gr 60), (1, gi i), (2, gi j), (3, gi (-1))], [gi (or6 (40 + j))])
              refine G.go hX 10 (moW W H mth mbd mne mnw mmn mbx 0 rs1 mrl mfl mpt mdf mlb mbo mwn mwo mxo myo or6 co5 ro1 mpw mph mrk mrb mrf mfr mfm med map mwh, 109, [(0, gr 60), (1, gi i), (2, gi j), (3, gi (-1)), (4, gi (or6 (40 + j))), (5, gi ((41 * i) + j))], [gi (-1), gi (-1)]) rfl trivial ?_
              refine g_icmp_eq hX 192 rfl rfl ⟨by omega, by omega⟩ ⟨by omega, by omega⟩ (fun b109 => ?_) (fun b109 => ?_)
              ·
                refine G.go hX 2 (moW W H mth mbd mne mnw mmn mbx 0 rs1 mrl mfl mpt mdf mlb mbo mwn mwo mxo myo or6 co5 ro1 mpw mph mrk mrb mrf mfr mfm med map mwh, 195, [(0, gr 60), (1, gi i), (2, gi j), (3, gi (-1)), (4, gi (or6 (40 + j))), (5, gi ((41 * i) + j))], [gi (-1), gi (or6 (40 + j))]) rfl trivial ?_
                refine g_icmp_eq hX 225 rfl rfl ⟨by omega, by omega⟩ ⟨by omega, by omega⟩ (fun b195 => ?_) (fun b195 => ?_)
                ·
                  exfalso
                  omega
                ·
                  refine G.go hX 2 (moW W H mth mbd mne mnw mmn mbx 0 rs1 mrl mfl mpt mdf mlb mbo mwn mwo mxo myo or6 co5 ro1 mpw mph mrk mrb mrf mfr mfm med map mwh, 200, [(0, gr 60), (1, gi i), (2, gi j), (3, gi (-1)), (4, gi (or6 (40 + j))), (5, gi ((41 * i) + j))], [gi (-1), gi (-1)]) rfl trivial ?_
                  refine g_icmp_eq hX 244 rfl rfl ⟨by omega, by omega⟩ ⟨by omega, by omega⟩ (fun b200 => ?_) (fun b200 => ?_)
                  ·
                    refine G.go hX 10 (moW W H mth mbd mne mnw mmn mbx 0 rs1 mrl mfl mpt mdf mlb mbo mwn mwo mxo myo or6 co5 ro1 mpw mph mrk mrb mrf mfr mfm med map mwh, 259, [(0, gr 60), (1, gi i), (2, gi j), (3, gi (-1)), (4, gi (or6 (40 + j))), (5, gi ((41 * i) + j))], [gi ((or6 (40 + j)) - 40), gi (-1), gi (mwo (or6 (40 + j))), gi 3, gr 60]) rfl ?_ ?_
                    · refine ⟨?_, trivial⟩
                      · omega
                    refine G.callV (av := [gi 3, gi (mwo (or6 (40 + j))), gi (-1), gi ((or6 (40 + j)) - 40)]) (o := 60) (st := []) hX rfl (fun l D cA => c_X8_addRow l D cA W H mth mbd mne mnw mmn mbx 0 rs1 mrl mfl mpt mdf mlb mbo mwn mwo mxo myo or6 co5 ro1 mpw mph mrk mrb mrf mfr mfm med map mwh 3 (mwo (or6 (40 + j))) (-1) ((or6 (40 + j)) - 40) (by first | assumption | omega)) (by decide +kernel) aX8_addRow rfl rfl rfl ⟨rfl, rfl⟩ (by decide) (Nat.le_of_ble_eq_true rfl) [0, 1, 2, 3, 4, 5, 6, 7, 8, 9, 10, 11, 12, 13, 14, 15, 16, 17, 18, 19, 20, 21] [] [] rfl rfl rfl (fun r w' hp => ?_)
                    obtain ⟨rfl, rfl⟩ := hp
                    show G X mX8_compare ad 0 0 (moW W H mth mbd mne mnw mmn mbx 0 (rs1 + 1) mrl mfl mpt mdf mlb mbo mwn mwo mxo myo or6 co5 (wap ro1 rs1 3 (mwo (or6 (40 + j))) (-1) ((or6 (40 + j)) - 40)) mpw mph mrk mrb mrf mfr mfm med map mwh, 262, [(0, gr 60), (1, gi i), (2, gi j), (3, gi (-1)), (4, gi (or6 (40 + j))), (5, gi ((41 * i) + j))], [])
                    refine G.go hX 2 (moW W H mth mbd mne mnw mmn mbx 0 (rs1 + 1) mrl mfl mpt mdf mlb mbo mwn mwo mxo myo or6 co5 (wap ro1 rs1 3 (mwo (or6 (40 + j))) (-1) ((or6 (40 + j)) - 40)) mpw mph mrk mrb mrf mfr mfm med map mwh, 36, [(0, gr 60), (1, gi i), (2, gi (j + 1)), (3, gi (-1)), (4, gi (or6 (40 + j))), (5, gi ((41 * i) + j))], []) rfl trivial ?_
                    refine G.locs [(0, gr 60), (1, gi i), (2, gi (j + 1))] [0, 1, 2] rfl ?_
                    exact ih36 i (j + 1) (st + 1) (rs1 + 1) (wap ro1 rs1 3 (mwo (or6 (40 + j))) (-1) ((or6 (40 + j)) - 40)) (l1 ++ [(3, mwo (or6 (40 + j)), -1, or6 (40 + j) - 40)]) (by omega) (by omega) (by rw [List.length_append, hc1]; simp) (by exact wrl_app hr1 hc1) (by rw [hfu, wWk_new _ (by first | (intro h9; exact b131 h9.2.2) | omega) (by first | omega | (intro h9; rw [g1, g2] at b222; omega)) (by omega)] at hw1; rw [List.append_assoc]; exact hw1) (by exact wap_r hi1 ⟨by omega, by omega⟩ (hwo _) ⟨by omega, by omega⟩ ⟨by omega, by omega⟩) (by omega)
                  ·
                    exfalso
                    omega
              ·
                exfalso
                omega
          ·
            have e0 := hor0 i (by omega) (by omega)
            refine G.go hX 3 (moW W H mth mbd mne mnw mmn mbx 0 rs1 mrl mfl mpt mdf mlb mbo mwn mwo mxo myo or6 co5 ro1 mpw mph mrk mrb mrf mfr mfm med map mwh, 69, [(0, gr 60), (1, gi i), (2, gi j)], [gi i, gi 0, gr 60]) rfl trivial ?_
            refine G.callV (av := [gi 0, gi i]) (o := 60) (st := []) hX rfl (fun l D cA => c_X8_at l D cA W H mth mbd mne mnw mmn mbx 0 rs1 mrl mfl mpt mdf mlb mbo mwn mwo mxo myo or6 co5 ro1 mpw mph mrk mrb mrf mfr mfm med map mwh 0 i (by first | assumption | omega)) (by decide +kernel) aX8_at rfl rfl rfl ⟨rfl, rfl⟩ (by decide) (Nat.le_of_ble_eq_true rfl) [0, 1, 2, 3, 4, 5, 6, 7, 8, 9, 10, 11, 12, 13, 14, 15, 16, 17, 18, 19, 20, 21] [] [] rfl rfl rfl (fun r w' hp => ?_)
            obtain ⟨rfl, rfl⟩ := hp
            rw [show (40 * 0 + i : Int) = i by omega]
            show G X mX8_compare ad 0 0 (moW W H mth mbd mne mnw mmn mbx 0 rs1 mrl mfl mpt mdf mlb mbo mwn mwo mxo myo or6 co5 ro1 mpw mph mrk mrb mrf mfr mfm med map mwh, 72, [(0, gr 60), (1, gi i), (2, gi j)], [gi (or6 (i))])
            refine G.go hX 7 (moW W H mth mbd mne mnw mmn mbx 0 rs1 mrl mfl mpt mdf mlb mbo mwn mwo mxo myo or6 co5 ro1 mpw mph mrk mrb mrf mfr mfm med map mwh, 84, [(0, gr 60), (1, gi i), (2, gi j), (3, gi (or6 (i)))], [gi (mwn 1), gi j]) rfl ?_ ?_
            · refine ⟨?_, trivial⟩
              · omega
            refine g_icmp_ge hX 96 rfl rfl ⟨by omega, by omega⟩ ⟨by omega, by omega⟩ (fun b84 => ?_) (fun b84 => ?_)
            ·
              refine G.go hX 10 (moW W H mth mbd mne mnw mmn mbx 0 rs1 mrl mfl mpt mdf mlb mbo mwn mwo mxo myo or6 co5 ro1 mpw mph mrk mrb mrf mfr mfm med map mwh, 109, [(0, gr 60), (1, gi i), (2, gi j), (3, gi (or6 (i))), (4, gi (-1)), (5, gi ((41 * i) + j))], [gi (-1), gi (or6 (i))]) rfl trivial ?_
              refine g_icmp_eq hX 192 rfl rfl ⟨by omega, by omega⟩ ⟨by omega, by omega⟩ (fun b109 => ?_) (fun b109 => ?_)
              ·
                refine G.go hX 2 (moW W H mth mbd mne mnw mmn mbx 0 rs1 mrl mfl mpt mdf mlb mbo mwn mwo mxo myo or6 co5 ro1 mpw mph mrk mrb mrf mfr mfm med map mwh, 195, [(0, gr 60), (1, gi i), (2, gi j), (3, gi (or6 (i))), (4, gi (-1)), (5, gi ((41 * i) + j))], [gi (-1), gi (-1)]) rfl trivial ?_
                refine g_icmp_eq hX 225 rfl rfl ⟨by omega, by omega⟩ ⟨by omega, by omega⟩ (fun b195 => ?_) (fun b195 => ?_)
                ·
                  refine G.go hX 8 (moW W H mth mbd mne mnw mmn mbx 0 rs1 mrl mfl mpt mdf mlb mbo mwn mwo mxo myo or6 co5 ro1 mpw mph mrk mrb mrf mfr mfm med map mwh, 235, [(0, gr 60), (1, gi i), (2, gi j), (3, gi (or6 (i))), (4, gi (-1)), (5, gi ((41 * i) + j))], [gi (-1), gi (or6 (i)), gi (mwo (or6 (i))), gi 1, gr 60]) rfl ?_ ?_
                  · refine ⟨?_, trivial⟩
                    · omega
                  refine G.callV (av := [gi 1, gi (mwo (or6 (i))), gi (or6 (i)), gi (-1)]) (o := 60) (st := []) hX rfl (fun l D cA => c_X8_addRow l D cA W H mth mbd mne mnw mmn mbx 0 rs1 mrl mfl mpt mdf mlb mbo mwn mwo mxo myo or6 co5 ro1 mpw mph mrk mrb mrf mfr mfm med map mwh 1 (mwo (or6 (i))) (or6 (i)) (-1) (by first | assumption | omega)) (by decide +kernel) aX8_addRow rfl rfl rfl ⟨rfl, rfl⟩ (by decide) (Nat.le_of_ble_eq_true rfl) [0, 1, 2, 3, 4, 5, 6, 7, 8, 9, 10, 11, 12, 13, 14, 15, 16, 17, 18, 19, 20, 21] [] [] rfl rfl rfl (fun r w' hp => ?_)
                  obtain ⟨rfl, rfl⟩ := hp
                  show G X mX8_compare ad 0 0 (moW W H mth mbd mne mnw mmn mbx 0 (rs1 + 1) mrl mfl mpt mdf mlb mbo mwn mwo mxo myo or6 co5 (wap ro1 rs1 1 (mwo (or6 (i))) (or6 (i)) (-1)) mpw mph mrk mrb mrf mfr mfm med map mwh, 238, [(0, gr 60), (1, gi i), (2, gi j), (3, gi (or6 (i))), (4, gi (-1)), (5, gi ((41 * i) + j))], [])
                  refine G.go hX 3 (moW W H mth mbd mne mnw mmn mbx 0 (rs1 + 1) mrl mfl mpt mdf mlb mbo mwn mwo mxo myo or6 co5 (wap ro1 rs1 1 (mwo (or6 (i))) (or6 (i)) (-1)) mpw mph mrk mrb mrf mfr mfm med map mwh, 36, [(0, gr 60), (1, gi (i + 1)), (2, gi j), (3, gi (or6 (i))), (4, gi (-1)), (5, gi ((41 * i) + j))], []) rfl trivial ?_
                  refine G.locs [(0, gr 60), (1, gi (i + 1)), (2, gi j)] [0, 1, 2] rfl ?_
                  exact ih36 (i + 1) j (st + 1) (rs1 + 1) (wap ro1 rs1 1 (mwo (or6 (i))) (or6 (i)) (-1)) (l1 ++ [(1, mwo (or6 i), or6 i, -1)]) (by omega) (by omega) (by rw [List.length_append, hc1]; simp) (by exact wrl_app hr1 hc1) (by rw [hfu, wWk_gone _ (by first | (intro h9; exact b131 h9.2.2) | omega) (by first | (refine ⟨by omega, Or.inl (by omega)⟩) | (refine ⟨by omega, Or.inr ?_⟩; rw [g1, g2] at b222; omega))] at hw1; rw [List.append_assoc]; exact hw1) (by exact wap_r hi1 ⟨by omega, by omega⟩ (hwo _) ⟨by omega, by omega⟩ ⟨by omega, by omega⟩) (by omega)
                ·
                  exfalso
                  omega
              ·
                refine G.go hX 2 (moW W H mth mbd mne mnw mmn mbx 0 rs1 mrl mfl mpt mdf mlb mbo mwn mwo mxo myo or6 co5 ro1 mpw mph mrk mrb mrf mfr mfm med map mwh, 115, [(0, gr 60), (1, gi i), (2, gi j), (3, gi (or6 (i))), (4, gi (-1)), (5, gi ((41 * i) + j))], [gi (-1), gi (-1)]) rfl trivial ?_
                refine g_icmp_eq hX 192 rfl rfl ⟨by omega, by omega⟩ ⟨by omega, by omega⟩ (fun b115 => ?_) (fun b115 => ?_)
                ·
                  refine G.go hX 2 (moW W H mth mbd mne mnw mmn mbx 0 rs1 mrl mfl mpt mdf mlb mbo mwn mwo mxo myo or6 co5 ro1 mpw mph mrk mrb mrf mfr mfm med map mwh, 195, [(0, gr 60), (1, gi i), (2, gi j), (3, gi (or6 (i))), (4, gi (-1)), (5, gi ((41 * i) + j))], [gi (-1), gi (-1)]) rfl trivial ?_
                  refine g_icmp_eq hX 225 rfl rfl ⟨by omega, by omega⟩ ⟨by omega, by omega⟩ (fun b195 => ?_) (fun b195 => ?_)
                  ·
                    refine G.go hX 8 (moW W H mth mbd mne mnw mmn mbx 0 rs1 mrl mfl mpt mdf mlb mbo mwn mwo mxo myo or6 co5 ro1 mpw mph mrk mrb mrf mfr mfm med map mwh, 235, [(0, gr 60), (1, gi i), (2, gi j), (3, gi (or6 (i))), (4, gi (-1)), (5, gi ((41 * i) + j))], [gi (-1), gi (or6 (i)), gi (mwo (or6 (i))), gi 1, gr 60]) rfl ?_ ?_
                    · refine ⟨?_, trivial⟩
                      · omega
                    refine G.callV (av := [gi 1, gi (mwo (or6 (i))), gi (or6 (i)), gi (-1)]) (o := 60) (st := []) hX rfl (fun l D cA => c_X8_addRow l D cA W H mth mbd mne mnw mmn mbx 0 rs1 mrl mfl mpt mdf mlb mbo mwn mwo mxo myo or6 co5 ro1 mpw mph mrk mrb mrf mfr mfm med map mwh 1 (mwo (or6 (i))) (or6 (i)) (-1) (by first | assumption | omega)) (by decide +kernel) aX8_addRow rfl rfl rfl ⟨rfl, rfl⟩ (by decide) (Nat.le_of_ble_eq_true rfl) [0, 1, 2, 3, 4, 5, 6, 7, 8, 9, 10, 11, 12, 13, 14, 15, 16, 17, 18, 19, 20, 21] [] [] rfl rfl rfl (fun r w' hp => ?_)
                    obtain ⟨rfl, rfl⟩ := hp
                    show G X mX8_compare ad 0 0 (moW W H mth mbd mne mnw mmn mbx 0 (rs1 + 1) mrl mfl mpt mdf mlb mbo mwn mwo mxo myo or6 co5 (wap ro1 rs1 1 (mwo (or6 (i))) (or6 (i)) (-1)) mpw mph mrk mrb mrf mfr mfm med map mwh, 238, [(0, gr 60), (1, gi i), (2, gi j), (3, gi (or6 (i))), (4, gi (-1)), (5, gi ((41 * i) + j))], [])
                    refine G.go hX 3 (moW W H mth mbd mne mnw mmn mbx 0 (rs1 + 1) mrl mfl mpt mdf mlb mbo mwn mwo mxo myo or6 co5 (wap ro1 rs1 1 (mwo (or6 (i))) (or6 (i)) (-1)) mpw mph mrk mrb mrf mfr mfm med map mwh, 36, [(0, gr 60), (1, gi (i + 1)), (2, gi j), (3, gi (or6 (i))), (4, gi (-1)), (5, gi ((41 * i) + j))], []) rfl trivial ?_
                    refine G.locs [(0, gr 60), (1, gi (i + 1)), (2, gi j)] [0, 1, 2] rfl ?_
                    exact ih36 (i + 1) j (st + 1) (rs1 + 1) (wap ro1 rs1 1 (mwo (or6 (i))) (or6 (i)) (-1)) (l1 ++ [(1, mwo (or6 i), or6 i, -1)]) (by omega) (by omega) (by rw [List.length_append, hc1]; simp) (by exact wrl_app hr1 hc1) (by rw [hfu, wWk_gone _ (by first | (intro h9; exact b131 h9.2.2) | omega) (by first | (refine ⟨by omega, Or.inl (by omega)⟩) | (refine ⟨by omega, Or.inr ?_⟩; rw [g1, g2] at b222; omega))] at hw1; rw [List.append_assoc]; exact hw1) (by exact wap_r hi1 ⟨by omega, by omega⟩ (hwo _) ⟨by omega, by omega⟩ ⟨by omega, by omega⟩) (by omega)
                  ·
                    exfalso
                    omega
                ·
                  exfalso
                  omega
            ·
              have e1 := hor1 j (by omega) (by omega)
              refine G.go hX 3 (moW W H mth mbd mne mnw mmn mbx 0 rs1 mrl mfl mpt mdf mlb mbo mwn mwo mxo myo or6 co5 ro1 mpw mph mrk mrb mrf mfr mfm med map mwh, 90, [(0, gr 60), (1, gi i), (2, gi j), (3, gi (or6 (i)))], [gi j, gi 1, gr 60]) rfl trivial ?_
              refine G.callV (av := [gi 1, gi j]) (o := 60) (st := []) hX rfl (fun l D cA => c_X8_at l D cA W H mth mbd mne mnw mmn mbx 0 rs1 mrl mfl mpt mdf mlb mbo mwn mwo mxo myo or6 co5 ro1 mpw mph mrk mrb mrf mfr mfm med map mwh 1 j (by first | assumption | omega)) (by decide +kernel) aX8_at rfl rfl rfl ⟨rfl, rfl⟩ (by decide) (Nat.le_of_ble_eq_true rfl) [0, 1, 2, 3, 4, 5, 6, 7, 8, 9, 10, 11, 12, 13, 14, 15, 16, 17, 18, 19, 20, 21] [] [] rfl rfl rfl (fun r w' hp => ?_)
              obtain ⟨rfl, rfl⟩ := hp
              rw [show (40 * 1 + j : Int) = 40 + j by omega]
              show G X mX8_compare ad 0 0 (moW W H mth mbd mne mnw mmn mbx 0 rs1 mrl mfl mpt mdf mlb mbo mwn mwo mxo myo or6 co5 ro1 mpw mph mrk mrb mrf mfr mfm med map mwh, 93, [(0, gr 60), (1, gi i), (2, gi j), (3, gi (or6 (i)))], [gi (or6 (40 + j))])
              refine G.go hX 10 (moW W H mth mbd mne mnw mmn mbx 0 rs1 mrl mfl mpt mdf mlb mbo mwn mwo mxo myo or6 co5 ro1 mpw mph mrk mrb mrf mfr mfm med map mwh, 109, [(0, gr 60), (1, gi i), (2, gi j), (3, gi (or6 (i))), (4, gi (or6 (40 + j))), (5, gi ((41 * i) + j))], [gi (-1), gi (or6 (i))]) rfl trivial ?_
              refine g_icmp_eq hX 192 rfl rfl ⟨by omega, by omega⟩ ⟨by omega, by omega⟩ (fun b109 => ?_) (fun b109 => ?_)
              ·
                refine G.go hX 2 (moW W H mth mbd mne mnw mmn mbx 0 rs1 mrl mfl mpt mdf mlb mbo mwn mwo mxo myo or6 co5 ro1 mpw mph mrk mrb mrf mfr mfm med map mwh, 195, [(0, gr 60), (1, gi i), (2, gi j), (3, gi (or6 (i))), (4, gi (or6 (40 + j))), (5, gi ((41 * i) + j))], [gi (-1), gi (or6 (40 + j))]) rfl trivial ?_
                refine g_icmp_eq hX 225 rfl rfl ⟨by omega, by omega⟩ ⟨by omega, by omega⟩ (fun b195 => ?_) (fun b195 => ?_)
                ·
                  exfalso
                  omega
                ·
                  refine G.go hX 2 (moW W H mth mbd mne mnw mmn mbx 0 rs1 mrl mfl mpt mdf mlb mbo mwn mwo mxo myo or6 co5 ro1 mpw mph mrk mrb mrf mfr mfm med map mwh, 200, [(0, gr 60), (1, gi i), (2, gi j), (3, gi (or6 (i))), (4, gi (or6 (40 + j))), (5, gi ((41 * i) + j))], [gi (-1), gi (or6 (i))]) rfl trivial ?_
                  refine g_icmp_eq hX 244 rfl rfl ⟨by omega, by omega⟩ ⟨by omega, by omega⟩ (fun b200 => ?_) (fun b200 => ?_)
                  ·
                    refine G.go hX 10 (moW W H mth mbd mne mnw mmn mbx 0 rs1 mrl mfl mpt mdf mlb mbo mwn mwo mxo myo or6 co5 ro1 mpw mph mrk mrb mrf mfr mfm med map mwh, 259, [(0, gr 60), (1, gi i), (2, gi j), (3, gi (or6 (i))), (4, gi (or6 (40 + j))), (5, gi ((41 * i) + j))], [gi ((or6 (40 + j)) - 40), gi (-1), gi (mwo (or6 (40 + j))), gi 3, gr 60]) rfl ?_ ?_
                    · refine ⟨?_, trivial⟩
                      · omega
                    refine G.callV (av := [gi 3, gi (mwo (or6 (40 + j))), gi (-1), gi ((or6 (40 + j)) - 40)]) (o := 60) (st := []) hX rfl (fun l D cA => c_X8_addRow l D cA W H mth mbd mne mnw mmn mbx 0 rs1 mrl mfl mpt mdf mlb mbo mwn mwo mxo myo or6 co5 ro1 mpw mph mrk mrb mrf mfr mfm med map mwh 3 (mwo (or6 (40 + j))) (-1) ((or6 (40 + j)) - 40) (by first | assumption | omega)) (by decide +kernel) aX8_addRow rfl rfl rfl ⟨rfl, rfl⟩ (by decide) (Nat.le_of_ble_eq_true rfl) [0, 1, 2, 3, 4, 5, 6, 7, 8, 9, 10, 11, 12, 13, 14, 15, 16, 17, 18, 19, 20, 21] [] [] rfl rfl rfl (fun r w' hp => ?_)
                    obtain ⟨rfl, rfl⟩ := hp
                    show G X mX8_compare ad 0 0 (moW W H mth mbd mne mnw mmn mbx 0 (rs1 + 1) mrl mfl mpt mdf mlb mbo mwn mwo mxo myo or6 co5 (wap ro1 rs1 3 (mwo (or6 (40 + j))) (-1) ((or6 (40 + j)) - 40)) mpw mph mrk mrb mrf mfr mfm med map mwh, 262, [(0, gr 60), (1, gi i), (2, gi j), (3, gi (or6 (i))), (4, gi (or6 (40 + j))), (5, gi ((41 * i) + j))], [])
                    refine G.go hX 2 (moW W H mth mbd mne mnw mmn mbx 0 (rs1 + 1) mrl mfl mpt mdf mlb mbo mwn mwo mxo myo or6 co5 (wap ro1 rs1 3 (mwo (or6 (40 + j))) (-1) ((or6 (40 + j)) - 40)) mpw mph mrk mrb mrf mfr mfm med map mwh, 36, [(0, gr 60), (1, gi i), (2, gi (j + 1)), (3, gi (or6 (i))), (4, gi (or6 (40 + j))), (5, gi ((41 * i) + j))], []) rfl trivial ?_
                    refine G.locs [(0, gr 60), (1, gi i), (2, gi (j + 1))] [0, 1, 2] rfl ?_
                    exact ih36 i (j + 1) (st + 1) (rs1 + 1) (wap ro1 rs1 3 (mwo (or6 (40 + j))) (-1) ((or6 (40 + j)) - 40)) (l1 ++ [(3, mwo (or6 (40 + j)), -1, or6 (40 + j) - 40)]) (by omega) (by omega) (by rw [List.length_append, hc1]; simp) (by exact wrl_app hr1 hc1) (by rw [hfu, wWk_new _ (by first | (intro h9; exact b131 h9.2.2) | omega) (by first | omega | (intro h9; rw [g1, g2] at b222; omega)) (by omega)] at hw1; rw [List.append_assoc]; exact hw1) (by exact wap_r hi1 ⟨by omega, by omega⟩ (hwo _) ⟨by omega, by omega⟩ ⟨by omega, by omega⟩) (by omega)
                  ·
                    have k1 := hL5 (i + 1) j (by omega) (by omega) (by omega) (by omega)
                    have k2 := hL5 i (j + 1) (by omega) (by omega) (by omega) (by omega)
                    have g1 : (41 * i) + j + 41 = (i + 1) * 41 + j := by omega
                    have g2 : (41 * i) + j + 1 = i * 41 + (j + 1) := by omega
                    dsimp only at k1 k2
                    refine G.go hX 12 (moW W H mth mbd mne mnw mmn mbx 0 rs1 mrl mfl mpt mdf mlb mbo mwn mwo mxo myo or6 co5 ro1 mpw mph mrk mrb mrf mfr mfm med map mwh, 222, [(0, gr 60), (1, gi i), (2, gi j), (3, gi (or6 (i))), (4, gi (or6 (40 + j))), (5, gi ((41 * i) + j))], [gi (co5 (((41 * i) + j) + 1)), gi (co5 (((41 * i) + j) + 41))]) rfl ?_ ?_
                    · refine ⟨?_, ?_, trivial⟩
                      · omega
                      · omega
                    refine g_icmp_lt hX 244 rfl rfl (by first | (rw [g1]; exact ⟨by omega, by omega⟩) | (rw [g2]; exact ⟨by omega, by omega⟩)) (by first | (rw [g1]; exact ⟨by omega, by omega⟩) | (rw [g2]; exact ⟨by omega, by omega⟩)) (fun b222 => ?_) (fun b222 => ?_)
                    ·
                      refine G.go hX 10 (moW W H mth mbd mne mnw mmn mbx 0 rs1 mrl mfl mpt mdf mlb mbo mwn mwo mxo myo or6 co5 ro1 mpw mph mrk mrb mrf mfr mfm med map mwh, 259, [(0, gr 60), (1, gi i), (2, gi j), (3, gi (or6 (i))), (4, gi (or6 (40 + j))), (5, gi ((41 * i) + j))], [gi ((or6 (40 + j)) - 40), gi (-1), gi (mwo (or6 (40 + j))), gi 3, gr 60]) rfl ?_ ?_
                      · refine ⟨?_, trivial⟩
                        · omega
                      refine G.callV (av := [gi 3, gi (mwo (or6 (40 + j))), gi (-1), gi ((or6 (40 + j)) - 40)]) (o := 60) (st := []) hX rfl (fun l D cA => c_X8_addRow l D cA W H mth mbd mne mnw mmn mbx 0 rs1 mrl mfl mpt mdf mlb mbo mwn mwo mxo myo or6 co5 ro1 mpw mph mrk mrb mrf mfr mfm med map mwh 3 (mwo (or6 (40 + j))) (-1) ((or6 (40 + j)) - 40) (by first | assumption | omega)) (by decide +kernel) aX8_addRow rfl rfl rfl ⟨rfl, rfl⟩ (by decide) (Nat.le_of_ble_eq_true rfl) [0, 1, 2, 3, 4, 5, 6, 7, 8, 9, 10, 11, 12, 13, 14, 15, 16, 17, 18, 19, 20, 21] [] [] rfl rfl rfl (fun r w' hp => ?_)
                      obtain ⟨rfl, rfl⟩ := hp
                      show G X mX8_compare ad 0 0 (moW W H mth mbd mne mnw mmn mbx 0 (rs1 + 1) mrl mfl mpt mdf mlb mbo mwn mwo mxo myo or6 co5 (wap ro1 rs1 3 (mwo (or6 (40 + j))) (-1) ((or6 (40 + j)) - 40)) mpw mph mrk mrb mrf mfr mfm med map mwh, 262, [(0, gr 60), (1, gi i), (2, gi j), (3, gi (or6 (i))), (4, gi (or6 (40 + j))), (5, gi ((41 * i) + j))], [])
                      refine G.go hX 2 (moW W H mth mbd mne mnw mmn mbx 0 (rs1 + 1) mrl mfl mpt mdf mlb mbo mwn mwo mxo myo or6 co5 (wap ro1 rs1 3 (mwo (or6 (40 + j))) (-1) ((or6 (40 + j)) - 40)) mpw mph mrk mrb mrf mfr mfm med map mwh, 36, [(0, gr 60), (1, gi i), (2, gi (j + 1)), (3, gi (or6 (i))), (4, gi (or6 (40 + j))), (5, gi ((41 * i) + j))], []) rfl trivial ?_
                      refine G.locs [(0, gr 60), (1, gi i), (2, gi (j + 1))] [0, 1, 2] rfl ?_
                      exact ih36 i (j + 1) (st + 1) (rs1 + 1) (wap ro1 rs1 3 (mwo (or6 (40 + j))) (-1) ((or6 (40 + j)) - 40)) (l1 ++ [(3, mwo (or6 (40 + j)), -1, or6 (40 + j) - 40)]) (by omega) (by omega) (by rw [List.length_append, hc1]; simp) (by exact wrl_app hr1 hc1) (by rw [hfu, wWk_new _ (by first | (intro h9; exact b131 h9.2.2) | omega) (by first | omega | (intro h9; rw [g1, g2] at b222; omega)) (by omega)] at hw1; rw [List.append_assoc]; exact hw1) (by exact wap_r hi1 ⟨by omega, by omega⟩ (hwo _) ⟨by omega, by omega⟩ ⟨by omega, by omega⟩) (by omega)
                    ·
                      refine G.go hX 8 (moW W H mth mbd mne mnw mmn mbx 0 rs1 mrl mfl mpt mdf mlb mbo mwn mwo mxo myo or6 co5 ro1 mpw mph mrk mrb mrf mfr mfm med map mwh, 235, [(0, gr 60), (1, gi i), (2, gi j), (3, gi (or6 (i))), (4, gi (or6 (40 + j))), (5, gi ((41 * i) + j))], [gi (-1), gi (or6 (i)), gi (mwo (or6 (i))), gi 1, gr 60]) rfl ?_ ?_
                      · refine ⟨?_, trivial⟩
                        · omega
                      refine G.callV (av := [gi 1, gi (mwo (or6 (i))), gi (or6 (i)), gi (-1)]) (o := 60) (st := []) hX rfl (fun l D cA => c_X8_addRow l D cA W H mth mbd mne mnw mmn mbx 0 rs1 mrl mfl mpt mdf mlb mbo mwn mwo mxo myo or6 co5 ro1 mpw mph mrk mrb mrf mfr mfm med map mwh 1 (mwo (or6 (i))) (or6 (i)) (-1) (by first | assumption | omega)) (by decide +kernel) aX8_addRow rfl rfl rfl ⟨rfl, rfl⟩ (by decide) (Nat.le_of_ble_eq_true rfl) [0, 1, 2, 3, 4, 5, 6, 7, 8, 9, 10, 11, 12, 13, 14, 15, 16, 17, 18, 19, 20, 21] [] [] rfl rfl rfl (fun r w' hp => ?_)
                      obtain ⟨rfl, rfl⟩ := hp
                      show G X mX8_compare ad 0 0 (moW W H mth mbd mne mnw mmn mbx 0 (rs1 + 1) mrl mfl mpt mdf mlb mbo mwn mwo mxo myo or6 co5 (wap ro1 rs1 1 (mwo (or6 (i))) (or6 (i)) (-1)) mpw mph mrk mrb mrf mfr mfm med map mwh, 238, [(0, gr 60), (1, gi i), (2, gi j), (3, gi (or6 (i))), (4, gi (or6 (40 + j))), (5, gi ((41 * i) + j))], [])
                      refine G.go hX 3 (moW W H mth mbd mne mnw mmn mbx 0 (rs1 + 1) mrl mfl mpt mdf mlb mbo mwn mwo mxo myo or6 co5 (wap ro1 rs1 1 (mwo (or6 (i))) (or6 (i)) (-1)) mpw mph mrk mrb mrf mfr mfm med map mwh, 36, [(0, gr 60), (1, gi (i + 1)), (2, gi j), (3, gi (or6 (i))), (4, gi (or6 (40 + j))), (5, gi ((41 * i) + j))], []) rfl trivial ?_
                      refine G.locs [(0, gr 60), (1, gi (i + 1)), (2, gi j)] [0, 1, 2] rfl ?_
                      exact ih36 (i + 1) j (st + 1) (rs1 + 1) (wap ro1 rs1 1 (mwo (or6 (i))) (or6 (i)) (-1)) (l1 ++ [(1, mwo (or6 i), or6 i, -1)]) (by omega) (by omega) (by rw [List.length_append, hc1]; simp) (by exact wrl_app hr1 hc1) (by rw [hfu, wWk_gone _ (by first | (intro h9; exact b131 h9.2.2) | omega) (by first | (refine ⟨by omega, Or.inl (by omega)⟩) | (refine ⟨by omega, Or.inr ?_⟩; rw [g1, g2] at b222; omega))] at hw1; rw [List.append_assoc]; exact hw1) (by exact wap_r hi1 ⟨by omega, by omega⟩ (hwo _) ⟨by omega, by omega⟩ ⟨by omega, by omega⟩) (by omega)
              ·
                refine G.go hX 2 (moW W H mth mbd mne mnw mmn mbx 0 rs1 mrl mfl mpt mdf mlb mbo mwn mwo mxo myo or6 co5 ro1 mpw mph mrk mrb mrf mfr mfm med map mwh, 115, [(0, gr 60), (1, gi i), (2, gi j), (3, gi (or6 (i))), (4, gi (or6 (40 + j))), (5, gi ((41 * i) + j))], [gi (-1), gi (or6 (40 + j))]) rfl trivial ?_
                refine g_icmp_eq hX 192 rfl rfl ⟨by omega, by omega⟩ ⟨by omega, by omega⟩ (fun b115 => ?_) (fun b115 => ?_)
                ·
                  refine G.go hX 2 (moW W H mth mbd mne mnw mmn mbx 0 rs1 mrl mfl mpt mdf mlb mbo mwn mwo mxo myo or6 co5 ro1 mpw mph mrk mrb mrf mfr mfm med map mwh, 195, [(0, gr 60), (1, gi i), (2, gi j), (3, gi (or6 (i))), (4, gi (or6 (40 + j))), (5, gi ((41 * i) + j))], [gi (-1), gi (or6 (40 + j))]) rfl trivial ?_
                  refine g_icmp_eq hX 225 rfl rfl ⟨by omega, by omega⟩ ⟨by omega, by omega⟩ (fun b195 => ?_) (fun b195 => ?_)
                  ·
                    exfalso
                    omega
                  ·
                    refine G.go hX 2 (moW W H mth mbd mne mnw mmn mbx 0 rs1 mrl mfl mpt mdf mlb mbo mwn mwo mxo myo or6 co5 ro1 mpw mph mrk mrb mrf mfr mfm med map mwh, 200, [(0, gr 60), (1, gi i), (2, gi j), (3, gi (or6 (i))), (4, gi (or6 (40 + j))), (5, gi ((41 * i) + j))], [gi (-1), gi (or6 (i))]) rfl trivial ?_
                    refine g_icmp_eq hX 244 rfl rfl ⟨by omega, by omega⟩ ⟨by omega, by omega⟩ (fun b200 => ?_) (fun b200 => ?_)
                    ·
                      refine G.go hX 10 (moW W H mth mbd mne mnw mmn mbx 0 rs1 mrl mfl mpt mdf mlb mbo mwn mwo mxo myo or6 co5 ro1 mpw mph mrk mrb mrf mfr mfm med map mwh, 259, [(0, gr 60), (1, gi i), (2, gi j), (3, gi (or6 (i))), (4, gi (or6 (40 + j))), (5, gi ((41 * i) + j))], [gi ((or6 (40 + j)) - 40), gi (-1), gi (mwo (or6 (40 + j))), gi 3, gr 60]) rfl ?_ ?_
                      · refine ⟨?_, trivial⟩
                        · omega
                      refine G.callV (av := [gi 3, gi (mwo (or6 (40 + j))), gi (-1), gi ((or6 (40 + j)) - 40)]) (o := 60) (st := []) hX rfl (fun l D cA => c_X8_addRow l D cA W H mth mbd mne mnw mmn mbx 0 rs1 mrl mfl mpt mdf mlb mbo mwn mwo mxo myo or6 co5 ro1 mpw mph mrk mrb mrf mfr mfm med map mwh 3 (mwo (or6 (40 + j))) (-1) ((or6 (40 + j)) - 40) (by first | assumption | omega)) (by decide +kernel) aX8_addRow rfl rfl rfl ⟨rfl, rfl⟩ (by decide) (Nat.le_of_ble_eq_true rfl) [0, 1, 2, 3, 4, 5, 6, 7, 8, 9, 10, 11, 12, 13, 14, 15, 16, 17, 18, 19, 20, 21] [] [] rfl rfl rfl (fun r w' hp => ?_)
                      obtain ⟨rfl, rfl⟩ := hp
                      show G X mX8_compare ad 0 0 (moW W H mth mbd mne mnw mmn mbx 0 (rs1 + 1) mrl mfl mpt mdf mlb mbo mwn mwo mxo myo or6 co5 (wap ro1 rs1 3 (mwo (or6 (40 + j))) (-1) ((or6 (40 + j)) - 40)) mpw mph mrk mrb mrf mfr mfm med map mwh, 262, [(0, gr 60), (1, gi i), (2, gi j), (3, gi (or6 (i))), (4, gi (or6 (40 + j))), (5, gi ((41 * i) + j))], [])
                      refine G.go hX 2 (moW W H mth mbd mne mnw mmn mbx 0 (rs1 + 1) mrl mfl mpt mdf mlb mbo mwn mwo mxo myo or6 co5 (wap ro1 rs1 3 (mwo (or6 (40 + j))) (-1) ((or6 (40 + j)) - 40)) mpw mph mrk mrb mrf mfr mfm med map mwh, 36, [(0, gr 60), (1, gi i), (2, gi (j + 1)), (3, gi (or6 (i))), (4, gi (or6 (40 + j))), (5, gi ((41 * i) + j))], []) rfl trivial ?_
                      refine G.locs [(0, gr 60), (1, gi i), (2, gi (j + 1))] [0, 1, 2] rfl ?_
                      exact ih36 i (j + 1) (st + 1) (rs1 + 1) (wap ro1 rs1 3 (mwo (or6 (40 + j))) (-1) ((or6 (40 + j)) - 40)) (l1 ++ [(3, mwo (or6 (40 + j)), -1, or6 (40 + j) - 40)]) (by omega) (by omega) (by rw [List.length_append, hc1]; simp) (by exact wrl_app hr1 hc1) (by rw [hfu, wWk_new _ (by first | (intro h9; exact b131 h9.2.2) | omega) (by first | omega | (intro h9; rw [g1, g2] at b222; omega)) (by omega)] at hw1; rw [List.append_assoc]; exact hw1) (by exact wap_r hi1 ⟨by omega, by omega⟩ (hwo _) ⟨by omega, by omega⟩ ⟨by omega, by omega⟩) (by omega)
                    ·
                      have k1 := hL5 (i + 1) j (by omega) (by omega) (by omega) (by omega)
                      have k2 := hL5 i (j + 1) (by omega) (by omega) (by omega) (by omega)
                      have g1 : (41 * i) + j + 41 = (i + 1) * 41 + j := by omega
                      have g2 : (41 * i) + j + 1 = i * 41 + (j + 1) := by omega
                      dsimp only at k1 k2
                      refine G.go hX 12 (moW W H mth mbd mne mnw mmn mbx 0 rs1 mrl mfl mpt mdf mlb mbo mwn mwo mxo myo or6 co5 ro1 mpw mph mrk mrb mrf mfr mfm med map mwh, 222, [(0, gr 60), (1, gi i), (2, gi j), (3, gi (or6 (i))), (4, gi (or6 (40 + j))), (5, gi ((41 * i) + j))], [gi (co5 (((41 * i) + j) + 1)), gi (co5 (((41 * i) + j) + 41))]) rfl ?_ ?_
                      · refine ⟨?_, ?_, trivial⟩
                        · omega
                        · omega
                      refine g_icmp_lt hX 244 rfl rfl (by first | (rw [g1]; exact ⟨by omega, by omega⟩) | (rw [g2]; exact ⟨by omega, by omega⟩)) (by first | (rw [g1]; exact ⟨by omega, by omega⟩) | (rw [g2]; exact ⟨by omega, by omega⟩)) (fun b222 => ?_) (fun b222 => ?_)
                      ·
                        refine G.go hX 10 (moW W H mth mbd mne mnw mmn mbx 0 rs1 mrl mfl mpt mdf mlb mbo mwn mwo mxo myo or6 co5 ro1 mpw mph mrk mrb mrf mfr mfm med map mwh, 259, [(0, gr 60), (1, gi i), (2, gi j), (3, gi (or6 (i))), (4, gi (or6 (40 + j))), (5, gi ((41 * i) + j))], [gi ((or6 (40 + j)) - 40), gi (-1), gi (mwo (or6 (40 + j))), gi 3, gr 60]) rfl ?_ ?_
                        · refine ⟨?_, trivial⟩
                          · omega
                        refine G.callV (av := [gi 3, gi (mwo (or6 (40 + j))), gi (-1), gi ((or6 (40 + j)) - 40)]) (o := 60) (st := []) hX rfl (fun l D cA => c_X8_addRow l D cA W H mth mbd mne mnw mmn mbx 0 rs1 mrl mfl mpt mdf mlb mbo mwn mwo mxo myo or6 co5 ro1 mpw mph mrk mrb mrf mfr mfm med map mwh 3 (mwo (or6 (40 + j))) (-1) ((or6 (40 + j)) - 40) (by first | assumption | omega)) (by decide +kernel) aX8_addRow rfl rfl rfl ⟨rfl, rfl⟩ (by decide) (Nat.le_of_ble_eq_true rfl) [0, 1, 2, 3, 4, 5, 6, 7, 8, 9, 10, 11, 12, 13, 14, 15, 16, 17, 18, 19, 20, 21] [] [] rfl rfl rfl (fun r w' hp => ?_)
                        obtain ⟨rfl, rfl⟩ := hp
                        show G X mX8_compare ad 0 0 (moW W H mth mbd mne mnw mmn mbx 0 (rs1 + 1) mrl mfl mpt mdf mlb mbo mwn mwo mxo myo or6 co5 (wap ro1 rs1 3 (mwo (or6 (40 + j))) (-1) ((or6 (40 + j)) - 40)) mpw mph mrk mrb mrf mfr mfm med map mwh, 262, [(0, gr 60), (1, gi i), (2, gi j), (3, gi (or6 (i))), (4, gi (or6 (40 + j))), (5, gi ((41 * i) + j))], [])
                        refine G.go hX 2 (moW W H mth mbd mne mnw mmn mbx 0 (rs1 + 1) mrl mfl mpt mdf mlb mbo mwn mwo mxo myo or6 co5 (wap ro1 rs1 3 (mwo (or6 (40 + j))) (-1) ((or6 (40 + j)) - 40)) mpw mph mrk mrb mrf mfr mfm med map mwh, 36, [(0, gr 60), (1, gi i), (2, gi (j + 1)), (3, gi (or6 (i))), (4, gi (or6 (40 + j))), (5, gi ((41 * i) + j))], []) rfl trivial ?_
                        refine G.locs [(0, gr 60), (1, gi i), (2, gi (j + 1))] [0, 1, 2] rfl ?_
                        exact ih36 i (j + 1) (st + 1) (rs1 + 1) (wap ro1 rs1 3 (mwo (or6 (40 + j))) (-1) ((or6 (40 + j)) - 40)) (l1 ++ [(3, mwo (or6 (40 + j)), -1, or6 (40 + j) - 40)]) (by omega) (by omega) (by rw [List.length_append, hc1]; simp) (by exact wrl_app hr1 hc1) (by rw [hfu, wWk_new _ (by first | (intro h9; exact b131 h9.2.2) | omega) (by first | omega | (intro h9; rw [g1, g2] at b222; omega)) (by omega)] at hw1; rw [List.append_assoc]; exact hw1) (by exact wap_r hi1 ⟨by omega, by omega⟩ (hwo _) ⟨by omega, by omega⟩ ⟨by omega, by omega⟩) (by omega)
                      ·
                        refine G.go hX 8 (moW W H mth mbd mne mnw mmn mbx 0 rs1 mrl mfl mpt mdf mlb mbo mwn mwo mxo myo or6 co5 ro1 mpw mph mrk mrb mrf mfr mfm med map mwh, 235, [(0, gr 60), (1, gi i), (2, gi j), (3, gi (or6 (i))), (4, gi (or6 (40 + j))), (5, gi ((41 * i) + j))], [gi (-1), gi (or6 (i)), gi (mwo (or6 (i))), gi 1, gr 60]) rfl ?_ ?_
                        · refine ⟨?_, trivial⟩
                          · omega
                        refine G.callV (av := [gi 1, gi (mwo (or6 (i))), gi (or6 (i)), gi (-1)]) (o := 60) (st := []) hX rfl (fun l D cA => c_X8_addRow l D cA W H mth mbd mne mnw mmn mbx 0 rs1 mrl mfl mpt mdf mlb mbo mwn mwo mxo myo or6 co5 ro1 mpw mph mrk mrb mrf mfr mfm med map mwh 1 (mwo (or6 (i))) (or6 (i)) (-1) (by first | assumption | omega)) (by decide +kernel) aX8_addRow rfl rfl rfl ⟨rfl, rfl⟩ (by decide) (Nat.le_of_ble_eq_true rfl) [0, 1, 2, 3, 4, 5, 6, 7, 8, 9, 10, 11, 12, 13, 14, 15, 16, 17, 18, 19, 20, 21] [] [] rfl rfl rfl (fun r w' hp => ?_)
                        obtain ⟨rfl, rfl⟩ := hp
                        show G X mX8_compare ad 0 0 (moW W H mth mbd mne mnw mmn mbx 0 (rs1 + 1) mrl mfl mpt mdf mlb mbo mwn mwo mxo myo or6 co5 (wap ro1 rs1 1 (mwo (or6 (i))) (or6 (i)) (-1)) mpw mph mrk mrb mrf mfr mfm med map mwh, 238, [(0, gr 60), (1, gi i), (2, gi j), (3, gi (or6 (i))), (4, gi (or6 (40 + j))), (5, gi ((41 * i) + j))], [])
                        refine G.go hX 3 (moW W H mth mbd mne mnw mmn mbx 0 (rs1 + 1) mrl mfl mpt mdf mlb mbo mwn mwo mxo myo or6 co5 (wap ro1 rs1 1 (mwo (or6 (i))) (or6 (i)) (-1)) mpw mph mrk mrb mrf mfr mfm med map mwh, 36, [(0, gr 60), (1, gi (i + 1)), (2, gi j), (3, gi (or6 (i))), (4, gi (or6 (40 + j))), (5, gi ((41 * i) + j))], []) rfl trivial ?_
                        refine G.locs [(0, gr 60), (1, gi (i + 1)), (2, gi j)] [0, 1, 2] rfl ?_
                        exact ih36 (i + 1) j (st + 1) (rs1 + 1) (wap ro1 rs1 1 (mwo (or6 (i))) (or6 (i)) (-1)) (l1 ++ [(1, mwo (or6 i), or6 i, -1)]) (by omega) (by omega) (by rw [List.length_append, hc1]; simp) (by exact wrl_app hr1 hc1) (by rw [hfu, wWk_gone _ (by first | (intro h9; exact b131 h9.2.2) | omega) (by first | (refine ⟨by omega, Or.inl (by omega)⟩) | (refine ⟨by omega, Or.inr ?_⟩; rw [g1, g2] at b222; omega))] at hw1; rw [List.append_assoc]; exact hw1) (by exact wap_r hi1 ⟨by omega, by omega⟩ (hwo _) ⟨by omega, by omega⟩ ⟨by omega, by omega⟩) (by omega)
                ·
                  refine G.go hX 8 (moW W H mth mbd mne mnw mmn mbx 0 rs1 mrl mfl mpt mdf mlb mbo mwn mwo mxo myo or6 co5 ro1 mpw mph mrk mrb mrf mfr mfm med map mwh, 131, [(0, gr 60), (1, gi i), (2, gi j), (3, gi (or6 (i))), (4, gi (or6 (40 + j))), (5, gi ((41 * i) + j))], [gi (mwo (or6 (40 + j))), gi (mwo (or6 (i)))]) rfl ?_ ?_
                  · refine ⟨?_, ?_, trivial⟩
                    · omega
                    · omega
                  refine g_icmp_ne hX 192 rfl rfl (hwo _) (hwo _) (fun b131 => ?_) (fun b131 => ?_)
                  ·
                    refine G.go hX 2 (moW W H mth mbd mne mnw mmn mbx 0 rs1 mrl mfl mpt mdf mlb mbo mwn mwo mxo myo or6 co5 ro1 mpw mph mrk mrb mrf mfr mfm med map mwh, 195, [(0, gr 60), (1, gi i), (2, gi j), (3, gi (or6 (i))), (4, gi (or6 (40 + j))), (5, gi ((41 * i) + j))], [gi (-1), gi (or6 (40 + j))]) rfl trivial ?_
                    refine g_icmp_eq hX 225 rfl rfl ⟨by omega, by omega⟩ ⟨by omega, by omega⟩ (fun b195 => ?_) (fun b195 => ?_)
                    ·
                      exfalso
                      omega
                    ·
                      refine G.go hX 2 (moW W H mth mbd mne mnw mmn mbx 0 rs1 mrl mfl mpt mdf mlb mbo mwn mwo mxo myo or6 co5 ro1 mpw mph mrk mrb mrf mfr mfm med map mwh, 200, [(0, gr 60), (1, gi i), (2, gi j), (3, gi (or6 (i))), (4, gi (or6 (40 + j))), (5, gi ((41 * i) + j))], [gi (-1), gi (or6 (i))]) rfl trivial ?_
                      refine g_icmp_eq hX 244 rfl rfl ⟨by omega, by omega⟩ ⟨by omega, by omega⟩ (fun b200 => ?_) (fun b200 => ?_)
                      ·
                        refine G.go hX 10 (moW W H mth mbd mne mnw mmn mbx 0 rs1 mrl mfl mpt mdf mlb mbo mwn mwo mxo myo or6 co5 ro1 mpw mph mrk mrb mrf mfr mfm med map mwh, 259, [(0, gr 60), (1, gi i), (2, gi j), (3, gi (or6 (i))), (4, gi (or6 (40 + j))), (5, gi ((41 * i) + j))], [gi ((or6 (40 + j)) - 40), gi (-1), gi (mwo (or6 (40 + j))), gi 3, gr 60]) rfl ?_ ?_
                        · refine ⟨?_, trivial⟩
                          · omega
                        refine G.callV (av := [gi 3, gi (mwo (or6 (40 + j))), gi (-1), gi ((or6 (40 + j)) - 40)]) (o := 60) (st := []) hX rfl (fun l D cA => c_X8_addRow l D cA W H mth mbd mne mnw mmn mbx 0 rs1 mrl mfl mpt mdf mlb mbo mwn mwo mxo myo or6 co5 ro1 mpw mph mrk mrb mrf mfr mfm med map mwh 3 (mwo (or6 (40 + j))) (-1) ((or6 (40 + j)) - 40) (by first | assumption | omega)) (by decide +kernel) aX8_addRow rfl rfl rfl ⟨rfl, rfl⟩ (by decide) (Nat.le_of_ble_eq_true rfl) [0, 1, 2, 3, 4, 5, 6, 7, 8, 9, 10, 11, 12, 13, 14, 15, 16, 17, 18, 19, 20, 21] [] [] rfl rfl rfl (fun r w' hp => ?_)
                        obtain ⟨rfl, rfl⟩ := hp
                        show G X mX8_compare ad 0 0 (moW W H mth mbd mne mnw mmn mbx 0 (rs1 + 1) mrl mfl mpt mdf mlb mbo mwn mwo mxo myo or6 co5 (wap ro1 rs1 3 (mwo (or6 (40 + j))) (-1) ((or6 (40 + j)) - 40)) mpw mph mrk mrb mrf mfr mfm med map mwh, 262, [(0, gr 60), (1, gi i), (2, gi j), (3, gi (or6 (i))), (4, gi (or6 (40 + j))), (5, gi ((41 * i) + j))], [])
                        refine G.go hX 2 (moW W H mth mbd mne mnw mmn mbx 0 (rs1 + 1) mrl mfl mpt mdf mlb mbo mwn mwo mxo myo or6 co5 (wap ro1 rs1 3 (mwo (or6 (40 + j))) (-1) ((or6 (40 + j)) - 40)) mpw mph mrk mrb mrf mfr mfm med map mwh, 36, [(0, gr 60), (1, gi i), (2, gi (j + 1)), (3, gi (or6 (i))), (4, gi (or6 (40 + j))), (5, gi ((41 * i) + j))], []) rfl trivial ?_
                        refine G.locs [(0, gr 60), (1, gi i), (2, gi (j + 1))] [0, 1, 2] rfl ?_
                        exact ih36 i (j + 1) (st + 1) (rs1 + 1) (wap ro1 rs1 3 (mwo (or6 (40 + j))) (-1) ((or6 (40 + j)) - 40)) (l1 ++ [(3, mwo (or6 (40 + j)), -1, or6 (40 + j) - 40)]) (by omega) (by omega) (by rw [List.length_append, hc1]; simp) (by exact wrl_app hr1 hc1) (by rw [hfu, wWk_new _ (by first | (intro h9; exact b131 h9.2.2) | omega) (by first | omega | (intro h9; rw [g1, g2] at b222; omega)) (by omega)] at hw1; rw [List.append_assoc]; exact hw1) (by exact wap_r hi1 ⟨by omega, by omega⟩ (hwo _) ⟨by omega, by omega⟩ ⟨by omega, by omega⟩) (by omega)
                      ·
                        have k1 := hL5 (i + 1) j (by omega) (by omega) (by omega) (by omega)
                        have k2 := hL5 i (j + 1) (by omega) (by omega) (by omega) (by omega)
                        have g1 : (41 * i) + j + 41 = (i + 1) * 41 + j := by omega
                        have g2 : (41 * i) + j + 1 = i * 41 + (j + 1) := by omega
                        dsimp only at k1 k2
                        refine G.go hX 12 (moW W H mth mbd mne mnw mmn mbx 0 rs1 mrl mfl mpt mdf mlb mbo mwn mwo mxo myo or6 co5 ro1 mpw mph mrk mrb mrf mfr mfm med map mwh, 222, [(0, gr 60), (1, gi i), (2, gi j), (3, gi (or6 (i))), (4, gi (or6 (40 + j))), (5, gi ((41 * i) + j))], [gi (co5 (((41 * i) + j) + 1)), gi (co5 (((41 * i) + j) + 41))]) rfl ?_ ?_
                        · refine ⟨?_, ?_, trivial⟩
                          · omega
                          · omega
                        refine g_icmp_lt hX 244 rfl rfl (by first | (rw [g1]; exact ⟨by omega, by omega⟩) | (rw [g2]; exact ⟨by omega, by omega⟩)) (by first | (rw [g1]; exact ⟨by omega, by omega⟩) | (rw [g2]; exact ⟨by omega, by omega⟩)) (fun b222 => ?_) (fun b222 => ?_)
                        ·
                          refine G.go hX 10 (moW W H mth mbd mne mnw mmn mbx 0 rs1 mrl mfl mpt mdf mlb mbo mwn mwo mxo myo or6 co5 ro1 mpw mph mrk mrb mrf mfr mfm med map mwh, 259, [(0, gr 60), (1, gi i), (2, gi j), (3, gi (or6 (i))), (4, gi (or6 (40 + j))), (5, gi ((41 * i) + j))], [gi ((or6 (40 + j)) - 40), gi (-1), gi (mwo (or6 (40 + j))), gi 3, gr 60]) rfl ?_ ?_
                          · refine ⟨?_, trivial⟩
                            · omega
                          refine G.callV (av := [gi 3, gi (mwo (or6 (40 + j))), gi (-1), gi ((or6 (40 + j)) - 40)]) (o := 60) (st := []) hX rfl (fun l D cA => c_X8_addRow l D cA W H mth mbd mne mnw mmn mbx 0 rs1 mrl mfl mpt mdf mlb mbo mwn mwo mxo myo or6 co5 ro1 mpw mph mrk mrb mrf mfr mfm med map mwh 3 (mwo (or6 (40 + j))) (-1) ((or6 (40 + j)) - 40) (by first | assumption | omega)) (by decide +kernel) aX8_addRow rfl rfl rfl ⟨rfl, rfl⟩ (by decide) (Nat.le_of_ble_eq_true rfl) [0, 1, 2, 3, 4, 5, 6, 7, 8, 9, 10, 11, 12, 13, 14, 15, 16, 17, 18, 19, 20, 21] [] [] rfl rfl rfl (fun r w' hp => ?_)
                          obtain ⟨rfl, rfl⟩ := hp
                          show G X mX8_compare ad 0 0 (moW W H mth mbd mne mnw mmn mbx 0 (rs1 + 1) mrl mfl mpt mdf mlb mbo mwn mwo mxo myo or6 co5 (wap ro1 rs1 3 (mwo (or6 (40 + j))) (-1) ((or6 (40 + j)) - 40)) mpw mph mrk mrb mrf mfr mfm med map mwh, 262, [(0, gr 60), (1, gi i), (2, gi j), (3, gi (or6 (i))), (4, gi (or6 (40 + j))), (5, gi ((41 * i) + j))], [])
                          refine G.go hX 2 (moW W H mth mbd mne mnw mmn mbx 0 (rs1 + 1) mrl mfl mpt mdf mlb mbo mwn mwo mxo myo or6 co5 (wap ro1 rs1 3 (mwo (or6 (40 + j))) (-1) ((or6 (40 + j)) - 40)) mpw mph mrk mrb mrf mfr mfm med map mwh, 36, [(0, gr 60), (1, gi i), (2, gi (j + 1)), (3, gi (or6 (i))), (4, gi (or6 (40 + j))), (5, gi ((41 * i) + j))], []) rfl trivial ?_
                          refine G.locs [(0, gr 60), (1, gi i), (2, gi (j + 1))] [0, 1, 2] rfl ?_
                          exact ih36 i (j + 1) (st + 1) (rs1 + 1) (wap ro1 rs1 3 (mwo (or6 (40 + j))) (-1) ((or6 (40 + j)) - 40)) (l1 ++ [(3, mwo (or6 (40 + j)), -1, or6 (40 + j) - 40)]) (by omega) (by omega) (by rw [List.length_append, hc1]; simp) (by exact wrl_app hr1 hc1) (by rw [hfu, wWk_new _ (by first | (intro h9; exact b131 h9.2.2) | omega) (by first | omega | (intro h9; rw [g1, g2] at b222; omega)) (by omega)] at hw1; rw [List.append_assoc]; exact hw1) (by exact wap_r hi1 ⟨by omega, by omega⟩ (hwo _) ⟨by omega, by omega⟩ ⟨by omega, by omega⟩) (by omega)
                        ·
                          refine G.go hX 8 (moW W H mth mbd mne mnw mmn mbx 0 rs1 mrl mfl mpt mdf mlb mbo mwn mwo mxo myo or6 co5 ro1 mpw mph mrk mrb mrf mfr mfm med map mwh, 235, [(0, gr 60), (1, gi i), (2, gi j), (3, gi (or6 (i))), (4, gi (or6 (40 + j))), (5, gi ((41 * i) + j))], [gi (-1), gi (or6 (i)), gi (mwo (or6 (i))), gi 1, gr 60]) rfl ?_ ?_
                          · refine ⟨?_, trivial⟩
                            · omega
                          refine G.callV (av := [gi 1, gi (mwo (or6 (i))), gi (or6 (i)), gi (-1)]) (o := 60) (st := []) hX rfl (fun l D cA => c_X8_addRow l D cA W H mth mbd mne mnw mmn mbx 0 rs1 mrl mfl mpt mdf mlb mbo mwn mwo mxo myo or6 co5 ro1 mpw mph mrk mrb mrf mfr mfm med map mwh 1 (mwo (or6 (i))) (or6 (i)) (-1) (by first | assumption | omega)) (by decide +kernel) aX8_addRow rfl rfl rfl ⟨rfl, rfl⟩ (by decide) (Nat.le_of_ble_eq_true rfl) [0, 1, 2, 3, 4, 5, 6, 7, 8, 9, 10, 11, 12, 13, 14, 15, 16, 17, 18, 19, 20, 21] [] [] rfl rfl rfl (fun r w' hp => ?_)
                          obtain ⟨rfl, rfl⟩ := hp
                          show G X mX8_compare ad 0 0 (moW W H mth mbd mne mnw mmn mbx 0 (rs1 + 1) mrl mfl mpt mdf mlb mbo mwn mwo mxo myo or6 co5 (wap ro1 rs1 1 (mwo (or6 (i))) (or6 (i)) (-1)) mpw mph mrk mrb mrf mfr mfm med map mwh, 238, [(0, gr 60), (1, gi i), (2, gi j), (3, gi (or6 (i))), (4, gi (or6 (40 + j))), (5, gi ((41 * i) + j))], [])
                          refine G.go hX 3 (moW W H mth mbd mne mnw mmn mbx 0 (rs1 + 1) mrl mfl mpt mdf mlb mbo mwn mwo mxo myo or6 co5 (wap ro1 rs1 1 (mwo (or6 (i))) (or6 (i)) (-1)) mpw mph mrk mrb mrf mfr mfm med map mwh, 36, [(0, gr 60), (1, gi (i + 1)), (2, gi j), (3, gi (or6 (i))), (4, gi (or6 (40 + j))), (5, gi ((41 * i) + j))], []) rfl trivial ?_
                          refine G.locs [(0, gr 60), (1, gi (i + 1)), (2, gi j)] [0, 1, 2] rfl ?_
                          exact ih36 (i + 1) j (st + 1) (rs1 + 1) (wap ro1 rs1 1 (mwo (or6 (i))) (or6 (i)) (-1)) (l1 ++ [(1, mwo (or6 i), or6 i, -1)]) (by omega) (by omega) (by rw [List.length_append, hc1]; simp) (by exact wrl_app hr1 hc1) (by rw [hfu, wWk_gone _ (by first | (intro h9; exact b131 h9.2.2) | omega) (by first | (refine ⟨by omega, Or.inl (by omega)⟩) | (refine ⟨by omega, Or.inr ?_⟩; rw [g1, g2] at b222; omega))] at hw1; rw [List.append_assoc]; exact hw1) (by exact wap_r hi1 ⟨by omega, by omega⟩ (hwo _) ⟨by omega, by omega⟩ ⟨by omega, by omega⟩) (by omega)
                  ·
                    refine G.go hX 8 (moW W H mth mbd mne mnw mmn mbx 0 rs1 mrl mfl mpt mdf mlb mbo mwn mwo mxo myo or6 co5 ro1 mpw mph mrk mrb mrf mfr mfm med map mwh, 147, [(0, gr 60), (1, gi i), (2, gi j), (3, gi (or6 (i))), (4, gi (or6 (40 + j))), (5, gi ((41 * i) + j))], [gi (mxo (or6 (40 + j))), gi (mxo (or6 (i)))]) rfl ?_ ?_
                    · refine ⟨?_, ?_, trivial⟩
                      · omega
                      · omega
                    refine g_icmp_ne hX 166 rfl rfl ((hxy _).1) ((hxy _).1) (fun b147 => ?_) (fun b147 => ?_)
                    ·
                      refine G.go hX 10 (moW W H mth mbd mne mnw mmn mbx 0 rs1 mrl mfl mpt mdf mlb mbo mwn mwo mxo myo or6 co5 ro1 mpw mph mrk mrb mrf mfr mfm med map mwh, 180, [(0, gr 60), (1, gi i), (2, gi j), (3, gi (or6 (i))), (4, gi (or6 (40 + j))), (5, gi ((41 * i) + j))], [gi ((or6 (40 + j)) - 40), gi (or6 (i)), gi (mwo (or6 (i))), gi 4, gr 60]) rfl ?_ ?_
                      · refine ⟨?_, trivial⟩
                        · omega
                      refine G.callV (av := [gi 4, gi (mwo (or6 (i))), gi (or6 (i)), gi ((or6 (40 + j)) - 40)]) (o := 60) (st := []) hX rfl (fun l D cA => c_X8_addRow l D cA W H mth mbd mne mnw mmn mbx 0 rs1 mrl mfl mpt mdf mlb mbo mwn mwo mxo myo or6 co5 ro1 mpw mph mrk mrb mrf mfr mfm med map mwh 4 (mwo (or6 (i))) (or6 (i)) ((or6 (40 + j)) - 40) (by first | assumption | omega)) (by decide +kernel) aX8_addRow rfl rfl rfl ⟨rfl, rfl⟩ (by decide) (Nat.le_of_ble_eq_true rfl) [0, 1, 2, 3, 4, 5, 6, 7, 8, 9, 10, 11, 12, 13, 14, 15, 16, 17, 18, 19, 20, 21] [] [] rfl rfl rfl (fun r w' hp => ?_)
                      obtain ⟨rfl, rfl⟩ := hp
                      show G X mX8_compare ad 0 0 (moW W H mth mbd mne mnw mmn mbx 0 (rs1 + 1) mrl mfl mpt mdf mlb mbo mwn mwo mxo myo or6 co5 (wap ro1 rs1 4 (mwo (or6 (i))) (or6 (i)) ((or6 (40 + j)) - 40)) mpw mph mrk mrb mrf mfr mfm med map mwh, 183, [(0, gr 60), (1, gi i), (2, gi j), (3, gi (or6 (i))), (4, gi (or6 (40 + j))), (5, gi ((41 * i) + j))], [])
                      refine G.go hX 4 (moW W H mth mbd mne mnw mmn mbx 0 (rs1 + 1) mrl mfl mpt mdf mlb mbo mwn mwo mxo myo or6 co5 (wap ro1 rs1 4 (mwo (or6 (i))) (or6 (i)) ((or6 (40 + j)) - 40)) mpw mph mrk mrb mrf mfr mfm med map mwh, 36, [(0, gr 60), (1, gi (i + 1)), (2, gi (j + 1)), (3, gi (or6 (i))), (4, gi (or6 (40 + j))), (5, gi ((41 * i) + j))], []) rfl trivial ?_
                      refine G.locs [(0, gr 60), (1, gi (i + 1)), (2, gi (j + 1))] [0, 1, 2] rfl ?_
                      exact ih36 (i + 1) (j + 1) (st + 1) (rs1 + 1) (wap ro1 rs1 4 (mwo (or6 (i))) (or6 (i)) ((or6 (40 + j)) - 40)) (l1 ++ [(4, mwo (or6 i), or6 i, or6 (40 + j) - 40)]) (by omega) (by omega) (by rw [List.length_append, hc1]; simp) (by exact wrl_app hr1 hc1) (by rw [hfu, wWk_shift _ (by omega) (by omega) (show mU mwo or6 i = mV mwo or6 j from (show mwo (or6 i) = mwo (or6 (40 + j)) by omega)) (by omega)] at hw1; rw [List.append_assoc]; exact hw1) (by exact wap_r hi1 ⟨by omega, by omega⟩ (hwo _) ⟨by omega, by omega⟩ ⟨by omega, by omega⟩) (by omega)
                    ·
                      refine G.go hX 8 (moW W H mth mbd mne mnw mmn mbx 0 rs1 mrl mfl mpt mdf mlb mbo mwn mwo mxo myo or6 co5 ro1 mpw mph mrk mrb mrf mfr mfm med map mwh, 163, [(0, gr 60), (1, gi i), (2, gi j), (3, gi (or6 (i))), (4, gi (or6 (40 + j))), (5, gi ((41 * i) + j))], [gi (myo (or6 (40 + j))), gi (myo (or6 (i)))]) rfl ?_ ?_
                      · refine ⟨?_, ?_, trivial⟩
                        · omega
                        · omega
                      refine g_icmp_eq hX 183 rfl rfl ((hxy _).2) ((hxy _).2) (fun b163 => ?_) (fun b163 => ?_)
                      ·
                        refine G.go hX 4 (moW W H mth mbd mne mnw mmn mbx 0 rs1 mrl mfl mpt mdf mlb mbo mwn mwo mxo myo or6 co5 ro1 mpw mph mrk mrb mrf mfr mfm med map mwh, 36, [(0, gr 60), (1, gi (i + 1)), (2, gi (j + 1)), (3, gi (or6 (i))), (4, gi (or6 (40 + j))), (5, gi ((41 * i) + j))], []) rfl trivial ?_
                        refine G.locs [(0, gr 60), (1, gi (i + 1)), (2, gi (j + 1))] [0, 1, 2] rfl ?_
                        exact ih36 (i + 1) (j + 1) (st + 1) rs1 ro1 l1 (by omega) (by omega) (by exact hc1) (by exact hr1) (by rw [hfu, wWk_same _ (by omega) (by omega) (show mU mwo or6 i = mV mwo or6 j from (show mwo (or6 i) = mwo (or6 (40 + j)) by omega)) ⟨by omega, by omega⟩] at hw1; exact hw1) (by exact hi1) (by omega)
                      ·
                        refine G.go hX 10 (moW W H mth mbd mne mnw mmn mbx 0 rs1 mrl mfl mpt mdf mlb mbo mwn mwo mxo myo or6 co5 ro1 mpw mph mrk mrb mrf mfr mfm med map mwh, 180, [(0, gr 60), (1, gi i), (2, gi j), (3, gi (or6 (i))), (4, gi (or6 (40 + j))), (5, gi ((41 * i) + j))], [gi ((or6 (40 + j)) - 40), gi (or6 (i)), gi (mwo (or6 (i))), gi 4, gr 60]) rfl ?_ ?_
                        · refine ⟨?_, trivial⟩
                          · omega
                        refine G.callV (av := [gi 4, gi (mwo (or6 (i))), gi (or6 (i)), gi ((or6 (40 + j)) - 40)]) (o := 60) (st := []) hX rfl (fun l D cA => c_X8_addRow l D cA W H mth mbd mne mnw mmn mbx 0 rs1 mrl mfl mpt mdf mlb mbo mwn mwo mxo myo or6 co5 ro1 mpw mph mrk mrb mrf mfr mfm med map mwh 4 (mwo (or6 (i))) (or6 (i)) ((or6 (40 + j)) - 40) (by first | assumption | omega)) (by decide +kernel) aX8_addRow rfl rfl rfl ⟨rfl, rfl⟩ (by decide) (Nat.le_of_ble_eq_true rfl) [0, 1, 2, 3, 4, 5, 6, 7, 8, 9, 10, 11, 12, 13, 14, 15, 16, 17, 18, 19, 20, 21] [] [] rfl rfl rfl (fun r w' hp => ?_)
                        obtain ⟨rfl, rfl⟩ := hp
                        show G X mX8_compare ad 0 0 (moW W H mth mbd mne mnw mmn mbx 0 (rs1 + 1) mrl mfl mpt mdf mlb mbo mwn mwo mxo myo or6 co5 (wap ro1 rs1 4 (mwo (or6 (i))) (or6 (i)) ((or6 (40 + j)) - 40)) mpw mph mrk mrb mrf mfr mfm med map mwh, 183, [(0, gr 60), (1, gi i), (2, gi j), (3, gi (or6 (i))), (4, gi (or6 (40 + j))), (5, gi ((41 * i) + j))], [])
                        refine G.go hX 4 (moW W H mth mbd mne mnw mmn mbx 0 (rs1 + 1) mrl mfl mpt mdf mlb mbo mwn mwo mxo myo or6 co5 (wap ro1 rs1 4 (mwo (or6 (i))) (or6 (i)) ((or6 (40 + j)) - 40)) mpw mph mrk mrb mrf mfr mfm med map mwh, 36, [(0, gr 60), (1, gi (i + 1)), (2, gi (j + 1)), (3, gi (or6 (i))), (4, gi (or6 (40 + j))), (5, gi ((41 * i) + j))], []) rfl trivial ?_
                        refine G.locs [(0, gr 60), (1, gi (i + 1)), (2, gi (j + 1))] [0, 1, 2] rfl ?_
                        exact ih36 (i + 1) (j + 1) (st + 1) (rs1 + 1) (wap ro1 rs1 4 (mwo (or6 (i))) (or6 (i)) ((or6 (40 + j)) - 40)) (l1 ++ [(4, mwo (or6 i), or6 i, or6 (40 + j) - 40)]) (by omega) (by omega) (by rw [List.length_append, hc1]; simp) (by exact wrl_app hr1 hc1) (by rw [hfu, wWk_shift _ (by omega) (by omega) (show mU mwo or6 i = mV mwo or6 j from (show mwo (or6 i) = mwo (or6 (40 + j)) by omega)) (by omega)] at hw1; rw [List.append_assoc]; exact hw1) (by exact wap_r hi1 ⟨by omega, by omega⟩ (hwo _) ⟨by omega, by omega⟩ ⟨by omega, by omega⟩) (by omega)
        ·
          refine G.go hX 5 (moW W H mth mbd mne mnw mmn mbx 0 rs1 mrl mfl mpt mdf mlb mbo mwn mwo mxo myo or6 co5 ro1 mpw mph mrk mrb mrf mfr mfm med map mwh, 53, [(0, gr 60), (1, gi i), (2, gi j)], [gi (mwn 1), gi j]) rfl ?_ ?_
          · refine ⟨?_, trivial⟩
            · omega
          refine g_icmp_ge hX 268 rfl rfl ⟨by omega, by omega⟩ ⟨by omega, by omega⟩ (fun b53 => ?_) (fun b53 => ?_)
          ·
            have hfin : l1 = wWk (mwn 0) (mwn 1) (mU mwo or6) or6 (fun j => mxo (or6 j)) (fun j => myo (or6 j)) (mV mwo or6) (fun j => or6 (40 + j) - 40) (fun j => mxo (or6 (40 + j))) (fun j => myo (or6 (40 + j))) (fun a b => co5 (a * 41 + b)) 80 0 0 := by rw [← hw1, wWk_end (by omega) (by omega), List.append_nil]
            refine G.go hX 2 (moW W H mth mbd mne mnw mmn mbx 0 rs1 mrl mfl mpt mdf mlb mbo mwn mwo mxo myo or6 co5 ro1 mpw mph mrk mrb mrf mfr mfm med map mwh, 270, [(0, gr 60), (1, gi i), (2, gi j), (3, gi 0)], []) rfl trivial ?_
            have lp270 : ∀ (n : Nat) (k : Int) (ro3 : Int → Int), (0 ≤ k ∧ k ≤ rs1) → (ro3 = wpr rs1.toNat ro1 k.toNat) → (rs1 - k).toNat < n → G X mX8_compare ad 0 0 (moW W H mth mbd mne mnw mmn mbx 0 rs1 mrl mfl mpt mdf mlb mbo mwn mwo mxo myo or6 co5 ro3 mpw mph mrk mrb mrf mfr mfm med map mwh, 270, [(0, gr 60), (1, gi i), (2, gi j), (3, gi k)], []) := by
              intro n
              induction n with
              | zero => intro k ro3 hk hr3 hm9; exact absurd hm9 (Nat.not_lt_zero _)
              | succ n ih270 =>
                intro k ro3 hk hr3 hm270
                have hi3 : ∀ q : Int, inR (ro3 q) := by (rw [hr3]; exact wpr_r hi1 _ _)
                refine G.go hX 3 (moW W H mth mbd mne mnw mmn mbx 0 rs1 mrl mfl mpt mdf mlb mbo mwn mwo mxo myo or6 co5 ro3 mpw mph mrk mrb mrf mfr mfm med map mwh, 275, [(0, gr 60), (1, gi i), (2, gi j), (3, gi k)], [gi rs1, gi k]) rfl trivial ?_
                refine g_icmp_ge hX 391 rfl rfl ⟨by omega, by omega⟩ ⟨by omega, by omega⟩ (fun b275 => ?_) (fun b275 => ?_)
                ·
                  exact g_vret hX hE rfl ⟨or6, co5, rs1, ro3, rfl, rfl, ⟨hO0, hO1, _, hL5, ro1, by (rw [← hfin]; exact hr1), by (rw [← hfin]; exact hc1), fun q a b => by (rw [← hfin, hr3, show k = rs1 by omega, show rs1.toNat = l1.length by omega])⟩, hi3, by omega⟩
                ·
                  refine G.go hX 2 (moW W H mth mbd mne mnw mmn mbx 0 rs1 mrl mfl mpt mdf mlb mbo mwn mwo mxo myo or6 co5 ro3 mpw mph mrk mrb mrf mfr mfm med map mwh, 281, [(0, gr 60), (1, gi i), (2, gi j), (3, gi k), (4, gi 0)], []) rfl trivial ?_
                  have lp281 : ∀ (n : Nat) (q : Int) (ro5 : Int → Int), (0 ≤ q ∧ q ≤ rs1) → (mPk rs1.toNat ro3 ro5 k q) → (∀ q : Int, inR (ro5 q)) → (rs1 - q).toNat < n → G X mX8_compare ad 0 0 (moW W H mth mbd mne mnw mmn mbx 0 rs1 mrl mfl mpt mdf mlb mbo mwn mwo mxo myo or6 co5 ro5 mpw mph mrk mrb mrf mfr mfm med map mwh, 281, [(0, gr 60), (1, gi i), (2, gi j), (3, gi k), (4, gi q)], []) := by
                    intro n
                    induction n with
                    | zero => intro q ro5 hq hp5 hi5 hm9; exact absurd hm9 (Nat.not_lt_zero _)
                    | succ n ih281 =>
                      intro q ro5 hq hp5 hi5 hm281
                      refine G.go hX 3 (moW W H mth mbd mne mnw mmn mbx 0 rs1 mrl mfl mpt mdf mlb mbo mwn mwo mxo myo or6 co5 ro5 mpw mph mrk mrb mrf mfr mfm med map mwh, 287, [(0, gr 60), (1, gi i), (2, gi j), (3, gi k), (4, gi q)], [gi rs1, gi q]) rfl trivial ?_
                      refine g_icmp_ge hX 385 rfl rfl ⟨by omega, by omega⟩ ⟨by omega, by omega⟩ (fun b287 => ?_) (fun b287 => ?_)
                      ·
                        refine G.go hX 2 (moW W H mth mbd mne mnw mmn mbx 0 rs1 mrl mfl mpt mdf mlb mbo mwn mwo mxo myo or6 co5 ro5 mpw mph mrk mrb mrf mfr mfm med map mwh, 270, [(0, gr 60), (1, gi i), (2, gi j), (3, gi (k + 1)), (4, gi q)], []) rfl trivial ?_
                        refine G.locs [(0, gr 60), (1, gi i), (2, gi j), (3, gi (k + 1))] [0, 1, 2, 3] rfl ?_
                        exact ih270 (k + 1) ro5 (by omega) (by have h9 := mPk_end hp5 (by first | exact Or.inl (by omega) | exact Or.inr (by omega)); rw [h9, show (k + 1).toNat = k.toNat + 1 by omega]; show wp1 _ ro3 k = wp1 _ (wpr rs1.toNat ro1 k.toNat) ((k.toNat : Nat) : Int); rw [← hr3, show ((k.toNat : Nat) : Int) = k by omega]) (by omega)
                      ·
                        refine G.go hX 7 (moW W H mth mbd mne mnw mmn mbx 0 rs1 mrl mfl mpt mdf mlb mbo mwn mwo mxo myo or6 co5 ro5 mpw mph mrk mrb mrf mfr mfm med map mwh, 299, [(0, gr 60), (1, gi i), (2, gi j), (3, gi k), (4, gi q)], [gi 1, gi (ro5 (4 * k))]) rfl ?_ ?_
                        · refine ⟨?_, trivial⟩
                          · omega
                        refine g_icmp_ne hX 385 rfl rfl (by first | exact hi5 _ | exact ⟨by omega, by omega⟩) (by first | exact hi5 _ | exact ⟨by omega, by omega⟩) (fun b299 => ?_) (fun b299 => ?_)
                        ·
                          refine G.go hX 2 (moW W H mth mbd mne mnw mmn mbx 0 rs1 mrl mfl mpt mdf mlb mbo mwn mwo mxo myo or6 co5 ro5 mpw mph mrk mrb mrf mfr mfm med map mwh, 270, [(0, gr 60), (1, gi i), (2, gi j), (3, gi (k + 1)), (4, gi q)], []) rfl trivial ?_
                          refine G.locs [(0, gr 60), (1, gi i), (2, gi j), (3, gi (k + 1))] [0, 1, 2, 3] rfl ?_
                          exact ih270 (k + 1) ro5 (by omega) (by have h9 := mPk_end hp5 (by first | exact Or.inl (by omega) | exact Or.inr (by omega)); rw [h9, show (k + 1).toNat = k.toNat + 1 by omega]; show wp1 _ ro3 k = wp1 _ (wpr rs1.toNat ro1 k.toNat) ((k.toNat : Nat) : Int); rw [← hr3, show ((k.toNat : Nat) : Int) = k by omega]) (by omega)
                        ·
                          refine G.go hX 7 (moW W H mth mbd mne mnw mmn mbx 0 rs1 mrl mfl mpt mdf mlb mbo mwn mwo mxo myo or6 co5 ro5 mpw mph mrk mrb mrf mfr mfm med map mwh, 312, [(0, gr 60), (1, gi i), (2, gi j), (3, gi k), (4, gi q)], [gi 3, gi (ro5 (4 * q))]) rfl ?_ ?_
                          · refine ⟨?_, trivial⟩
                            · omega
                          refine g_icmp_ne hX 379 rfl rfl (by first | exact hi5 _ | exact ⟨by omega, by omega⟩) (by first | exact hi5 _ | exact ⟨by omega, by omega⟩) (fun b312 => ?_) (fun b312 => ?_)
                          ·
                            refine G.go hX 2 (moW W H mth mbd mne mnw mmn mbx 0 rs1 mrl mfl mpt mdf mlb mbo mwn mwo mxo myo or6 co5 ro5 mpw mph mrk mrb mrf mfr mfm med map mwh, 281, [(0, gr 60), (1, gi i), (2, gi j), (3, gi k), (4, gi (q + 1))], []) rfl trivial ?_
                            exact ih281 (q + 1) ro5 (by omega) (by exact mPk_skip hp5 (by omega) (by omega) (by omega)) (by exact hi5) (by omega)
                          ·
                            refine G.go hX 16 (moW W H mth mbd mne mnw mmn mbx 0 rs1 mrl mfl mpt mdf mlb mbo mwn mwo mxo myo or6 co5 ro5 mpw mph mrk mrb mrf mfr mfm med map mwh, 336, [(0, gr 60), (1, gi i), (2, gi j), (3, gi k), (4, gi q)], [gi (ro5 ((4 * k) + 1)), gi (ro5 ((4 * q) + 1))]) rfl ?_ ?_
                            · refine ⟨?_, ?_, trivial⟩
                              · omega
                              · omega
                            refine g_icmp_ne hX 379 rfl rfl (hi5 _) (hi5 _) (fun b336 => ?_) (fun b336 => ?_)
                            ·
                              refine G.go hX 2 (moW W H mth mbd mne mnw mmn mbx 0 rs1 mrl mfl mpt mdf mlb mbo mwn mwo mxo myo or6 co5 ro5 mpw mph mrk mrb mrf mfr mfm med map mwh, 281, [(0, gr 60), (1, gi i), (2, gi j), (3, gi k), (4, gi (q + 1))], []) rfl trivial ?_
                              exact ih281 (q + 1) ro5 (by omega) (by exact mPk_skip hp5 (by omega) (by omega) (by omega)) (by exact hi5) (by omega)
                            ·
                              refine G.go hX 32 (moW W H mth mbd mne mnw mmn mbx 0 rs1 mrl mfl mpt mdf mlb mbo mwn mwo mxo myo or6 co5 (gu (gu (gu ro5 (4 * k) 2) ((4 * k) + 3) ((gu ro5 (4 * k) 2) ((4 * q) + 3))) (4 * q) 0) mpw mph mrk mrb mrf mfr mfm med map mwh, 281, [(0, gr 60), (1, gi i), (2, gi j), (3, gi k), (4, gi (q + 1))], []) rfl ?_ ?_
                              · refine ⟨?_, ?_, ?_, ?_, trivial⟩
                                · omega
                                · omega
                                · omega
                                · omega
                              exact ih281 (q + 1) (gu (gu (gu ro5 (4 * k) 2) ((4 * k) + 3) ((gu ro5 (4 * k) 2) ((4 * q) + 3))) (4 * q) 0) (by omega) (by exact mPk_found hp5 (by omega) (by omega) (by omega) ⟨by omega, by omega⟩) (by exact gu_r (gu_r (gu_r hi5 ⟨by omega, by omega⟩) (gu_r hi5 ⟨by omega, by omega⟩ _)) ⟨by omega, by omega⟩) (by omega)
                  exact lp281 _ 0 ro3 (by omega) (by exact Or.inl ⟨rfl, fun _ => by rw [show ((rs1.toNat : Nat) - (0 : Int)).toNat = rs1.toNat by omega]⟩) (by exact hi3) (Nat.lt_succ_self _)
            exact lp270 _ 0 ro1 (by omega) (by rfl) (Nat.lt_succ_self _)
          ·
            have hfu : (80 - st).toNat = (80 - (st + 1)).toNat + 1 := by omega
            refine G.go hX 5 (moW W H mth mbd mne mnw mmn mbx 0 rs1 mrl mfl mpt mdf mlb mbo mwn mwo mxo myo or6 co5 ro1 mpw mph mrk mrb mrf mfr mfm med map mwh, 63, [(0, gr 60), (1, gi i), (2, gi j)], [gi (mwn 0), gi i]) rfl ?_ ?_
            · refine ⟨?_, trivial⟩
              · omega
            refine g_icmp_ge hX 75 rfl rfl ⟨by omega, by omega⟩ ⟨by omega, by omega⟩ (fun b63 => ?_) (fun b63 => ?_)
            ·
              refine G.go hX 7 (moW W H mth mbd mne mnw mmn mbx 0 rs1 mrl mfl mpt mdf mlb mbo mwn mwo mxo myo or6 co5 ro1 mpw mph mrk mrb mrf mfr mfm med map mwh, 84, [(0, gr 60), (1, gi i), (2, gi j), (3, gi (-1))], [gi (mwn 1), gi j]) rfl ?_ ?_
              · refine ⟨?_, trivial⟩
                · omega
              refine g_icmp_ge hX 96 rfl rfl ⟨by omega, by omega⟩ ⟨by omega, by omega⟩ (fun b84 => ?_) (fun b84 => ?_)
              ·
                exfalso
                omega
              ·
                have e1 := hor1 j (by omega) (by omega)
                refine G.go hX 3 (moW W H mth mbd mne mnw mmn mbx 0 rs1 mrl mfl mpt mdf mlb mbo mwn mwo mxo myo or6 co5 ro1 mpw mph mrk mrb mrf mfr mfm med map mwh, 90, [(0, gr 60), (1, gi i), (2, gi j), (3, gi (-1))], [gi j, gi 1, gr 60]) rfl trivial ?_
                refine G.callV (av := [gi 1, gi j]) (o := 60) (st := []) hX rfl (fun l D cA => c_X8_at l D cA W H mth mbd mne mnw mmn mbx 0 rs1 mrl mfl mpt mdf mlb mbo mwn mwo mxo myo or6 co5 ro1 mpw mph mrk mrb mrf mfr mfm med map mwh 1 j (by first | assumption | omega)) (by decide +kernel) aX8_at rfl rfl rfl ⟨rfl, rfl⟩ (by decide) (Nat.le_of_ble_eq_true rfl) [0, 1, 2, 3, 4, 5, 6, 7, 8, 9, 10, 11, 12, 13, 14, 15, 16, 17, 18, 19, 20, 21] [] [] rfl rfl rfl (fun r w' hp => ?_)
                obtain ⟨rfl, rfl⟩ := hp
                rw [show (40 * 1 + j : Int) = 40 + j by omega]
                show G X mX8_compare ad 0 0 (moW W H mth mbd mne mnw mmn mbx 0 rs1 mrl mfl mpt mdf mlb mbo mwn mwo mxo myo or6 co5 ro1 mpw mph mrk mrb mrf mfr mfm med map mwh, 93, [(0, gr 60), (1, gi i), (2, gi j), (3, gi (-1))], [gi (or6 (40 + j))])
                refine G.go hX 10 (moW W H mth mbd mne mnw mmn mbx 0 rs1 mrl mfl mpt mdf mlb mbo mwn mwo mxo myo or6 co5 ro1 mpw mph mrk mrb mrf mfr mfm med map mwh, 109, [(0, gr 60), (1, gi i), (2, gi j), (3, gi (-1)), (4, gi (or6 (40 + j))), (5, gi ((41 * i) + j))], [gi (-1), gi (-1)]) rfl trivial ?_
                refine g_icmp_eq hX 192 rfl rfl ⟨by omega, by omega⟩ ⟨by omega, by omega⟩ (fun b109 => ?_) (fun b109 => ?_)
                ·
                  refine G.go hX 2 (moW W H mth mbd mne mnw mmn mbx 0 rs1 mrl mfl mpt mdf mlb mbo mwn mwo mxo myo or6 co5 ro1 mpw mph mrk mrb mrf mfr mfm med map mwh, 195, [(0, gr 60), (1, gi i), (2, gi j), (3, gi (-1)), (4, gi (or6 (40 + j))), (5, gi ((41 * i) + j))], [gi (-1), gi (or6 (40 + j))]) rfl trivial ?_
                  refine g_icmp_eq hX 225 rfl rfl ⟨by omega, by omega⟩ ⟨by omega, by omega⟩ (fun b195 => ?_) (fun b195 => ?_)
                  ·
                    exfalso
                    omega
                  ·
                    refine G.go hX 2 (moW W H mth mbd mne mnw mmn mbx 0 rs1 mrl mfl mpt mdf mlb mbo mwn mwo mxo myo or6 co5 ro1 mpw mph mrk mrb mrf mfr mfm med map mwh, 200, [(0, gr 60), (1, gi i), (2, gi j), (3, gi (-1)), (4, gi (or6 (40 + j))), (5, gi ((41 * i) + j))], [gi (-1), gi (-1)]) rfl trivial ?_
                    refine g_icmp_eq hX 244 rfl rfl ⟨by omega, by omega⟩ ⟨by omega, by omega⟩ (fun b200 => ?_) (fun b200 => ?_)
                    ·
                      refine G.go hX 10 (moW W H mth mbd mne mnw mmn mbx 0 rs1 mrl mfl mpt mdf mlb mbo mwn mwo mxo myo or6 co5 ro1 mpw mph mrk mrb mrf mfr mfm med map mwh, 259, [(0, gr 60), (1, gi i), (2, gi j), (3, gi (-1)), (4, gi (or6 (40 + j))), (5, gi ((41 * i) + j))], [gi ((or6 (40 + j)) - 40), gi (-1), gi (mwo (or6 (40 + j))), gi 3, gr 60]) rfl ?_ ?_
                      · refine ⟨?_, trivial⟩
                        · omega
                      refine G.callV (av := [gi 3, gi (mwo (or6 (40 + j))), gi (-1), gi ((or6 (40 + j)) - 40)]) (o := 60) (st := []) hX rfl (fun l D cA => c_X8_addRow l D cA W H mth mbd mne mnw mmn mbx 0 rs1 mrl mfl mpt mdf mlb mbo mwn mwo mxo myo or6 co5 ro1 mpw mph mrk mrb mrf mfr mfm med map mwh 3 (mwo (or6 (40 + j))) (-1) ((or6 (40 + j)) - 40) (by first | assumption | omega)) (by decide +kernel) aX8_addRow rfl rfl rfl ⟨rfl, rfl⟩ (by decide) (Nat.le_of_ble_eq_true rfl) [0, 1, 2, 3, 4, 5, 6, 7, 8, 9, 10, 11, 12, 13, 14, 15, 16, 17, 18, 19, 20, 21] [] [] rfl rfl rfl (fun r w' hp => ?_)
                      obtain ⟨rfl, rfl⟩ := hp
                      show G X mX8_compare ad 0 0 (moW W H mth mbd mne mnw mmn mbx 0 (rs1 + 1) mrl mfl mpt mdf mlb mbo mwn mwo mxo myo or6 co5 (wap ro1 rs1 3 (mwo (or6 (40 + j))) (-1) ((or6 (40 + j)) - 40)) mpw mph mrk mrb mrf mfr mfm med map mwh, 262, [(0, gr 60), (1, gi i), (2, gi j), (3, gi (-1)), (4, gi (or6 (40 + j))), (5, gi ((41 * i) + j))], [])
                      refine G.go hX 2 (moW W H mth mbd mne mnw mmn mbx 0 (rs1 + 1) mrl mfl mpt mdf mlb mbo mwn mwo mxo myo or6 co5 (wap ro1 rs1 3 (mwo (or6 (40 + j))) (-1) ((or6 (40 + j)) - 40)) mpw mph mrk mrb mrf mfr mfm med map mwh, 36, [(0, gr 60), (1, gi i), (2, gi (j + 1)), (3, gi (-1)), (4, gi (or6 (40 + j))), (5, gi ((41 * i) + j))], []) rfl trivial ?_
                      refine G.locs [(0, gr 60), (1, gi i), (2, gi (j + 1))] [0, 1, 2] rfl ?_
                      exact ih36 i (j + 1) (st + 1) (rs1 + 1) (wap ro1 rs1 3 (mwo (or6 (40 + j))) (-1) ((or6 (40 + j)) - 40)) (l1 ++ [(3, mwo (or6 (40 + j)), -1, or6 (40 + j) - 40)]) (by omega) (by omega) (by rw [List.length_append, hc1]; simp) (by exact wrl_app hr1 hc1) (by rw [hfu, wWk_new _ (by first | (intro h9; exact b131 h9.2.2) | omega) (by first | omega | (intro h9; rw [g1, g2] at b222; omega)) (by omega)] at hw1; rw [List.append_assoc]; exact hw1) (by exact wap_r hi1 ⟨by omega, by omega⟩ (hwo _) ⟨by omega, by omega⟩ ⟨by omega, by omega⟩) (by omega)
                    ·
                      exfalso
                      omega
                ·
                  exfalso
                  omega
            ·
              have e0 := hor0 i (by omega) (by omega)
              refine G.go hX 3 (moW W H mth mbd mne mnw mmn mbx 0 rs1 mrl mfl mpt mdf mlb mbo mwn mwo mxo myo or6 co5 ro1 mpw mph mrk mrb mrf mfr mfm med map mwh, 69, [(0, gr 60), (1, gi i), (2, gi j)], [gi i, gi 0, gr 60]) rfl trivial ?_
              refine G.callV (av := [gi 0, gi i]) (o := 60) (st := []) hX rfl (fun l D cA => c_X8_at l D cA W H mth mbd mne mnw mmn mbx 0 rs1 mrl mfl mpt mdf mlb mbo mwn mwo mxo myo or6 co5 ro1 mpw mph mrk mrb mrf mfr mfm med map mwh 0 i (by first | assumption | omega)) (by decide +kernel) aX8_at rfl rfl rfl ⟨rfl, rfl⟩ (by decide) (Nat.le_of_ble_eq_true rfl) [0, 1, 2, 3, 4, 5, 6, 7, 8, 9, 10, 11, 12, 13, 14, 15, 16, 17, 18, 19, 20, 21] [] [] rfl rfl rfl (fun r w' hp => ?_)
              obtain ⟨rfl, rfl⟩ := hp
              rw [show (40 * 0 + i : Int) = i by omega]
              show G X mX8_compare ad 0 0 (moW W H mth mbd mne mnw mmn mbx 0 rs1 mrl mfl mpt mdf mlb mbo mwn mwo mxo myo or6 co5 ro1 mpw mph mrk mrb mrf mfr mfm med map mwh, 72, [(0, gr 60), (1, gi i), (2, gi j)], [gi (or6 (i))])
              refine G.go hX 7 (moW W H mth mbd mne mnw mmn mbx 0 rs1 mrl mfl mpt mdf mlb mbo mwn mwo mxo myo or6 co5 ro1 mpw mph mrk mrb mrf mfr mfm med map mwh, 84, [(0, gr 60), (1, gi i), (2, gi j), (3, gi (or6 (i)))], [gi (mwn 1), gi j]) rfl ?_ ?_
              · refine ⟨?_, trivial⟩
                · omega
              refine g_icmp_ge hX 96 rfl rfl ⟨by omega, by omega⟩ ⟨by omega, by omega⟩ (fun b84 => ?_) (fun b84 => ?_)
              ·
                refine G.go hX 10 (moW W H mth mbd mne mnw mmn mbx 0 rs1 mrl mfl mpt mdf mlb mbo mwn mwo mxo myo or6 co5 ro1 mpw mph mrk mrb mrf mfr mfm med map mwh, 109, [(0, gr 60), (1, gi i), (2, gi j), (3, gi (or6 (i))), (4, gi (-1)), (5, gi ((41 * i) + j))], [gi (-1), gi (or6 (i))]) rfl trivial ?_
                refine g_icmp_eq hX 192 rfl rfl ⟨by omega, by omega⟩ ⟨by omega, by omega⟩ (fun b109 => ?_) (fun b109 => ?_)
                ·
                  refine G.go hX 2 (moW W H mth mbd mne mnw mmn mbx 0 rs1 mrl mfl mpt mdf mlb mbo mwn mwo mxo myo or6 co5 ro1 mpw mph mrk mrb mrf mfr mfm med map mwh, 195, [(0, gr 60), (1, gi i), (2, gi j), (3, gi (or6 (i))), (4, gi (-1)), (5, gi ((41 * i) + j))], [gi (-1), gi (-1)]) rfl trivial ?_
                  refine g_icmp_eq hX 225 rfl rfl ⟨by omega, by omega⟩ ⟨by omega, by omega⟩ (fun b195 => ?_) (fun b195 => ?_)
                  ·
                    refine G.go hX 8 (moW W H mth mbd mne mnw mmn mbx 0 rs1 mrl mfl mpt mdf mlb mbo mwn mwo mxo myo or6 co5 ro1 mpw mph mrk mrb mrf mfr mfm med map mwh, 235, [(0, gr 60), (1, gi i), (2, gi j), (3, gi (or6 (i))), (4, gi (-1)), (5, gi ((41 * i) + j))], [gi (-1), gi (or6 (i)), gi (mwo (or6 (i))), gi 1, gr 60]) rfl ?_ ?_
                    · refine ⟨?_, trivial⟩
                      · omega
                    refine G.callV (av := [gi 1, gi (mwo (or6 (i))), gi (or6 (i)), gi (-1)]) (o := 60) (st := []) hX rfl (fun l D cA => c_X8_addRow l D cA W H mth mbd mne mnw mmn mbx 0 rs1 mrl mfl mpt mdf mlb mbo mwn mwo mxo myo or6 co5 ro1 mpw mph mrk mrb mrf mfr mfm med map mwh 1 (mwo (or6 (i))) (or6 (i)) (-1) (by first | assumption | omega)) (by decide +kernel) aX8_addRow rfl rfl rfl ⟨rfl, rfl⟩ (by decide) (Nat.le_of_ble_eq_true rfl) [0, 1, 2, 3, 4, 5, 6, 7, 8, 9, 10, 11, 12, 13, 14, 15, 16, 17, 18, 19, 20, 21] [] [] rfl rfl rfl (fun r w' hp => ?_)
                    obtain ⟨rfl, rfl⟩ := hp
                    show G X mX8_compare ad 0 0 (moW W H mth mbd mne mnw mmn mbx 0 (rs1 + 1) mrl mfl mpt mdf mlb mbo mwn mwo mxo myo or6 co5 (wap ro1 rs1 1 (mwo (or6 (i))) (or6 (i)) (-1)) mpw mph mrk mrb mrf mfr mfm med map mwh, 238, [(0, gr 60), (1, gi i), (2, gi j), (3, gi (or6 (i))), (4, gi (-1)), (5, gi ((41 * i) + j))], [])
                    refine G.go hX 3 (moW W H mth mbd mne mnw mmn mbx 0 (rs1 + 1) mrl mfl mpt mdf mlb mbo mwn mwo mxo myo or6 co5 (wap ro1 rs1 1 (mwo (or6 (i))) (or6 (i)) (-1)) mpw mph mrk mrb mrf mfr mfm med map mwh, 36, [(0, gr 60), (1, gi (i + 1)), (2, gi j), (3, gi (or6 (i))), (4, gi (-1)), (5, gi ((41 * i) + j))], []) rfl trivial ?_
                    refine G.locs [(0, gr 60), (1, gi (i + 1)), (2, gi j)] [0, 1, 2] rfl ?_
                    exact ih36 (i + 1) j (st + 1) (rs1 + 1) (wap ro1 rs1 1 (mwo (or6 (i))) (or6 (i)) (-1)) (l1 ++ [(1, mwo (or6 i), or6 i, -1)]) (by omega) (by omega) (by rw [List.length_append, hc1]; simp) (by exact wrl_app hr1 hc1) (by rw [hfu, wWk_gone _ (by first | (intro h9; exact b131 h9.2.2) | omega) (by first | (refine ⟨by omega, Or.inl (by omega)⟩) | (refine ⟨by omega, Or.inr ?_⟩; rw [g1, g2] at b222; omega))] at hw1; rw [List.append_assoc]; exact hw1) (by exact wap_r hi1 ⟨by omega, by omega⟩ (hwo _) ⟨by omega, by omega⟩ ⟨by omega, by omega⟩) (by omega)
                  ·
                    exfalso
                    omega
                ·
                  refine G.go hX 2 (moW W H mth mbd mne mnw mmn mbx 0 rs1 mrl mfl mpt mdf mlb mbo mwn mwo mxo myo or6 co5 ro1 mpw mph mrk mrb mrf mfr mfm med map mwh, 115, [(0, gr 60), (1, gi i), (2, gi j), (3, gi (or6 (i))), (4, gi (-1)), (5, gi ((41 * i) + j))], [gi (-1), gi (-1)]) rfl trivial ?_
                  refine g_icmp_eq hX 192 rfl rfl ⟨by omega, by omega⟩ ⟨by omega, by omega⟩ (fun b115 => ?_) (fun b115 => ?_)
                  ·
                    refine G.go hX 2 (moW W H mth mbd mne mnw mmn mbx 0 rs1 mrl mfl mpt mdf mlb mbo mwn mwo mxo myo or6 co5 ro1 mpw mph mrk mrb mrf mfr mfm med map mwh, 195, [(0, gr 60), (1, gi i), (2, gi j), (3, gi (or6 (i))), (4, gi (-1)), (5, gi ((41 * i) + j))], [gi (-1), gi (-1)]) rfl trivial ?_
                    refine g_icmp_eq hX 225 rfl rfl ⟨by omega, by omega⟩ ⟨by omega, by omega⟩ (fun b195 => ?_) (fun b195 => ?_)
                    ·
                      refine G.go hX 8 (moW W H mth mbd mne mnw mmn mbx 0 rs1 mrl mfl mpt mdf mlb mbo mwn mwo mxo myo or6 co5 ro1 mpw mph mrk mrb mrf mfr mfm med map mwh, 235, [(0, gr 60), (1, gi i), (2, gi j), (3, gi (or6 (i))), (4, gi (-1)), (5, gi ((41 * i) + j))], [gi (-1), gi (or6 (i)), gi (mwo (or6 (i))), gi 1, gr 60]) rfl ?_ ?_
                      · refine ⟨?_, trivial⟩
                        · omega
                      refine G.callV (av := [gi 1, gi (mwo (or6 (i))), gi (or6 (i)), gi (-1)]) (o := 60) (st := []) hX rfl (fun l D cA => c_X8_addRow l D cA W H mth mbd mne mnw mmn mbx 0 rs1 mrl mfl mpt mdf mlb mbo mwn mwo mxo myo or6 co5 ro1 mpw mph mrk mrb mrf mfr mfm med map mwh 1 (mwo (or6 (i))) (or6 (i)) (-1) (by first | assumption | omega)) (by decide +kernel) aX8_addRow rfl rfl rfl ⟨rfl, rfl⟩ (by decide) (Nat.le_of_ble_eq_true rfl) [0, 1, 2, 3, 4, 5, 6, 7, 8, 9, 10, 11, 12, 13, 14, 15, 16, 17, 18, 19, 20, 21] [] [] rfl rfl rfl (fun r w' hp => ?_)
                      obtain ⟨rfl, rfl⟩ := hp
                      show G X mX8_compare ad 0 0 (moW W H mth mbd mne mnw mmn mbx 0 (rs1 + 1) mrl mfl mpt mdf mlb mbo mwn mwo mxo myo or6 co5 (wap ro1 rs1 1 (mwo (or6 (i))) (or6 (i)) (-1)) mpw mph mrk mrb mrf mfr mfm med map mwh, 238, [(0, gr 60), (1, gi i), (2, gi j), (3, gi (or6 (i))), (4, gi (-1)), (5, gi ((41 * i) + j))], [])
                      refine G.go hX 3 (moW W H mth mbd mne mnw mmn mbx 0 (rs1 + 1) mrl mfl mpt mdf mlb mbo mwn mwo mxo myo or6 co5 (wap ro1 rs1 1 (mwo (or6 (i))) (or6 (i)) (-1)) mpw mph mrk mrb mrf mfr mfm med map mwh, 36, [(0, gr 60), (1, gi (i + 1)), (2, gi j), (3, gi (or6 (i))), (4, gi (-1)), (5, gi ((41 * i) + j))], []) rfl trivial ?_
                      refine G.locs [(0, gr 60), (1, gi (i + 1)), (2, gi j)] [0, 1, 2] rfl ?_
                      exact ih36 (i + 1) j (st + 1) (rs1 + 1) (wap ro1 rs1 1 (mwo (or6 (i))) (or6 (i)) (-1)) (l1 ++ [(1, mwo (or6 i), or6 i, -1)]) (by omega) (by omega) (by rw [List.length_append, hc1]; simp) (by exact wrl_app hr1 hc1) (by rw [hfu, wWk_gone _ (by first | (intro h9; exact b131 h9.2.2) | omega) (by first | (refine ⟨by omega, Or.inl (by omega)⟩) | (refine ⟨by omega, Or.inr ?_⟩; rw [g1, g2] at b222; omega))] at hw1; rw [List.append_assoc]; exact hw1) (by exact wap_r hi1 ⟨by omega, by omega⟩ (hwo _) ⟨by omega, by omega⟩ ⟨by omega, by omega⟩) (by omega)
                    ·
                      exfalso
                      omega
                  ·
                    exfalso
                    omega
              ·
                have e1 := hor1 j (by omega) (by omega)
                refine G.go hX 3 (moW W H mth mbd mne mnw mmn mbx 0 rs1 mrl mfl mpt mdf mlb mbo mwn mwo mxo myo or6 co5 ro1 mpw mph mrk mrb mrf mfr mfm med map mwh, 90, [(0, gr 60), (1, gi i), (2, gi j), (3, gi (or6 (i)))], [gi j, gi 1, gr 60]) rfl trivial ?_
                refine G.callV (av := [gi 1, gi j]) (o := 60) (st := []) hX rfl (fun l D cA => c_X8_at l D cA W H mth mbd mne mnw mmn mbx 0 rs1 mrl mfl mpt mdf mlb mbo mwn mwo mxo myo or6 co5 ro1 mpw mph mrk mrb mrf mfr mfm med map mwh 1 j (by first | assumption | omega)) (by decide +kernel) aX8_at rfl rfl rfl ⟨rfl, rfl⟩ (by decide) (Nat.le_of_ble_eq_true rfl) [0, 1, 2, 3, 4, 5, 6, 7, 8, 9, 10, 11, 12, 13, 14, 15, 16, 17, 18, 19, 20, 21] [] [] rfl rfl rfl (fun r w' hp => ?_)
                obtain ⟨rfl, rfl⟩ := hp
                rw [show (40 * 1 + j : Int) = 40 + j by omega]
                show G X mX8_compare ad 0 0 (moW W H mth mbd mne mnw mmn mbx 0 rs1 mrl mfl mpt mdf mlb mbo mwn mwo mxo myo or6 co5 ro1 mpw mph mrk mrb mrf mfr mfm med map mwh, 93, [(0, gr 60), (1, gi i), (2, gi j), (3, gi (or6 (i)))], [gi (or6 (40 + j))])
                refine G.go hX 10 (moW W H mth mbd mne mnw mmn mbx 0 rs1 mrl mfl mpt mdf mlb mbo mwn mwo mxo myo or6 co5 ro1 mpw mph mrk mrb mrf mfr mfm med map mwh, 109, [(0, gr 60), (1, gi i), (2, gi j), (3, gi (or6 (i))), (4, gi (or6 (40 + j))), (5, gi ((41 * i) + j))], [gi (-1), gi (or6 (i))]) rfl trivial ?_
                refine g_icmp_eq hX 192 rfl rfl ⟨by omega, by omega⟩ ⟨by omega, by omega⟩ (fun b109 => ?_) (fun b109 => ?_)
                ·
                  refine G.go hX 2 (moW W H mth mbd mne mnw mmn mbx 0 rs1 mrl mfl mpt mdf mlb mbo mwn mwo mxo myo or6 co5 ro1 mpw mph mrk mrb mrf mfr mfm med map mwh, 195, [(0, gr 60), (1, gi i), (2, gi j), (3, gi (or6 (i))), (4, gi (or6 (40 + j))), (5, gi ((41 * i) + j))], [gi (-1), gi (or6 (40 + j))]) rfl trivial ?_
                  refine g_icmp_eq hX 225 rfl rfl ⟨by omega, by omega⟩ ⟨by omega, by omega⟩ (fun b195 => ?_) (fun b195 => ?_)
                  ·
                    exfalso
                    omega
                  ·
                    refine G.go hX 2 (moW W H mth mbd mne mnw mmn mbx 0 rs1 mrl mfl mpt mdf mlb mbo mwn mwo mxo myo or6 co5 ro1 mpw mph mrk mrb mrf mfr mfm med map mwh, 200, [(0, gr 60), (1, gi i), (2, gi j), (3, gi (or6 (i))), (4, gi (or6 (40 + j))), (5, gi ((41 * i) + j))], [gi (-1), gi (or6 (i))]) rfl trivial ?_
                    refine g_icmp_eq hX 244 rfl rfl ⟨by omega, by omega⟩ ⟨by omega, by omega⟩ (fun b200 => ?_) (fun b200 => ?_)
                    ·
                      refine G.go hX 10 (moW W H mth mbd mne mnw mmn mbx 0 rs1 mrl mfl mpt mdf mlb mbo mwn mwo mxo myo or6 co5 ro1 mpw mph mrk mrb mrf mfr mfm med map mwh, 259, [(0, gr 60), (1, gi i), (2, gi j), (3, gi (or6 (i))), (4, gi (or6 (40 + j))), (5, gi ((41 * i) + j))], [gi ((or6 (40 + j)) - 40), gi (-1), gi (mwo (or6 (40 + j))), gi 3, gr 60]) rfl ?_ ?_
                      · refine ⟨?_, trivial⟩
                        · omega
                      refine G.callV (av := [gi 3, gi (mwo (or6 (40 + j))), gi (-1), gi ((or6 (40 + j)) - 40)]) (o := 60) (st := []) hX rfl (fun l D cA => c_X8_addRow l D cA W H mth mbd mne mnw mmn mbx 0 rs1 mrl mfl mpt mdf mlb mbo mwn mwo mxo myo or6 co5 ro1 mpw mph mrk mrb mrf mfr mfm med map mwh 3 (mwo (or6 (40 + j))) (-1) ((or6 (40 + j)) - 40) (by first | assumption | omega)) (by decide +kernel) aX8_addRow rfl rfl rfl ⟨rfl, rfl⟩ (by decide) (Nat.le_of_ble_eq_true rfl) [0, 1, 2, 3, 4, 5, 6, 7, 8, 9, 10, 11, 12, 13, 14, 15, 16, 17, 18, 19, 20, 21] [] [] rfl rfl rfl (fun r w' hp => ?_)
                      obtain ⟨rfl, rfl⟩ := hp
                      show G X mX8_compare ad 0 0 (moW W H mth mbd mne mnw mmn mbx 0 (rs1 + 1) mrl mfl mpt mdf mlb mbo mwn mwo mxo myo or6 co5 (wap ro1 rs1 3 (mwo (or6 (40 + j))) (-1) ((or6 (40 + j)) - 40)) mpw mph mrk mrb mrf mfr mfm med map mwh, 262, [(0, gr 60), (1, gi i), (2, gi j), (3, gi (or6 (i))), (4, gi (or6 (40 + j))), (5, gi ((41 * i) + j))], [])
                      refine G.go hX 2 (moW W H mth mbd mne mnw mmn mbx 0 (rs1 + 1) mrl mfl mpt mdf mlb mbo mwn mwo mxo myo or6 co5 (wap ro1 rs1 3 (mwo (or6 (40 + j))) (-1) ((or6 (40 + j)) - 40)) mpw mph mrk mrb mrf mfr mfm med map mwh, 36, [(0, gr 60), (1, gi i), (2, gi (j + 1)), (3, gi (or6 (i))), (4, gi (or6 (40 + j))), (5, gi ((41 * i) + j))], []) rfl trivial ?_
                      refine G.locs [(0, gr 60), (1, gi i), (2, gi (j + 1))] [0, 1, 2] rfl ?_
                      exact ih36 i (j + 1) (st + 1) (rs1 + 1) (wap ro1 rs1 3 (mwo (or6 (40 + j))) (-1) ((or6 (40 + j)) - 40)) (l1 ++ [(3, mwo (or6 (40 + j)), -1, or6 (40 + j) - 40)]) (by omega) (by omega) (by rw [List.length_append, hc1]; simp) (by exact wrl_app hr1 hc1) (by rw [hfu, wWk_new _ (by first | (intro h9; exact b131 h9.2.2) | omega) (by first | omega | (intro h9; rw [g1, g2] at b222; omega)) (by omega)] at hw1; rw [List.append_assoc]; exact hw1) (by exact wap_r hi1 ⟨by omega, by omega⟩ (hwo _) ⟨by omega, by omega⟩ ⟨by omega, by omega⟩) (by omega)
                    ·
                      have k1 := hL5 (i + 1) j (by omega) (by omega) (by omega) (by omega)
                      have k2 := hL5 i (j + 1) (by omega) (by omega) (by omega) (by omega)
                      have g1 : (41 * i) + j + 41 = (i + 1) * 41 + j := by omega
                      have g2 : (41 * i) + j + 1 = i * 41 + (j + 1) := by omega
                      dsimp only at k1 k2
                      refine G.go hX 12 (moW W H mth mbd mne mnw mmn mbx 0 rs1 mrl mfl mpt mdf mlb mbo mwn mwo mxo myo or6 co5 ro1 mpw mph mrk mrb mrf mfr mfm med map mwh, 222, [(0, gr 60), (1, gi i), (2, gi j), (3, gi (or6 (i))), (4, gi (or6 (40 + j))), (5, gi ((41 * i) + j))], [gi (co5 (((41 * i) + j) + 1)), gi (co5 (((41 * i) + j) + 41))]) rfl ?_ ?_
                      · refine ⟨?_, ?_, trivial⟩
                        · omega
                        · omega
                      refine g_icmp_lt hX 244 rfl rfl (by first | (rw [g1]; exact ⟨by omega, by omega⟩) | (rw [g2]; exact ⟨by omega, by omega⟩)) (by first | (rw [g1]; exact ⟨by omega, by omega⟩) | (rw [g2]; exact ⟨by omega, by omega⟩)) (fun b222 => ?_) (fun b222 => ?_)
                      ·
                        refine G.go hX 10 (moW W H mth mbd mne mnw mmn mbx 0 rs1 mrl mfl mpt mdf mlb mbo mwn mwo mxo myo or6 co5 ro1 mpw mph mrk mrb mrf mfr mfm med map mwh, 259, [(0, gr 60), (1, gi i), (2, gi j), (3, gi (or6 (i))), (4, gi (or6 (40 + j))), (5, gi ((41 * i) + j))], [gi ((or6 (40 + j)) - 40), gi (-1), gi (mwo (or6 (40 + j))), gi 3, gr 60]) rfl ?_ ?_
                        · refine ⟨?_, trivial⟩
                          · omega
                        refine G.callV (av := [gi 3, gi (mwo (or6 (40 + j))), gi (-1), gi ((or6 (40 + j)) - 40)]) (o := 60) (st := []) hX rfl (fun l D cA => c_X8_addRow l D cA W H mth mbd mne mnw mmn mbx 0 rs1 mrl mfl mpt mdf mlb mbo mwn mwo mxo myo or6 co5 ro1 mpw mph mrk mrb mrf mfr mfm med map mwh 3 (mwo (or6 (40 + j))) (-1) ((or6 (40 + j)) - 40) (by first | assumption | omega)) (by decide +kernel) aX8_addRow rfl rfl rfl ⟨rfl, rfl⟩ (by decide) (Nat.le_of_ble_eq_true rfl) [0, 1, 2, 3, 4, 5, 6, 7, 8, 9, 10, 11, 12, 13, 14, 15, 16, 17, 18, 19, 20, 21] [] [] rfl rfl rfl (fun r w' hp => ?_)
                        obtain ⟨rfl, rfl⟩ := hp
                        show G X mX8_compare ad 0 0 (moW W H mth mbd mne mnw mmn mbx 0 (rs1 + 1) mrl mfl mpt mdf mlb mbo mwn mwo mxo myo or6 co5 (wap ro1 rs1 3 (mwo (or6 (40 + j))) (-1) ((or6 (40 + j)) - 40)) mpw mph mrk mrb mrf mfr mfm med map mwh, 262, [(0, gr 60), (1, gi i), (2, gi j), (3, gi (or6 (i))), (4, gi (or6 (40 + j))), (5, gi ((41 * i) + j))], [])
                        refine G.go hX 2 (moW W H mth mbd mne mnw mmn mbx 0 (rs1 + 1) mrl mfl mpt mdf mlb mbo mwn mwo mxo myo or6 co5 (wap ro1 rs1 3 (mwo (or6 (40 + j))) (-1) ((or6 (40 + j)) - 40)) mpw mph mrk mrb mrf mfr mfm med map mwh, 36, [(0, gr 60), (1, gi i), (2, gi (j + 1)), (3, gi (or6 (i))), (4, gi (or6 (40 + j))), (5, gi ((41 * i) + j))], []) rfl trivial ?_
                        refine G.locs [(0, gr 60), (1, gi i), (2, gi (j + 1))] [0, 1, 2] rfl ?_
                        exact ih36 i (j + 1) (st + 1) (rs1 + 1) (wap ro1 rs1 3 (mwo (or6 (40 + j))) (-1) ((or6 (40 + j)) - 40)) (l1 ++ [(3, mwo (or6 (40 + j)), -1, or6 (40 + j) - 40)]) (by omega) (by omega) (by rw [List.length_append, hc1]; simp) (by exact wrl_app hr1 hc1) (by rw [hfu, wWk_new _ (by first | (intro h9; exact b131 h9.2.2) | omega) (by first | omega | (intro h9; rw [g1, g2] at b222; omega)) (by omega)] at hw1; rw [List.append_assoc]; exact hw1) (by exact wap_r hi1 ⟨by omega, by omega⟩ (hwo _) ⟨by omega, by omega⟩ ⟨by omega, by omega⟩) (by omega)
                      ·
                        refine G.go hX 8 (moW W H mth mbd mne mnw mmn mbx 0 rs1 mrl mfl mpt mdf mlb mbo mwn mwo mxo myo or6 co5 ro1 mpw mph mrk mrb mrf mfr mfm med map mwh, 235, [(0, gr 60), (1, gi i), (2, gi j), (3, gi (or6 (i))), (4, gi (or6 (40 + j))), (5, gi ((41 * i) + j))], [gi (-1), gi (or6 (i)), gi (mwo (or6 (i))), gi 1, gr 60]) rfl ?_ ?_
                        · refine ⟨?_, trivial⟩
                          · omega
                        refine G.callV (av := [gi 1, gi (mwo (or6 (i))), gi (or6 (i)), gi (-1)]) (o := 60) (st := []) hX rfl (fun l D cA => c_X8_addRow l D cA W H mth mbd mne mnw mmn mbx 0 rs1 mrl mfl mpt mdf mlb mbo mwn mwo mxo myo or6 co5 ro1 mpw mph mrk mrb mrf mfr mfm med map mwh 1 (mwo (or6 (i))) (or6 (i)) (-1) (by first | assumption | omega)) (by decide +kernel) aX8_addRow rfl rfl rfl ⟨rfl, rfl⟩ (by decide) (Nat.le_of_ble_eq_true rfl) [0, 1, 2, 3, 4, 5, 6, 7, 8, 9, 10, 11, 12, 13, 14, 15, 16, 17, 18, 19, 20, 21] [] [] rfl rfl rfl (fun r w' hp => ?_)
                        obtain ⟨rfl, rfl⟩ := hp
                        show G X mX8_compare ad 0 0 (moW W H mth mbd mne mnw mmn mbx 0 (rs1 + 1) mrl mfl mpt mdf mlb mbo mwn mwo mxo myo or6 co5 (wap ro1 rs1 1 (mwo (or6 (i))) (or6 (i)) (-1)) mpw mph mrk mrb mrf mfr mfm med map mwh, 238, [(0, gr 60), (1, gi i), (2, gi j), (3, gi (or6 (i))), (4, gi (or6 (40 + j))), (5, gi ((41 * i) + j))], [])
                        refine G.go hX 3 (moW W H mth mbd mne mnw mmn mbx 0 (rs1 + 1) mrl mfl mpt mdf mlb mbo mwn mwo mxo myo or6 co5 (wap ro1 rs1 1 (mwo (or6 (i))) (or6 (i)) (-1)) mpw mph mrk mrb mrf mfr mfm med map mwh, 36, [(0, gr 60), (1, gi (i + 1)), (2, gi j), (3, gi (or6 (i))), (4, gi (or6 (40 + j))), (5, gi ((41 * i) + j))], []) rfl trivial ?_
                        refine G.locs [(0, gr 60), (1, gi (i + 1)), (2, gi j)] [0, 1, 2] rfl ?_
                        exact ih36 (i + 1) j (st + 1) (rs1 + 1) (wap ro1 rs1 1 (mwo (or6 (i))) (or6 (i)) (-1)) (l1 ++ [(1, mwo (or6 i), or6 i, -1)]) (by omega) (by omega) (by rw [List.length_append, hc1]; simp) (by exact wrl_app hr1 hc1) (by rw [hfu, wWk_gone _ (by first | (intro h9; exact b131 h9.2.2) | omega) (by first | (refine ⟨by omega, Or.inl (by omega)⟩) | (refine ⟨by omega, Or.inr ?_⟩; rw [g1, g2] at b222; omega))] at hw1; rw [List.append_assoc]; exact hw1) (by exact wap_r hi1 ⟨by omega, by omega⟩ (hwo _) ⟨by omega, by omega⟩ ⟨by omega, by omega⟩) (by omega)
                ·
                  refine G.go hX 2 (moW W H mth mbd mne mnw mmn mbx 0 rs1 mrl mfl mpt mdf mlb mbo mwn mwo mxo myo or6 co5 ro1 mpw mph mrk mrb mrf mfr mfm med map mwh, 115, [(0, gr 60), (1, gi i), (2, gi j), (3, gi (or6 (i))), (4, gi (or6 (40 + j))), (5, gi ((41 * i) + j))], [gi (-1), gi (or6 (40 + j))]) rfl trivial ?_
                  refine g_icmp_eq hX 192 rfl rfl ⟨by omega, by omega⟩ ⟨by omega, by omega⟩ (fun b115 => ?_) (fun b115 => ?_)
                  ·
                    refine G.go hX 2 (moW W H mth mbd mne mnw mmn mbx 0 rs1 mrl mfl mpt mdf mlb mbo mwn mwo mxo myo or6 co5 ro1 mpw mph mrk mrb mrf mfr mfm med map mwh, 195, [(0, gr 60), (1, gi i), (2, gi j), (3, gi (or6 (i))), (4, gi (or6 (40 + j))), (5, gi ((41 * i) + j))], [gi (-1), gi (or6 (40 + j))]) rfl trivial ?_
                    refine g_icmp_eq hX 225 rfl rfl ⟨by omega, by omega⟩ ⟨by omega, by omega⟩ (fun b195 => ?_) (fun b195 => ?_)
                    ·
                      exfalso
                      omega
                    ·
                      refine G.go hX 2 (moW W H mth mbd mne mnw mmn mbx 0 rs1 mrl mfl mpt mdf mlb mbo mwn mwo mxo myo or6 co5 ro1 mpw mph mrk mrb mrf mfr mfm med map mwh, 200, [(0, gr 60), (1, gi i), (2, gi j), (3, gi (or6 (i))), (4, gi (or6 (40 + j))), (5, gi ((41 * i) + j))], [gi (-1), gi (or6 (i))]) rfl trivial ?_
                      refine g_icmp_eq hX 244 rfl rfl ⟨by omega, by omega⟩ ⟨by omega, by omega⟩ (fun b200 => ?_) (fun b200 => ?_)
                      ·
                        refine G.go hX 10 (moW W H mth mbd mne mnw mmn mbx 0 rs1 mrl mfl mpt mdf mlb mbo mwn mwo mxo myo or6 co5 ro1 mpw mph mrk mrb mrf mfr mfm med map mwh, 259, [(0, gr 60), (1, gi i), (2, gi j), (3, gi (or6 (i))), (4, gi (or6 (40 + j))), (5, gi ((41 * i) + j))], [gi ((or6 (40 + j)) - 40), gi (-1), gi (mwo (or6 (40 + j))), gi 3, gr 60]) rfl ?_ ?_
                        · refine ⟨?_, trivial⟩
                          · omega
                        refine G.callV (av := [gi 3, gi (mwo (or6 (40 + j))), gi (-1), gi ((or6 (40 + j)) - 40)]) (o := 60) (st := []) hX rfl (fun l D cA => c_X8_addRow l D cA W H mth mbd mne mnw mmn mbx 0 rs1 mrl mfl mpt mdf mlb mbo mwn mwo mxo myo or6 co5 ro1 mpw mph mrk mrb mrf mfr mfm med map mwh 3 (mwo (or6 (40 + j))) (-1) ((or6 (40 + j)) - 40) (by first | assumption | omega)) (by decide +kernel) aX8_addRow rfl rfl rfl ⟨rfl, rfl⟩ (by decide) (Nat.le_of_ble_eq_true rfl) [0, 1, 2, 3, 4, 5, 6, 7, 8, 9, 10, 11, 12, 13, 14, 15, 16, 17, 18, 19, 20, 21] [] [] rfl rfl rfl (fun r w' hp => ?_)
                        obtain ⟨rfl, rfl⟩ := hp
                        show G X mX8_compare ad 0 0 (moW W H mth mbd mne mnw mmn mbx 0 (rs1 + 1) mrl mfl mpt mdf mlb mbo mwn mwo mxo myo or6 co5 (wap ro1 rs1 3 (mwo (or6 (40 + j))) (-1) ((or6 (40 + j)) - 40)) mpw mph mrk mrb mrf mfr mfm med map mwh, 262, [(0, gr 60), (1, gi i), (2, gi j), (3, gi (or6 (i))), (4, gi (or6 (40 + j))), (5, gi ((41 * i) + j))], [])
                        refine G.go hX 2 (moW W H mth mbd mne mnw mmn mbx 0 (rs1 + 1) mrl mfl mpt mdf mlb mbo mwn mwo mxo myo or6 co5 (wap ro1 rs1 3 (mwo (or6 (40 + j))) (-1) ((or6 (40 + j)) - 40)) mpw mph mrk mrb mrf mfr mfm med map mwh, 36, [(0, gr 60), (1, gi i), (2, gi (j + 1)), (3, gi (or6 (i))), (4, gi (or6 (40 + j))), (5, gi ((41 * i) + j))], []) rfl trivial ?_
                        refine G.locs [(0, gr 60), (1, gi i), (2, gi (j + 1))] [0, 1, 2] rfl ?_
                        exact ih36 i (j + 1) (st + 1) (rs1 + 1) (wap ro1 rs1 3 (mwo (or6 (40 + j))) (-1) ((or6 (40 + j)) - 40)) (l1 ++ [(3, mwo (or6 (40 + j)), -1, or6 (40 + j) - 40)]) (by omega) (by omega) (by rw [List.length_append, hc1]; simp) (by exact wrl_app hr1 hc1) (by rw [hfu, wWk_new _ (by first | (intro h9; exact b131 h9.2.2) | omega) (by first | omega | (intro h9; rw [g1, g2] at b222; omega)) (by omega)] at hw1; rw [List.append_assoc]; exact hw1) (by exact wap_r hi1 ⟨by omega, by omega⟩ (hwo _) ⟨by omega, by omega⟩ ⟨by omega, by omega⟩) (by omega)
                      ·
                        have k1 := hL5 (i + 1) j (by omega) (by omega) (by omega) (by omega)
                        have k2 := hL5 i (j + 1) (by omega) (by omega) (by omega) (by omega)
                        have g1 : (41 * i) + j + 41 = (i + 1) * 41 + j := by omega
                        have g2 : (41 * i) + j + 1 = i * 41 + (j + 1) := by omega
                        dsimp only at k1 k2
                        refine G.go hX 12 (moW W H mth mbd mne mnw mmn mbx 0 rs1 mrl mfl mpt mdf mlb mbo mwn mwo mxo myo or6 co5 ro1 mpw mph mrk mrb mrf mfr mfm med map mwh, 222, [(0, gr 60), (1, gi i), (2, gi j), (3, gi (or6 (i))), (4, gi (or6 (40 + j))), (5, gi ((41 * i) + j))], [gi (co5 (((41 * i) + j) + 1)), gi (co5 (((41 * i) + j) + 41))]) rfl ?_ ?_
                        · refine ⟨?_, ?_, trivial⟩
                          · omega
                          · omega
                        refine g_icmp_lt hX 244 rfl rfl (by first | (rw [g1]; exact ⟨by omega, by omega⟩) | (rw [g2]; exact ⟨by omega, by omega⟩)) (by first | (rw [g1]; exact ⟨by omega, by omega⟩) | (rw [g2]; exact ⟨by omega, by omega⟩)) (fun b222 => ?_) (fun b222 => ?_)
                        ·
                          refine G.go hX 10 (moW W H mth mbd mne mnw mmn mbx 0 rs1 mrl mfl mpt mdf mlb mbo mwn mwo mxo myo or6 co5 ro1 mpw mph mrk mrb mrf mfr mfm med map mwh, 259, [(0, gr 60), (1, gi i), (2, gi j), (3, gi (or6 (i))), (4, gi (or6 (40 + j))), (5, gi ((41 * i) + j))], [gi ((or6 (40 + j)) - 40), gi (-1), gi (mwo (or6 (40 + j))), gi 3, gr 60]) rfl ?_ ?_
                          · refine ⟨?_, trivial⟩
                            · omega
                          refine G.callV (av := [gi 3, gi (mwo (or6 (40 + j))), gi (-1), gi ((or6 (40 + j)) - 40)]) (o := 60) (st := []) hX rfl (fun l D cA => c_X8_addRow l D cA W H mth mbd mne mnw mmn mbx 0 rs1 mrl mfl mpt mdf mlb mbo mwn mwo mxo myo or6 co5 ro1 mpw mph mrk mrb mrf mfr mfm med map mwh 3 (mwo (or6 (40 + j))) (-1) ((or6 (40 + j)) - 40) (by first | assumption | omega)) (by decide +kernel) aX8_addRow rfl rfl rfl ⟨rfl, rfl⟩ (by decide) (Nat.le_of_ble_eq_true rfl) [0, 1, 2, 3, 4, 5, 6, 7, 8, 9, 10, 11, 12, 13, 14, 15, 16, 17, 18, 19, 20, 21] [] [] rfl rfl rfl (fun r w' hp => ?_)
                          obtain ⟨rfl, rfl⟩ := hp
                          show G X mX8_compare ad 0 0 (moW W H mth mbd mne mnw mmn mbx 0 (rs1 + 1) mrl mfl mpt mdf mlb mbo mwn mwo mxo myo or6 co5 (wap ro1 rs1 3 (mwo (or6 (40 + j))) (-1) ((or6 (40 + j)) - 40)) mpw mph mrk mrb mrf mfr mfm med map mwh, 262, [(0, gr 60), (1, gi i), (2, gi j), (3, gi (or6 (i))), (4, gi (or6 (40 + j))), (5, gi ((41 * i) + j))], [])
                          refine G.go hX 2 (moW W H mth mbd mne mnw mmn mbx 0 (rs1 + 1) mrl mfl mpt mdf mlb mbo mwn mwo mxo myo or6 co5 (wap ro1 rs1 3 (mwo (or6 (40 + j))) (-1) ((or6 (40 + j)) - 40)) mpw mph mrk mrb mrf mfr mfm med map mwh, 36, [(0, gr 60), (1, gi i), (2, gi (j + 1)), (3, gi (or6 (i))), (4, gi (or6 (40 + j))), (5, gi ((41 * i) + j))], []) rfl trivial ?_
                          refine G.locs [(0, gr 60), (1, gi i), (2, gi (j + 1))] [0, 1, 2] rfl ?_
                          exact ih36 i (j + 1) (st + 1) (rs1 + 1) (wap ro1 rs1 3 (mwo (or6 (40 + j))) (-1) ((or6 (40 + j)) - 40)) (l1 ++ [(3, mwo (or6 (40 + j)), -1, or6 (40 + j) - 40)]) (by omega) (by omega) (by rw [List.length_append, hc1]; simp) (by exact wrl_app hr1 hc1) (by rw [hfu, wWk_new _ (by first | (intro h9; exact b131 h9.2.2) | omega) (by first | omega | (intro h9; rw [g1, g2] at b222; omega)) (by omega)] at hw1; rw [List.append_assoc]; exact hw1) (by exact wap_r hi1 ⟨by omega, by omega⟩ (hwo _) ⟨by omega, by omega⟩ ⟨by omega, by omega⟩) (by omega)
                        ·
                          refine G.go hX 8 (moW W H mth mbd mne mnw mmn mbx 0 rs1 mrl mfl mpt mdf mlb mbo mwn mwo mxo myo or6 co5 ro1 mpw mph mrk mrb mrf mfr mfm med map mwh, 235, [(0, gr 60), (1, gi i), (2, gi j), (3, gi (or6 (i))), (4, gi (or6 (40 + j))), (5, gi ((41 * i) + j))], [gi (-1), gi (or6 (i)), gi (mwo (or6 (i))), gi 1, gr 60]) rfl ?_ ?_
                          · refine ⟨?_, trivial⟩
                            · omega
                          refine G.callV (av := [gi 1, gi (mwo (or6 (i))), gi (or6 (i)), gi (-1)]) (o := 60) (st := []) hX rfl (fun l D cA => c_X8_addRow l D cA W H mth mbd mne mnw mmn mbx 0 rs1 mrl mfl mpt mdf mlb mbo mwn mwo mxo myo or6 co5 ro1 mpw mph mrk mrb mrf mfr mfm med map mwh 1 (mwo (or6 (i))) (or6 (i)) (-1) (by first | assumption | omega)) (by decide +kernel) aX8_addRow rfl rfl rfl ⟨rfl, rfl⟩ (by decide) (Nat.le_of_ble_eq_true rfl) [0, 1, 2, 3, 4, 5, 6, 7, 8, 9, 10, 11, 12, 13, 14, 15, 16, 17, 18, 19, 20, 21] [] [] rfl rfl rfl (fun r w' hp => ?_)
                          obtain ⟨rfl, rfl⟩ := hp
                          show G X mX8_compare ad 0 0 (moW W H mth mbd mne mnw mmn mbx 0 (rs1 + 1) mrl mfl mpt mdf mlb mbo mwn mwo mxo myo or6 co5 (wap ro1 rs1 1 (mwo (or6 (i))) (or6 (i)) (-1)) mpw mph mrk mrb mrf mfr mfm med map mwh, 238, [(0, gr 60), (1, gi i), (2, gi j), (3, gi (or6 (i))), (4, gi (or6 (40 + j))), (5, gi ((41 * i) + j))], [])
                          refine G.go hX 3 (moW W H mth mbd mne mnw mmn mbx 0 (rs1 + 1) mrl mfl mpt mdf mlb mbo mwn mwo mxo myo or6 co5 (wap ro1 rs1 1 (mwo (or6 (i))) (or6 (i)) (-1)) mpw mph mrk mrb mrf mfr mfm med map mwh, 36, [(0, gr 60), (1, gi (i + 1)), (2, gi j), (3, gi (or6 (i))), (4, gi (or6 (40 + j))), (5, gi ((41 * i) + j))], []) rfl trivial ?_
                          refine G.locs [(0, gr 60), (1, gi (i + 1)), (2, gi j)] [0, 1, 2] rfl ?_
                          exact ih36 (i + 1) j (st + 1) (rs1 + 1) (wap ro1 rs1 1 (mwo (or6 (i))) (or6 (i)) (-1)) (l1 ++ [(1, mwo (or6 i), or6 i, -1)]) (by omega) (by omega) (by rw [List.length_append, hc1]; simp) (by exact wrl_app hr1 hc1) (by rw [hfu, wWk_gone _ (by first | (intro h9; exact b131 h9.2.2) | omega) (by first | (refine ⟨by omega, Or.inl (by omega)⟩) | (refine ⟨by omega, Or.inr ?_⟩; rw [g1, g2] at b222; omega))] at hw1; rw [List.append_assoc]; exact hw1) (by exact wap_r hi1 ⟨by omega, by omega⟩ (hwo _) ⟨by omega, by omega⟩ ⟨by omega, by omega⟩) (by omega)
                  ·
                    refine G.go hX 8 (moW W H mth mbd mne mnw mmn mbx 0 rs1 mrl mfl mpt mdf mlb mbo mwn mwo mxo myo or6 co5 ro1 mpw mph mrk mrb mrf mfr mfm med map mwh, 131, [(0, gr 60), (1, gi i), (2, gi j), (3, gi (or6 (i))), (4, gi (or6 (40 + j))), (5, gi ((41 * i) + j))], [gi (mwo (or6 (40 + j))), gi (mwo (or6 (i)))]) rfl ?_ ?_
                    · refine ⟨?_, ?_, trivial⟩
                      · omega
                      · omega
                    refine g_icmp_ne hX 192 rfl rfl (hwo _) (hwo _) (fun b131 => ?_) (fun b131 => ?_)
                    ·
                      refine G.go hX 2 (moW W H mth mbd mne mnw mmn mbx 0 rs1 mrl mfl mpt mdf mlb mbo mwn mwo mxo myo or6 co5 ro1 mpw mph mrk mrb mrf mfr mfm med map mwh, 195, [(0, gr 60), (1, gi i), (2, gi j), (3, gi (or6 (i))), (4, gi (or6 (40 + j))), (5, gi ((41 * i) + j))], [gi (-1), gi (or6 (40 + j))]) rfl trivial ?_
                      refine g_icmp_eq hX 225 rfl rfl ⟨by omega, by omega⟩ ⟨by omega, by omega⟩ (fun b195 => ?_) (fun b195 => ?_)
                      ·
                        exfalso
                        omega
                      ·
                        refine G.go hX 2 (moW W H mth mbd mne mnw mmn mbx 0 rs1 mrl mfl mpt mdf mlb mbo mwn mwo mxo myo or6 co5 ro1 mpw mph mrk mrb mrf mfr mfm med map mwh, 200, [(0, gr 60), (1, gi i), (2, gi j), (3, gi (or6 (i))), (4, gi (or6 (40 + j))), (5, gi ((41 * i) + j))], [gi (-1), gi (or6 (i))]) rfl trivial ?_
                        refine g_icmp_eq hX 244 rfl rfl ⟨by omega, by omega⟩ ⟨by omega, by omega⟩ (fun b200 => ?_) (fun b200 => ?_)
                        ·
                          refine G.go hX 10 (moW W H mth mbd mne mnw mmn mbx 0 rs1 mrl mfl mpt mdf mlb mbo mwn mwo mxo myo or6 co5 ro1 mpw mph mrk mrb mrf mfr mfm med map mwh, 259, [(0, gr 60), (1, gi i), (2, gi j), (3, gi (or6 (i))), (4, gi (or6 (40 + j))), (5, gi ((41 * i) + j))], [gi ((or6 (40 + j)) - 40), gi (-1), gi (mwo (or6 (40 + j))), gi 3, gr 60]) rfl ?_ ?_
                          · refine ⟨?_, trivial⟩
                            · omega
                          refine G.callV (av := [gi 3, gi (mwo (or6 (40 + j))), gi (-1), gi ((or6 (40 + j)) - 40)]) (o := 60) (st := []) hX rfl (fun l D cA => c_X8_addRow l D cA W H mth mbd mne mnw mmn mbx 0 rs1 mrl mfl mpt mdf mlb mbo mwn mwo mxo myo or6 co5 ro1 mpw mph mrk mrb mrf mfr mfm med map mwh 3 (mwo (or6 (40 + j))) (-1) ((or6 (40 + j)) - 40) (by first | assumption | omega)) (by decide +kernel) aX8_addRow rfl rfl rfl ⟨rfl, rfl⟩ (by decide) (Nat.le_of_ble_eq_true rfl) [0, 1, 2, 3, 4, 5, 6, 7, 8, 9, 10, 11, 12, 13, 14, 15, 16, 17, 18, 19, 20, 21] [] [] rfl rfl rfl (fun r w' hp => ?_)
                          obtain ⟨rfl, rfl⟩ := hp
                          show G X mX8_compare ad 0 0 (moW W H mth mbd mne mnw mmn mbx 0 (rs1 + 1) mrl mfl mpt mdf mlb mbo mwn mwo mxo myo or6 co5 (wap ro1 rs1 3 (mwo (or6 (40 + j))) (-1) ((or6 (40 + j)) - 40)) mpw mph mrk mrb mrf mfr mfm med map mwh, 262, [(0, gr 60), (1, gi i), (2, gi j), (3, gi (or6 (i))), (4, gi (or6 (40 + j))), (5, gi ((41 * i) + j))], [])
                          refine G.go hX 2 (moW W H mth mbd mne mnw mmn mbx 0 (rs1 + 1) mrl mfl mpt mdf mlb mbo mwn mwo mxo myo or6 co5 (wap ro1 rs1 3 (mwo (or6 (40 + j))) (-1) ((or6 (40 + j)) - 40)) mpw mph mrk mrb mrf mfr mfm med map mwh, 36, [(0, gr 60), (1, gi i), (2, gi (j + 1)), (3, gi (or6 (i))), (4, gi (or6 (40 + j))), (5, gi ((41 * i) + j))], []) rfl trivial ?_
                          refine G.locs [(0, gr 60), (1, gi i), (2, gi (j + 1))] [0, 1, 2] rfl ?_
                          exact ih36 i (j + 1) (st + 1) (rs1 + 1) (wap ro1 rs1 3 (mwo (or6 (40 + j))) (-1) ((or6 (40 + j)) - 40)) (l1 ++ [(3, mwo (or6 (40 + j)), -1, or6 (40 + j) - 40)]) (by omega) (by omega) (by rw [List.length_append, hc1]; simp) (by exact wrl_app hr1 hc1) (by rw [hfu, wWk_new _ (by first | (intro h9; exact b131 h9.2.2) | omega) (by first | omega | (intro h9; rw [g1, g2] at b222; omega)) (by omega)] at hw1; rw [List.append_assoc]; exact hw1) (by exact wap_r hi1 ⟨by omega, by omega⟩ (hwo _) ⟨by omega, by omega⟩ ⟨by omega, by omega⟩) (by omega)
                        ·
                          have k1 := hL5 (i + 1) j (by omega) (by omega) (by omega) (by omega)
                          have k2 := hL5 i (j + 1) (by omega) (by omega) (by omega) (by omega)
                          have g1 : (41 * i) + j + 41 = (i + 1) * 41 + j := by omega
                          have g2 : (41 * i) + j + 1 = i * 41 + (j + 1) := by omega
                          dsimp only at k1 k2
                          refine G.go hX 12 (moW W H mth mbd mne mnw mmn mbx 0 rs1 mrl mfl mpt mdf mlb mbo mwn mwo mxo myo or6 co5 ro1 mpw mph mrk mrb mrf mfr mfm med map mwh, 222, [(0, gr 60), (1, gi i), (2, gi j), (3, gi (or6 (i))), (4, gi (or6 (40 + j))), (5, gi ((41 * i) + j))], [gi (co5 (((41 * i) + j) + 1)), gi (co5 (((41 * i) + j) + 41))]) rfl ?_ ?_
                          · refine ⟨?_, ?_, trivial⟩
                            · omega
                            · omega
                          refine g_icmp_lt hX 244 rfl rfl (by first | (rw [g1]; exact ⟨by omega, by omega⟩) | (rw [g2]; exact ⟨by omega, by omega⟩)) (by first | (rw [g1]; exact ⟨by omega, by omega⟩) | (rw [g2]; exact ⟨by omega, by omega⟩)) (fun b222 => ?_) (fun b222 => ?_)
                          ·
                            refine G.go hX 10 (moW W H mth mbd mne mnw mmn mbx 0 rs1 mrl mfl mpt mdf mlb mbo mwn mwo mxo myo or6 co5 ro1 mpw mph mrk mrb mrf mfr mfm med map mwh, 259, [(0, gr 60), (1, gi i), (2, gi j), (3, gi (or6 (i))), (4, gi (or6 (40 + j))), (5, gi ((41 * i) + j))], [gi ((or6 (40 + j)) - 40), gi (-1), gi (mwo (or6 (40 + j))), gi 3, gr 60]) rfl ?_ ?_
                            · refine ⟨?_, trivial⟩
                              · omega
                            refine G.callV (av := [gi 3, gi (mwo (or6 (40 + j))), gi (-1), gi ((or6 (40 + j)) - 40)]) (o := 60) (st := []) hX rfl (fun l D cA => c_X8_addRow l D cA W H mth mbd mne mnw mmn mbx 0 rs1 mrl mfl mpt mdf mlb mbo mwn mwo mxo myo or6 co5 ro1 mpw mph mrk mrb mrf mfr mfm med map mwh 3 (mwo (or6 (40 + j))) (-1) ((or6 (40 + j)) - 40) (by first | assumption | omega)) (by decide +kernel) aX8_addRow rfl rfl rfl ⟨rfl, rfl⟩ (by decide) (Nat.le_of_ble_eq_true rfl) [0, 1, 2, 3, 4, 5, 6, 7, 8, 9, 10, 11, 12, 13, 14, 15, 16, 17, 18, 19, 20, 21] [] [] rfl rfl rfl (fun r w' hp => ?_)
                            obtain ⟨rfl, rfl⟩ := hp
                            show G X mX8_compare ad 0 0 (moW W H mth mbd mne mnw mmn mbx 0 (rs1 + 1) mrl mfl mpt mdf mlb mbo mwn mwo mxo myo or6 co5 (wap ro1 rs1 3 (mwo (or6 (40 + j))) (-1) ((or6 (40 + j)) - 40)) mpw mph mrk mrb mrf mfr mfm med map mwh, 262, [(0, gr 60), (1, gi i), (2, gi j), (3, gi (or6 (i))), (4, gi (or6 (40 + j))), (5, gi ((41 * i) + j))], [])
                            refine G.go hX 2 (moW W H mth mbd mne mnw mmn mbx 0 (rs1 + 1) mrl mfl mpt mdf mlb mbo mwn mwo mxo myo or6 co5 (wap ro1 rs1 3 (mwo (or6 (40 + j))) (-1) ((or6 (40 + j)) - 40)) mpw mph mrk mrb mrf mfr mfm med map mwh, 36, [(0, gr 60), (1, gi i), (2, gi (j + 1)), (3, gi (or6 (i))), (4, gi (or6 (40 + j))), (5, gi ((41 * i) + j))], []) rfl trivial ?_
                            refine G.locs [(0, gr 60), (1, gi i), (2, gi (j + 1))] [0, 1, 2] rfl ?_
                            exact ih36 i (j + 1) (st + 1) (rs1 + 1) (wap ro1 rs1 3 (mwo (or6 (40 + j))) (-1) ((or6 (40 + j)) - 40)) (l1 ++ [(3, mwo (or6 (40 + j)), -1, or6 (40 + j) - 40)]) (by omega) (by omega) (by rw [List.length_append, hc1]; simp) (by exact wrl_app hr1 hc1) (by rw [hfu, wWk_new _ (by first | (intro h9; exact b131 h9.2.2) | omega) (by first | omega | (intro h9; rw [g1, g2] at b222; omega)) (by omega)] at hw1; rw [List.append_assoc]; exact hw1) (by exact wap_r hi1 ⟨by omega, by omega⟩ (hwo _) ⟨by omega, by omega⟩ ⟨by omega, by omega⟩) (by omega)
                          ·
                            refine G.go hX 8 (moW W H mth mbd mne mnw mmn mbx 0 rs1 mrl mfl mpt mdf mlb mbo mwn mwo mxo myo or6 co5 ro1 mpw mph mrk mrb mrf mfr mfm med map mwh, 235, [(0, gr 60), (1, gi i), (2, gi j), (3, gi (or6 (i))), (4, gi (or6 (40 + j))), (5, gi ((41 * i) + j))], [gi (-1), gi (or6 (i)), gi (mwo (or6 (i))), gi 1, gr 60]) rfl ?_ ?_
                            · refine ⟨?_, trivial⟩
                              · omega
                            refine G.callV (av := [gi 1, gi (mwo (or6 (i))), gi (or6 (i)), gi (-1)]) (o := 60) (st := []) hX rfl (fun l D cA => c_X8_addRow l D cA W H mth mbd mne mnw mmn mbx 0 rs1 mrl mfl mpt mdf mlb mbo mwn mwo mxo myo or6 co5 ro1 mpw mph mrk mrb mrf mfr mfm med map mwh 1 (mwo (or6 (i))) (or6 (i)) (-1) (by first | assumption | omega)) (by decide +kernel) aX8_addRow rfl rfl rfl ⟨rfl, rfl⟩ (by decide) (Nat.le_of_ble_eq_true rfl) [0, 1, 2, 3, 4, 5, 6, 7, 8, 9, 10, 11, 12, 13, 14, 15, 16, 17, 18, 19, 20, 21] [] [] rfl rfl rfl (fun r w' hp => ?_)
                            obtain ⟨rfl, rfl⟩ := hp
                            show G X mX8_compare ad 0 0 (moW W H mth mbd mne mnw mmn mbx 0 (rs1 + 1) mrl mfl mpt mdf mlb mbo mwn mwo mxo myo or6 co5 (wap ro1 rs1 1 (mwo (or6 (i))) (or6 (i)) (-1)) mpw mph mrk mrb mrf mfr mfm med map mwh, 238, [(0, gr 60), (1, gi i), (2, gi j), (3, gi (or6 (i))), (4, gi (or6 (40 + j))), (5, gi ((41 * i) + j))], [])
                            refine G.go hX 3 (moW W H mth mbd mne mnw mmn mbx 0 (rs1 + 1) mrl mfl mpt mdf mlb mbo mwn mwo mxo myo or6 co5 (wap ro1 rs1 1 (mwo (or6 (i))) (or6 (i)) (-1)) mpw mph mrk mrb mrf mfr mfm med map mwh, 36, [(0, gr 60), (1, gi (i + 1)), (2, gi j), (3, gi (or6 (i))), (4, gi (or6 (40 + j))), (5, gi ((41 * i) + j))], []) rfl trivial ?_
                            refine G.locs [(0, gr 60), (1, gi (i + 1)), (2, gi j)] [0, 1, 2] rfl ?_
                            exact ih36 (i + 1) j (st + 1) (rs1 + 1) (wap ro1 rs1 1 (mwo (or6 (i))) (or6 (i)) (-1)) (l1 ++ [(1, mwo (or6 i), or6 i, -1)]) (by omega) (by omega) (by rw [List.length_append, hc1]; simp) (by exact wrl_app hr1 hc1) (by rw [hfu, wWk_gone _ (by first | (intro h9; exact b131 h9.2.2) | omega) (by first | (refine ⟨by omega, Or.inl (by omega)⟩) | (refine ⟨by omega, Or.inr ?_⟩; rw [g1, g2] at b222; omega))] at hw1; rw [List.append_assoc]; exact hw1) (by exact wap_r hi1 ⟨by omega, by omega⟩ (hwo _) ⟨by omega, by omega⟩ ⟨by omega, by omega⟩) (by omega)
                    ·
                      refine G.go hX 8 (moW W H mth mbd mne mnw mmn mbx 0 rs1 mrl mfl mpt mdf mlb mbo mwn mwo mxo myo or6 co5 ro1 mpw mph mrk mrb mrf mfr mfm med map mwh, 147, [(0, gr 60), (1, gi i), (2, gi j), (3, gi (or6 (i))), (4, gi (or6 (40 + j))), (5, gi ((41 * i) + j))], [gi (mxo (or6 (40 + j))), gi (mxo (or6 (i)))]) rfl ?_ ?_
                      · refine ⟨?_, ?_, trivial⟩
                        · omega
                        · omega
                      refine g_icmp_ne hX 166 rfl rfl ((hxy _).1) ((hxy _).1) (fun b147 => ?_) (fun b147 => ?_)
                      ·
                        refine G.go hX 10 (moW W H mth mbd mne mnw mmn mbx 0 rs1 mrl mfl mpt mdf mlb mbo mwn mwo mxo myo or6 co5 ro1 mpw mph mrk mrb mrf mfr mfm med map mwh, 180, [(0, gr 60), (1, gi i), (2, gi j), (3, gi (or6 (i))), (4, gi (or6 (40 + j))), (5, gi ((41 * i) + j))], [gi ((or6 (40 + j)) - 40), gi (or6 (i)), gi (mwo (or6 (i))), gi 4, gr 60]) rfl ?_ ?_
                        · refine ⟨?_, trivial⟩
                          · omega
                        refine G.callV (av := [gi 4, gi (mwo (or6 (i))), gi (or6 (i)), gi ((or6 (40 + j)) - 40)]) (o := 60) (st := []) hX rfl (fun l D cA => c_X8_addRow l D cA W H mth mbd mne mnw mmn mbx 0 rs1 mrl mfl mpt mdf mlb mbo mwn mwo mxo myo or6 co5 ro1 mpw mph mrk mrb mrf mfr mfm med map mwh 4 (mwo (or6 (i))) (or6 (i)) ((or6 (40 + j)) - 40) (by first | assumption | omega)) (by decide +kernel) aX8_addRow rfl rfl rfl ⟨rfl, rfl⟩ (by decide) (Nat.le_of_ble_eq_true rfl) [0, 1, 2, 3, 4, 5, 6, 7, 8, 9, 10, 11, 12, 13, 14, 15, 16, 17, 18, 19, 20, 21] [] [] rfl rfl rfl (fun r w' hp => ?_)
                        obtain ⟨rfl, rfl⟩ := hp
                        show G X mX8_compare ad 0 0 (moW W H mth mbd mne mnw mmn mbx 0 (rs1 + 1) mrl mfl mpt mdf mlb mbo mwn mwo mxo myo or6 co5 (wap ro1 rs1 4 (mwo (or6 (i))) (or6 (i)) ((or6 (40 + j)) - 40)) mpw mph mrk mrb mrf mfr mfm med map mwh, 183, [(0, gr 60), (1, gi i), (2, gi j), (3, gi (or6 (i))), (4, gi (or6 (40 + j))), (5, gi ((41 * i) + j))], [])
                        refine G.go hX 4 (moW W H mth mbd mne mnw mmn mbx 0 (rs1 + 1) mrl mfl mpt mdf mlb mbo mwn mwo mxo myo or6 co5 (wap ro1 rs1 4 (mwo (or6 (i))) (or6 (i)) ((or6 (40 + j)) - 40)) mpw mph mrk mrb mrf mfr mfm med map mwh, 36, [(0, gr 60), (1, gi (i + 1)), (2, gi (j + 1)), (3, gi (or6 (i))), (4, gi (or6 (40 + j))), (5, gi ((41 * i) + j))], []) rfl trivial ?_
                        refine G.locs [(0, gr 60), (1, gi (i + 1)), (2, gi (j + 1))] [0, 1, 2] rfl ?_
                        exact ih36 (i + 1) (j + 1) (st + 1) (rs1 + 1) (wap ro1 rs1 4 (mwo (or6 (i))) (or6 (i)) ((or6 (40 + j)) - 40)) (l1 ++ [(4, mwo (or6 i), or6 i, or6 (40 + j) - 40)]) (by omega) (by omega) (by rw [List.length_append, hc1]; simp) (by exact wrl_app hr1 hc1) (by rw [hfu, wWk_shift _ (by omega) (by omega) (show mU mwo or6 i = mV mwo or6 j from (show mwo (or6 i) = mwo (or6 (40 + j)) by omega)) (by omega)] at hw1; rw [List.append_assoc]; exact hw1) (by exact wap_r hi1 ⟨by omega, by omega⟩ (hwo _) ⟨by omega, by omega⟩ ⟨by omega, by omega⟩) (by omega)
                      ·
                        refine G.go hX 8 (moW W H mth mbd mne mnw mmn mbx 0 rs1 mrl mfl mpt mdf mlb mbo mwn mwo mxo myo or6 co5 ro1 mpw mph mrk mrb mrf mfr mfm med map mwh, 163, [(0, gr 60), (1, gi i), (2, gi j), (3, gi (or6 (i))), (4, gi (or6 (40 + j))), (5, gi ((41 * i) + j))], [gi (myo (or6 (40 + j))), gi (myo (or6 (i)))]) rfl ?_ ?_
                        · refine ⟨?_, ?_, trivial⟩
                          · omega
                          · omega
                        refine g_icmp_eq hX 183 rfl rfl ((hxy _).2) ((hxy _).2) (fun b163 => ?_) (fun b163 => ?_)
                        ·
                          refine G.go hX 4 (moW W H mth mbd mne mnw mmn mbx 0 rs1 mrl mfl mpt mdf mlb mbo mwn mwo mxo myo or6 co5 ro1 mpw mph mrk mrb mrf mfr mfm med map mwh, 36, [(0, gr 60), (1, gi (i + 1)), (2, gi (j + 1)), (3, gi (or6 (i))), (4, gi (or6 (40 + j))), (5, gi ((41 * i) + j))], []) rfl trivial ?_
                          refine G.locs [(0, gr 60), (1, gi (i + 1)), (2, gi (j + 1))] [0, 1, 2] rfl ?_
                          exact ih36 (i + 1) (j + 1) (st + 1) rs1 ro1 l1 (by omega) (by omega) (by exact hc1) (by exact hr1) (by rw [hfu, wWk_same _ (by omega) (by omega) (show mU mwo or6 i = mV mwo or6 j from (show mwo (or6 i) = mwo (or6 (40 + j)) by omega)) ⟨by omega, by omega⟩] at hw1; exact hw1) (by exact hi1) (by omega)
                        ·
                          refine G.go hX 10 (moW W H mth mbd mne mnw mmn mbx 0 rs1 mrl mfl mpt mdf mlb mbo mwn mwo mxo myo or6 co5 ro1 mpw mph mrk mrb mrf mfr mfm med map mwh, 180, [(0, gr 60), (1, gi i), (2, gi j), (3, gi (or6 (i))), (4, gi (or6 (40 + j))), (5, gi ((41 * i) + j))], [gi ((or6 (40 + j)) - 40), gi (or6 (i)), gi (mwo (or6 (i))), gi 4, gr 60]) rfl ?_ ?_
                          · refine ⟨?_, trivial⟩
                            · omega
                          refine G.callV (av := [gi 4, gi (mwo (or6 (i))), gi (or6 (i)), gi ((or6 (40 + j)) - 40)]) (o := 60) (st := []) hX rfl (fun l D cA => c_X8_addRow l D cA W H mth mbd mne mnw mmn mbx 0 rs1 mrl mfl mpt mdf mlb mbo mwn mwo mxo myo or6 co5 ro1 mpw mph mrk mrb mrf mfr mfm med map mwh 4 (mwo (or6 (i))) (or6 (i)) ((or6 (40 + j)) - 40) (by first | assumption | omega)) (by decide +kernel) aX8_addRow rfl rfl rfl ⟨rfl, rfl⟩ (by decide) (Nat.le_of_ble_eq_true rfl) [0, 1, 2, 3, 4, 5, 6, 7, 8, 9, 10, 11, 12, 13, 14, 15, 16, 17, 18, 19, 20, 21] [] [] rfl rfl rfl (fun r w' hp => ?_)
                          obtain ⟨rfl, rfl⟩ := hp
                          show G X mX8_compare ad 0 0 (moW W H mth mbd mne mnw mmn mbx 0 (rs1 + 1) mrl mfl mpt mdf mlb mbo mwn mwo mxo myo or6 co5 (wap ro1 rs1 4 (mwo (or6 (i))) (or6 (i)) ((or6 (40 + j)) - 40)) mpw mph mrk mrb mrf mfr mfm med map mwh, 183, [(0, gr 60), (1, gi i), (2, gi j), (3, gi (or6 (i))), (4, gi (or6 (40 + j))), (5, gi ((41 * i) + j))], [])
                          refine G.go hX 4 (moW W H mth mbd mne mnw mmn mbx 0 (rs1 + 1) mrl mfl mpt mdf mlb mbo mwn mwo mxo myo or6 co5 (wap ro1 rs1 4 (mwo (or6 (i))) (or6 (i)) ((or6 (40 + j)) - 40)) mpw mph mrk mrb mrf mfr mfm med map mwh, 36, [(0, gr 60), (1, gi (i + 1)), (2, gi (j + 1)), (3, gi (or6 (i))), (4, gi (or6 (40 + j))), (5, gi ((41 * i) + j))], []) rfl trivial ?_
                          refine G.locs [(0, gr 60), (1, gi (i + 1)), (2, gi (j + 1))] [0, 1, 2] rfl ?_
                          exact ih36 (i + 1) (j + 1) (st + 1) (rs1 + 1) (wap ro1 rs1 4 (mwo (or6 (i))) (or6 (i)) ((or6 (40 + j)) - 40)) (l1 ++ [(4, mwo (or6 i), or6 i, or6 (40 + j) - 40)]) (by omega) (by omega) (by rw [List.length_append, hc1]; simp) (by exact wrl_app hr1 hc1) (by rw [hfu, wWk_shift _ (by omega) (by omega) (show mU mwo or6 i = mV mwo or6 j from (show mwo (or6 i) = mwo (or6 (40 + j)) by omega)) (by omega)] at hw1; rw [List.append_assoc]; exact hw1) (by exact wap_r hi1 ⟨by omega, by omega⟩ (hwo _) ⟨by omega, by omega⟩ ⟨by omega, by omega⟩) (by omega)
    exact lp36 _ 0 0 0 0 mro ([]) (by omega) (by omega) (by rfl) (by intro i q h9; simp at h9) (by rfl) (by exact hro) (Nat.lt_succ_self _)
  ·
    have hs0 : man = 0 := by omega
    exact g_vret hX hE rfl ⟨mor, mco, mrs, mro, rfl, by rw [hs0], hval hs0, hro, hrs⟩
