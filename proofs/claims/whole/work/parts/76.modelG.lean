/-- the words of the model, by positions -/
abbrev mU (wo ord : Int → Int) : Int → Int := fun j => wo (ord j)
abbrev mV (wo ord : Int → Int) : Int → Int := fun j => wo (ord (40 + j))
theorem wLp_m {n0 n1 : Int} {u v lg : Int → Int} {a b : Int} (hn : n1 ≤ 40) (h : wLp n0 n1 u v lg a b) (a0 : 0 ≤ a) (a1 : a < n0) (b0 : 0 ≤ b) (b1 : b < n1) : wLv n0 n1 u v (fun a b => lg (a * 41 + b)) a b = (if u a = v b then 1 + lg (41 * a + b + 42) else max (lg (41 * a + b + 41)) (lg (41 * a + b + 1))) := by
  unfold wLv
  rw [if_neg (by omega)]
  split
  · show 1 + lg _ = 1 + lg _
    congr 2
    omega
  · show max (lg _) (lg _) = max (lg _) (lg _)
    congr 2 <;> omega
set_option maxHeartbeats 4000000 in
set_option maxRecDepth 100000 in
theorem c_X8_fillCommon (l : Launch) (D : va_G) (cA : Nat → ClassId) (W : Nat) (H : Nat) (mth : Int) (mbd : Int) (mne : Int) (mnw : Int) (mmn : Int) (mbx : Int) (man : Int) (mrs : Int) (mrl : Int) (mfl : Int) (mpt : Int → Int) (mdf : Int → Int) (mlb : Int → Int) (mbo : Int → Int) (mwn : Int → Int) (mwo : Int → Int) (mxo : Int → Int) (myo : Int → Int) (mor : Int → Int) (mco : Int → Int) (mro : Int → Int) (mpw : Int → Int) (mph : Int → Int) (mrk : Int → Int) (mrb : Int → Int) (mrf : Int → Int) (mfr : Int → Int) (mfm : Int → Int) (med : Int → Int) (map : Int → Int) (mwh : Int → Int) (hwn : (0 ≤ mwn 0 ∧ mwn 0 ≤ 40) ∧ 0 ≤ mwn 1 ∧ mwn 1 ≤ 40) (hor0 : ∀ j, 0 ≤ j → j < mwn 0 → 0 ≤ mor j ∧ mor j < 40) (hor1 : ∀ j, 0 ≤ j → j < mwn 1 → 40 ≤ mor (40 + j) ∧ mor (40 + j) < 80) (hwo : ∀ q : Int, inR (mwo q)) :
    gC l D cA yX8_fillCommon mX8_fillCommon none 0 0 [gr 60] (moW W H mth mbd mne mnw mmn mbx man mrs mrl mfl mpt mdf mlb mbo mwn mwo mxo myo mor mco mro mpw mph mrk mrb mrf mfr mfm med map mwh) (fun r9 w9 => ∃ (co2 : Int → Int), r9 = none ∧ w9 = moW W H mth mbd mne mnw mmn mbx man mrs mrl mfl mpt mdf mlb mbo mwn mwo mxo myo mor co2 mro mpw mph mrk mrb mrf mfr mfm med map mwh ∧ (wLok (mwn 0) (mwn 1) (mU mwo mor) (mV mwo mor) (fun a b => co2 (a * 41 + b)))) := by
  refine gC_of rfl kX8_fillCommon rfl rfl (Nat.le_of_ble_eq_true rfl) (fun X ad hX hE => ?_)
  refine G.go hX 2 (moW W H mth mbd mne mnw mmn mbx man mrs mrl mfl mpt mdf mlb mbo mwn mwo mxo myo mor mco mro mpw mph mrk mrb mrf mfr mfm med map mwh, 2, [(0, gr 60), (1, gi 0)], []) rfl trivial ?_
  have lp2 : ∀ (n : Nat) (k : Int) (co1 : Int → Int), (0 ≤ k ∧ k ≤ 1681) → (∀ j, 0 ≤ j → j < k → co1 j = 0) → (1681 - k).toNat < n → G X mX8_fillCommon ad 0 0 (moW W H mth mbd mne mnw mmn mbx man mrs mrl mfl mpt mdf mlb mbo mwn mwo mxo myo mor co1 mro mpw mph mrk mrb mrf mfr mfm med map mwh, 2, [(0, gr 60), (1, gi k)], []) := by
    intro n
    induction n with
    | zero => intro k co1 hk hc1 hm9; exact absurd hm9 (Nat.not_lt_zero _)
    | succ n ih2 =>
      intro k co1 hk hc1 hm2
      refine G.go hX 2 (moW W H mth mbd mne mnw mmn mbx man mrs mrl mfl mpt mdf mlb mbo mwn mwo mxo myo mor co1 mro mpw mph mrk mrb mrf mfr mfm med map mwh, 6, [(0, gr 60), (1, gi k)], [gi 1681, gi k]) rfl trivial ?_
      refine g_icmp_ge hX 22 rfl rfl ⟨by omega, by omega⟩ ⟨by omega, by omega⟩ (fun b6 => ?_) (fun b6 => ?_)
      ·
        refine G.go hX 7 (moW W H mth mbd mne mnw mmn mbx man mrs mrl mfl mpt mdf mlb mbo mwn mwo mxo myo mor co1 mro mpw mph mrk mrb mrf mfr mfm med map mwh, 31, [(0, gr 60), (1, gi ((mwn 0) - 1))], []) rfl ?_ ?_
        · refine ⟨?_, trivial⟩
          · omega
        have lp31 : ∀ (n : Nat) (a : Int) (co2 : Int → Int), (-1 ≤ a ∧ a < mwn 0) → (∀ j, 0 ≤ j → j ≤ mwn 0 → co2 (j * 41 + mwn 1) = 0) → (wLp (mwn 0) (mwn 1) (mU mwo mor) (mV mwo mor) co2 a (mwn 1)) → (a + 1).toNat < n → G X mX8_fillCommon ad 0 0 (moW W H mth mbd mne mnw mmn mbx man mrs mrl mfl mpt mdf mlb mbo mwn mwo mxo myo mor co2 mro mpw mph mrk mrb mrf mfr mfm med map mwh, 31, [(0, gr 60), (1, gi a)], []) := by
          intro n
          induction n with
          | zero => intro a co2 ha hz2 hp2 hm9; exact absurd hm9 (Nat.not_lt_zero _)
          | succ n ih31 =>
            intro a co2 ha hz2 hp2 hm31
            refine G.go hX 1 (moW W H mth mbd mne mnw mmn mbx man mrs mrl mfl mpt mdf mlb mbo mwn mwo mxo myo mor co2 mro mpw mph mrk mrb mrf mfr mfm med map mwh, 32, [(0, gr 60), (1, gi a)], [gi a]) rfl trivial ?_
            refine g_if_lt hX 156 rfl rfl ⟨by omega, by omega⟩ (fun b32 => ?_) (fun b32 => ?_)
            ·
              exact g_vret hX hE rfl ⟨co2, rfl, rfl, fun a' b' h1 h2 h3 h4 => hp2 a' b' h1 h2 h3 h4 (by omega)⟩
            ·
              refine G.go hX 7 (moW W H mth mbd mne mnw mmn mbx man mrs mrl mfl mpt mdf mlb mbo mwn mwo mxo myo mor co2 mro mpw mph mrk mrb mrf mfr mfm med map mwh, 44, [(0, gr 60), (1, gi a), (2, gi ((mwn 1) - 1))], []) rfl ?_ ?_
              · refine ⟨?_, trivial⟩
                · omega
              have lp44 : ∀ (n : Nat) (b : Int) (co3 : Int → Int), (-1 ≤ b ∧ b < mwn 1) → (∀ j, 0 ≤ j → j ≤ mwn 0 → co3 (j * 41 + mwn 1) = 0) → (wLp (mwn 0) (mwn 1) (mU mwo mor) (mV mwo mor) co3 a b) → (b + 1).toNat < n → G X mX8_fillCommon ad 0 0 (moW W H mth mbd mne mnw mmn mbx man mrs mrl mfl mpt mdf mlb mbo mwn mwo mxo myo mor co3 mro mpw mph mrk mrb mrf mfr mfm med map mwh, 44, [(0, gr 60), (1, gi a), (2, gi b)], []) := by
                intro n
                induction n with
                | zero => intro b co3 hb hz3 hp3 hm9; exact absurd hm9 (Nat.not_lt_zero _)
                | succ n ih44 =>
                  intro b co3 hb hz3 hp3 hm44
                  refine G.go hX 1 (moW W H mth mbd mne mnw mmn mbx man mrs mrl mfl mpt mdf mlb mbo mwn mwo mxo myo mor co3 mro mpw mph mrk mrb mrf mfr mfm med map mwh, 45, [(0, gr 60), (1, gi a), (2, gi b)], [gi b]) rfl trivial ?_
                  refine g_if_lt hX 150 rfl rfl ⟨by omega, by omega⟩ (fun b45 => ?_) (fun b45 => ?_)
                  ·
                    refine G.go hX 2 (moW W H mth mbd mne mnw mmn mbx man mrs mrl mfl mpt mdf mlb mbo mwn mwo mxo myo mor co3 mro mpw mph mrk mrb mrf mfr mfm med map mwh, 31, [(0, gr 60), (1, gi (a + (-1))), (2, gi b)], []) rfl trivial ?_
                    refine G.locs [(0, gr 60), (1, gi (a + (-1)))] [0, 1] rfl ?_
                    exact ih31 (a + (-1)) co3 (by omega) (by exact hz3) (by intro a' b' h1 h2 h3 h4 h5; exact hp3 a' b' h1 h2 h3 h4 (by omega)) (by omega)
                  ·
                    have g1 := hp3 (a + 1) b (by omega) (by omega) (by omega) (by omega) (by omega)
                    have g2 := hp3 a (b + 1) (by omega) (by omega) (by omega) (by omega) (by omega)
                    rw [show (a + 1) * 41 + b = 41 * a + b + 41 by omega] at g1
                    rw [show a * 41 + (b + 1) = 41 * a + b + 1 by omega] at g2
                    have e0 := hor0 a (by omega) (by omega)
                    have e1 := hor1 b (by omega) (by omega)
                    refine G.go hX 18 (moW W H mth mbd mne mnw mmn mbx man mrs mrl mfl mpt mdf mlb mbo mwn mwo mxo myo mor co3 mro mpw mph mrk mrb mrf mfr mfm med map mwh, 72, [(0, gr 60), (1, gi a), (2, gi b), (3, gi ((41 * a) + b))], [gi (co3 (((41 * a) + b) + 1)), gi (co3 (((41 * a) + b) + 41))]) rfl ?_ ?_
                    · refine ⟨?_, ?_, trivial⟩
                      · omega
                      · omega
                    have jn95 : G X mX8_fillCommon ad 0 0 (moW W H mth mbd mne mnw mmn mbx man mrs mrl mfl mpt mdf mlb mbo mwn mwo mxo myo mor co3 mro mpw mph mrk mrb mrf mfr mfm med map mwh, 95, [(0, gr 60), (1, gi a), (2, gi b), (3, gi ((41 * a) + b))], [gi (max (co3 (((41 * a) + b) + 41)) (co3 (((41 * a) + b) + 1)))]) := by
                      refine G.go hX 9 (moW W H mth mbd mne mnw mmn mbx man mrs mrl mfl mpt mdf mlb mbo mwn mwo mxo myo mor co3 mro mpw mph mrk mrb mrf mfr mfm med map mwh, 109, [(0, gr 60), (1, gi a), (2, gi b), (3, gi ((41 * a) + b)), (4, gi (max (co3 (((41 * a) + b) + 41)) (co3 (((41 * a) + b) + 1))))], [gi a, gi 0, gr 60, gr 66, gi ((41 * a) + b), gr 70]) rfl trivial ?_
                      refine G.callV (av := [gi 0, gi a]) (o := 60) (st := [gr 66, gi ((41 * a) + b), gr 70]) hX rfl (fun l D cA => c_X8_at l D cA W H mth mbd mne mnw mmn mbx man mrs mrl mfl mpt mdf mlb mbo mwn mwo mxo myo mor co3 mro mpw mph mrk mrb mrf mfr mfm med map mwh 0 a (by first | assumption | omega)) (by decide +kernel) aX8_at rfl rfl rfl ⟨rfl, rfl⟩ (by decide) (Nat.le_of_ble_eq_true rfl) [0, 1, 2, 3, 4, 5, 6, 7, 8, 9, 10, 11, 12, 13, 14, 15, 16, 17, 18, 19, 20, 21] [] [] rfl rfl rfl (fun r w' hp => ?_)
                      obtain ⟨rfl, rfl⟩ := hp
                      show G X mX8_fillCommon ad 0 0 (moW W H mth mbd mne mnw mmn mbx man mrs mrl mfl mpt mdf mlb mbo mwn mwo mxo myo mor co3 mro mpw mph mrk mrb mrf mfr mfm med map mwh, 112, [(0, gr 60), (1, gi a), (2, gi b), (3, gi ((41 * a) + b)), (4, gi (max (co3 (((41 * a) + b) + 41)) (co3 (((41 * a) + b) + 1))))], [gi (mor (40 * 0 + a)), gr 66, gi ((41 * a) + b), gr 70])
                      refine G.go hX 6 (moW W H mth mbd mne mnw mmn mbx man mrs mrl mfl mpt mdf mlb mbo mwn mwo mxo myo mor co3 mro mpw mph mrk mrb mrf mfr mfm med map mwh, 120, [(0, gr 60), (1, gi a), (2, gi b), (3, gi ((41 * a) + b)), (4, gi (max (co3 (((41 * a) + b) + 41)) (co3 (((41 * a) + b) + 1))))], [gi b, gi 1, gr 60, gr 66, gi (mwo (mor (40 * 0 + a))), gi ((41 * a) + b), gr 70]) rfl ?_ ?_
                      · refine ⟨?_, trivial⟩
                        · rw [show 40 * 0 + a = a by omega]; omega
                      refine G.callV (av := [gi 1, gi b]) (o := 60) (st := [gr 66, gi (mwo (mor (40 * 0 + a))), gi ((41 * a) + b), gr 70]) hX rfl (fun l D cA => c_X8_at l D cA W H mth mbd mne mnw mmn mbx man mrs mrl mfl mpt mdf mlb mbo mwn mwo mxo myo mor co3 mro mpw mph mrk mrb mrf mfr mfm med map mwh 1 b (by first | assumption | omega)) (by decide +kernel) aX8_at rfl rfl rfl ⟨rfl, rfl⟩ (by decide) (Nat.le_of_ble_eq_true rfl) [0, 1, 2, 3, 4, 5, 6, 7, 8, 9, 10, 11, 12, 13, 14, 15, 16, 17, 18, 19, 20, 21] [] [] rfl rfl rfl (fun r w' hp => ?_)
                      obtain ⟨rfl, rfl⟩ := hp
                      show G X mX8_fillCommon ad 0 0 (moW W H mth mbd mne mnw mmn mbx man mrs mrl mfl mpt mdf mlb mbo mwn mwo mxo myo mor co3 mro mpw mph mrk mrb mrf mfr mfm med map mwh, 123, [(0, gr 60), (1, gi a), (2, gi b), (3, gi ((41 * a) + b)), (4, gi (max (co3 (((41 * a) + b) + 41)) (co3 (((41 * a) + b) + 1))))], [gi (mor (40 * 1 + b)), gr 66, gi (mwo (mor (40 * 0 + a))), gi ((41 * a) + b), gr 70])
                      refine G.go hX 1 (moW W H mth mbd mne mnw mmn mbx man mrs mrl mfl mpt mdf mlb mbo mwn mwo mxo myo mor co3 mro mpw mph mrk mrb mrf mfr mfm med map mwh, 124, [(0, gr 60), (1, gi a), (2, gi b), (3, gi ((41 * a) + b)), (4, gi (max (co3 (((41 * a) + b) + 41)) (co3 (((41 * a) + b) + 1))))], [gi (mwo (mor (40 * 1 + b))), gi (mwo (mor (40 * 0 + a))), gi ((41 * a) + b), gr 70]) rfl ?_ ?_
                      · refine ⟨?_, trivial⟩
                        · rw [show 40 * 1 + b = 40 + b by omega]; omega
                      have jn143 : G X mX8_fillCommon ad 0 0 (moW W H mth mbd mne mnw mmn mbx man mrs mrl mfl mpt mdf mlb mbo mwn mwo mxo myo mor co3 mro mpw mph mrk mrb mrf mfr mfm med map mwh, 143, [(0, gr 60), (1, gi a), (2, gi b), (3, gi ((41 * a) + b)), (4, gi (max (co3 (((41 * a) + b) + 41)) (co3 (((41 * a) + b) + 1))))], [gi (if mwo (mor a) = mwo (mor (40 + b)) then 1 + co3 (41 * a + b + 42) else max (co3 (41 * a + b + 41)) (co3 (41 * a + b + 1))), gi ((41 * a) + b), gr 70]) := by
                        refine G.go hX 3 (moW W H mth mbd mne mnw mmn mbx man mrs mrl mfl mpt mdf mlb mbo mwn mwo mxo myo mor (gu co3 ((41 * a) + b) (if mwo (mor a) = mwo (mor (40 + b)) then 1 + co3 (41 * a + b + 42) else max (co3 (41 * a + b + 41)) (co3 (41 * a + b + 1)))) mro mpw mph mrk mrb mrf mfr mfm med map mwh, 44, [(0, gr 60), (1, gi a), (2, gi (b + (-1))), (3, gi ((41 * a) + b)), (4, gi (max (co3 (((41 * a) + b) + 41)) (co3 (((41 * a) + b) + 1))))], []) rfl ?_ ?_
                        · refine ⟨?_, trivial⟩
                          · omega
                        refine G.locs [(0, gr 60), (1, gi a), (2, gi (b + (-1)))] [0, 1, 2] rfl ?_
                        exact ih44 (b + (-1)) (gu co3 ((41 * a) + b) (if mwo (mor a) = mwo (mor (40 + b)) then 1 + co3 (41 * a + b + 42) else max (co3 (41 * a + b + 41)) (co3 (41 * a + b + 1)))) (by omega) (by intro j h1 h2; rw [gu_n _ _ (by omega)]; exact hz3 j h1 h2) (by have h9 := wLp_step (by omega) hp3 (by omega) (by omega) (by omega) (by omega); rw [wLp_m (by omega) hp3 (by omega) (by omega) (by omega) (by omega), show a * 41 + b = 41 * a + b by omega] at h9; rw [show b + (-1) = b - 1 by omega]; exact h9) (by omega)
                      refine g_icmp_ne hX 141 rfl rfl (hwo _) (hwo _) (fun b124 => ?_) (fun b124 => ?_)
                      ·
                        refine G.go hX 1 (moW W H mth mbd mne mnw mmn mbx man mrs mrl mfl mpt mdf mlb mbo mwn mwo mxo myo mor co3 mro mpw mph mrk mrb mrf mfr mfm med map mwh, 143, [(0, gr 60), (1, gi a), (2, gi b), (3, gi ((41 * a) + b)), (4, gi (max (co3 (((41 * a) + b) + 41)) (co3 (((41 * a) + b) + 1))))], [gi (max (co3 (((41 * a) + b) + 41)) (co3 (((41 * a) + b) + 1))), gi ((41 * a) + b), gr 70]) rfl trivial ?_
                        refine G.eq (S' := (moW W H mth mbd mne mnw mmn mbx man mrs mrl mfl mpt mdf mlb mbo mwn mwo mxo myo mor co3 mro mpw mph mrk mrb mrf mfr mfm med map mwh, 143, [(0, gr 60), (1, gi a), (2, gi b), (3, gi ((41 * a) + b)), (4, gi (max (co3 (((41 * a) + b) + 41)) (co3 (((41 * a) + b) + 1))))], [gi (if mwo (mor a) = mwo (mor (40 + b)) then 1 + co3 (41 * a + b + 42) else max (co3 (41 * a + b + 41)) (co3 (41 * a + b + 1))), gi ((41 * a) + b), gr 70])) ?_ jn143
                        rw [if_neg (show ¬ mwo (mor a) = mwo (mor (40 + b)) by (have h9 := b124; rw [show 40 * 0 + a = a by omega, show 40 * 1 + b = 40 + b by omega] at h9; exact h9))]
                      ·
                        refine G.go hX 9 (moW W H mth mbd mne mnw mmn mbx man mrs mrl mfl mpt mdf mlb mbo mwn mwo mxo myo mor co3 mro mpw mph mrk mrb mrf mfr mfm med map mwh, 143, [(0, gr 60), (1, gi a), (2, gi b), (3, gi ((41 * a) + b)), (4, gi (max (co3 (((41 * a) + b) + 41)) (co3 (((41 * a) + b) + 1))))], [gi ((co3 (((41 * a) + b) + 42)) + 1), gi ((41 * a) + b), gr 70]) rfl ?_ ?_
                        · refine ⟨?_, trivial⟩
                          · omega
                        refine G.eq (S' := (moW W H mth mbd mne mnw mmn mbx man mrs mrl mfl mpt mdf mlb mbo mwn mwo mxo myo mor co3 mro mpw mph mrk mrb mrf mfr mfm med map mwh, 143, [(0, gr 60), (1, gi a), (2, gi b), (3, gi ((41 * a) + b)), (4, gi (max (co3 (((41 * a) + b) + 41)) (co3 (((41 * a) + b) + 1))))], [gi (if mwo (mor a) = mwo (mor (40 + b)) then 1 + co3 (41 * a + b + 42) else max (co3 (41 * a + b + 41)) (co3 (41 * a + b + 1))), gi ((41 * a) + b), gr 70])) ?_ jn143
                        rw [if_pos (show mwo (mor a) = mwo (mor (40 + b)) by (have h9 := b124; rw [show 40 * 0 + a = a by omega, show 40 * 1 + b = 40 + b by omega] at h9; omega)), Int.add_comm (1 : Int)]
                    refine g_icmp_le hX 87 rfl rfl ⟨by omega, by omega⟩ ⟨by omega, by omega⟩ (fun b72 => ?_) (fun b72 => ?_)
                    ·
                      refine G.go hX 6 (moW W H mth mbd mne mnw mmn mbx man mrs mrl mfl mpt mdf mlb mbo mwn mwo mxo myo mor co3 mro mpw mph mrk mrb mrf mfr mfm med map mwh, 95, [(0, gr 60), (1, gi a), (2, gi b), (3, gi ((41 * a) + b))], [gi (co3 (((41 * a) + b) + 1))]) rfl ?_ ?_
                      · refine ⟨?_, trivial⟩
                        · omega
                      refine G.eq (S' := (moW W H mth mbd mne mnw mmn mbx man mrs mrl mfl mpt mdf mlb mbo mwn mwo mxo myo mor co3 mro mpw mph mrk mrb mrf mfr mfm med map mwh, 95, [(0, gr 60), (1, gi a), (2, gi b), (3, gi ((41 * a) + b))], [gi (max (co3 (((41 * a) + b) + 41)) (co3 (((41 * a) + b) + 1)))])) ?_ jn95
                      rw [show max (co3 (((41 * a) + b) + 41)) (co3 (((41 * a) + b) + 1)) = co3 (((41 * a) + b) + 1) by omega]
                    ·
                      refine G.go hX 7 (moW W H mth mbd mne mnw mmn mbx man mrs mrl mfl mpt mdf mlb mbo mwn mwo mxo myo mor co3 mro mpw mph mrk mrb mrf mfr mfm med map mwh, 95, [(0, gr 60), (1, gi a), (2, gi b), (3, gi ((41 * a) + b))], [gi (co3 (((41 * a) + b) + 41))]) rfl ?_ ?_
                      · refine ⟨?_, trivial⟩
                        · omega
                      refine G.eq (S' := (moW W H mth mbd mne mnw mmn mbx man mrs mrl mfl mpt mdf mlb mbo mwn mwo mxo myo mor co3 mro mpw mph mrk mrb mrf mfr mfm med map mwh, 95, [(0, gr 60), (1, gi a), (2, gi b), (3, gi ((41 * a) + b))], [gi (max (co3 (((41 * a) + b) + 41)) (co3 (((41 * a) + b) + 1)))])) ?_ jn95
                      rw [show max (co3 (((41 * a) + b) + 41)) (co3 (((41 * a) + b) + 1)) = co3 (((41 * a) + b) + 41) by omega]
              exact lp44 _ ((mwn 1) - 1) co2 (by omega) (by exact hz2) (by intro a' b' h1 h2 h3 h4 h5; by_cases e9 : a < a'; exact hp2 a' b' h1 h2 h3 h4 (Or.inl e9); (have e8 : b' = mwn 1 := (by omega); have e7 := hz2 a' h1 h2; rw [e8, e7]; unfold wLv; rw [if_pos (Or.inr rfl)]; omega)) (Nat.lt_succ_self _)
        exact lp31 _ ((mwn 0) - 1) co1 (by omega) (by intro j h1 h2; exact hc1 _ (by omega) (by omega)) (by intro a' b' h1 h2 h3 h4 h5; have e9 : a' = mwn 0 := (by omega); rw [hc1 _ (by omega) (by omega)]; unfold wLv; rw [if_pos (Or.inl e9)]; omega) (Nat.lt_succ_self _)
      ·
        refine G.go hX 7 (moW W H mth mbd mne mnw mmn mbx man mrs mrl mfl mpt mdf mlb mbo mwn mwo mxo myo mor (gu co1 k 0) mro mpw mph mrk mrb mrf mfr mfm med map mwh, 2, [(0, gr 60), (1, gi (k + 1))], []) rfl ?_ ?_
        · refine ⟨?_, trivial⟩
          · omega
        exact ih2 (k + 1) (gu co1 k 0) (by omega) (by intro j h1 h2; by_cases e9 : j = k; (rw [e9, gu_s]); (rw [gu_n _ _ e9]; exact hc1 j h1 (by omega))) (by omega)
  exact lp2 _ 0 mco (by omega) (by intro j h1 h2; omega) (Nat.lt_succ_self _)
