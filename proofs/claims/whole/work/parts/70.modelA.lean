abbrev moW (W H : Nat) (mth mbd mne mnw mmn mbx man mrs mrl mfl : Int) (mpt mdf mlb mbo mwn mwo mxo myo mor mco mro mpw mph mrk mrb mrf mfr mfm med map mwh : Int → Int) : gW := [(60, gob 9 [gi mth, gi W, gi H, gr 61, gi mbd, gi mne, gi mnw, gr 62, gr 63, gi mmn, gi mbx, gr 64, gr 65, gr 66, gr 67, gr 68, gr 69, gi man, gr 70, gi mrs, gr 71, gr 72, gr 73, gi mrl, gr 74, gr 75, gr 76, gi mfl, gr 77, gr 78, gr 79, gr 80, gr 81]), (61, gai 0 2048 mpt), (62, gai 1 1024 mdf), (63, gai 0 1024 mlb), (64, gai 0 4096 mbo), (65, gai 0 2 mwn), (66, gai 0 80 mwo), (67, gai 0 80 mxo), (68, gai 0 80 myo), (69, gai 0 80 mor), (70, gai 0 1681 mco), (71, gai 0 320 mro), (72, gai 0 40 mpw), (73, gai 0 40 mph), (74, gai 0 12 mrk), (75, gai 0 12 mrb), (76, gai 1 12 mrf), (77, gai 0 12 mfr), (78, gai 0 12 mfm), (79, gai 0 20 med), (80, gai 0 20 map), (81, gai 0 120 mwh)]
set_option maxHeartbeats 4000000 in
set_option maxRecDepth 100000 in
theorem c_X8_in (l : Launch) (D : va_G) (cA : Nat → ClassId) (v : Int) (lo : Int) (hi : Int) (hv : inR v) (hlo : inR lo) (hhi : inR hi) :
    gC l D cA yX8_in mX8_in (some .boolean) 0 0 [gi v, gi lo, gi hi] ([]) (fun r9 w9 => r9 = some (gi (gb (lo ≤ v ∧ v ≤ hi))) ∧ w9 = []) := by
  refine gC_of rfl kX8_in rfl rfl (Nat.le_of_ble_eq_true rfl) (fun X ad hX hE => ?_)
  refine G.go hX 2 ([], 2, [(0, gi v), (1, gi lo), (2, gi hi)], [gi lo, gi v]) rfl trivial ?_
  refine g_icmp_lt hX 14 rfl rfl (by assumption) (by assumption) (fun b2 => ?_) (fun b2 => ?_)
  ·
    refine G.go hX 1 ([], 15, [(0, gi v), (1, gi lo), (2, gi hi)], [gi 0]) rfl trivial ?_
    exact g_zret hX hE rfl (Or.inl rfl) ⟨(congrArg (fun z => some (gi z)) (gb_f (by omega)).symm), rfl⟩
  ·
    refine G.go hX 2 ([], 7, [(0, gi v), (1, gi lo), (2, gi hi)], [gi hi, gi v]) rfl trivial ?_
    refine g_icmp_gt hX 14 rfl rfl (by assumption) (by assumption) (fun b7 => ?_) (fun b7 => ?_)
    ·
      refine G.go hX 1 ([], 15, [(0, gi v), (1, gi lo), (2, gi hi)], [gi 0]) rfl trivial ?_
      exact g_zret hX hE rfl (Or.inl rfl) ⟨(congrArg (fun z => some (gi z)) (gb_f (by omega)).symm), rfl⟩
    ·
      refine G.go hX 2 ([], 15, [(0, gi v), (1, gi lo), (2, gi hi)], [gi 1]) rfl trivial ?_
      exact g_zret hX hE rfl (Or.inr rfl) ⟨(congrArg (fun z => some (gi z)) (gb_t (by omega)).symm), rfl⟩
set_option maxHeartbeats 4000000 in
set_option maxRecDepth 100000 in
theorem c_X8_thrown (l : Launch) (D : va_G) (cA : Nat → ClassId) (W : Nat) (H : Nat) (mth : Int) (mbd : Int) (mne : Int) (mnw : Int) (mmn : Int) (mbx : Int) (man : Int) (mrs : Int) (mrl : Int) (mfl : Int) (mpt : Int → Int) (mdf : Int → Int) (mlb : Int → Int) (mbo : Int → Int) (mwn : Int → Int) (mwo : Int → Int) (mxo : Int → Int) (myo : Int → Int) (mor : Int → Int) (mco : Int → Int) (mro : Int → Int) (mpw : Int → Int) (mph : Int → Int) (mrk : Int → Int) (mrb : Int → Int) (mrf : Int → Int) (mfr : Int → Int) (mfm : Int → Int) (med : Int → Int) (map : Int → Int) (mwh : Int → Int)  :
    gC l D cA yX8_thrown mX8_thrown (some .int) 0 0 [gr 60] (moW W H mth mbd mne mnw mmn mbx man mrs mrl mfl mpt mdf mlb mbo mwn mwo mxo myo mor mco mro mpw mph mrk mrb mrf mfr mfm med map mwh) (fun r9 w9 => r9 = some (gi mth) ∧ w9 = moW W H mth mbd mne mnw mmn mbx man mrs mrl mfl mpt mdf mlb mbo mwn mwo mxo myo mor mco mro mpw mph mrk mrb mrf mfr mfm med map mwh) := by
  refine gC_of rfl kX8_thrown rfl rfl (Nat.le_of_ble_eq_true rfl) (fun X ad hX hE => ?_)
  refine G.go hX 2 (moW W H mth mbd mne mnw mmn mbx man mrs mrl mfl mpt mdf mlb mbo mwn mwo mxo myo mor mco mro mpw mph mrk mrb mrf mfr mfm med map mwh, 4, [(0, gr 60)], [gi mth]) rfl trivial ?_
  exact g_iret hX hE rfl ⟨rfl, rfl⟩
set_option maxHeartbeats 4000000 in
set_option maxRecDepth 100000 in
theorem c_X8_point (l : Launch) (D : va_G) (cA : Nat → ClassId) (W : Nat) (H : Nat) (mth : Int) (mbd : Int) (mne : Int) (mnw : Int) (mmn : Int) (mbx : Int) (man : Int) (mrs : Int) (mrl : Int) (mfl : Int) (mpt : Int → Int) (mdf : Int → Int) (mlb : Int → Int) (mbo : Int → Int) (mwn : Int → Int) (mwo : Int → Int) (mxo : Int → Int) (myo : Int → Int) (mor : Int → Int) (mco : Int → Int) (mro : Int → Int) (mpw : Int → Int) (mph : Int → Int) (mrk : Int → Int) (mrb : Int → Int) (mrf : Int → Int) (mfr : Int → Int) (mfm : Int → Int) (med : Int → Int) (map : Int → Int) (mwh : Int → Int) (s : Int) (x : Int) (y : Int) (v : Int) (hW : W ≤ 32) (hH : H ≤ 32) (hs : inR s) (hx : inR x) (hy : inR y) :
    gC l D cA yX8_point mX8_point (some .int) 0 0 [gr 60, gi s, gi x, gi y, gi v] (moW W H mth mbd mne mnw mmn mbx man mrs mrl mfl mpt mdf mlb mbo mwn mwo mxo myo mor mco mro mpw mph mrk mrb mrf mfr mfm med map mwh) (fun r9 w9 => ∃ (rv : Int) (th : Int) (nw : Int) (pt : Int → Int), r9 = some (gi rv) ∧ w9 = moW W H th mbd mne nw mmn mbx man mrs mrl mfl pt mdf mlb mbo mwn mwo mxo myo mor mco mro mpw mph mrk mrb mrf mfr mfm med map mwh ∧ ((0 ≤ s ∧ s ≤ 1) ∧ (0 ≤ x ∧ x < W) ∧ 0 ≤ y ∧ y < H → th = 0 ∧ nw = 1 ∧ rv = mpt (1024 * s + 32 * y + x) ∧ pt = gu mpt (1024 * s + 32 * y + x) (Int32.ofInt v &&& Int32.ofInt 255).toInt) ∧ (¬ ((0 ≤ s ∧ s ≤ 1) ∧ (0 ≤ x ∧ x < W) ∧ 0 ≤ y ∧ y < H) → th = 1 ∧ rv = 0 ∧ nw = mnw ∧ pt = mpt)) := by
  refine gC_of rfl kX8_point rfl rfl (Nat.le_of_ble_eq_true rfl) (fun X ad hX hE => ?_)
  refine G.go hX 3 (moW W H mth mbd mne mnw mmn mbx man mrs mrl mfl mpt mdf mlb mbo mwn mwo mxo myo mor mco mro mpw mph mrk mrb mrf mfr mfm med map mwh, 3, [(0, gr 60), (1, gi s), (2, gi x), (3, gi y), (4, gi v)], [gi 1, gi 0, gi s]) rfl trivial ?_
  refine G.callS (av := [gi s, gi 0, gi 1]) (st := []) hX rfl (fun l D cA => c_X8_in l D cA s 0 1 (by first | assumption | exact ⟨by omega, by omega⟩) ⟨by omega, by omega⟩ ⟨by omega, by omega⟩) (by decide +kernel) aX8_in rfl ⟨rfl, rfl⟩ (by decide) (Nat.le_of_ble_eq_true rfl) [] [0, 1, 2, 3, 4, 5, 6, 7, 8, 9, 10, 11, 12, 13, 14, 15, 16, 17, 18, 19, 20, 21] (moW W H mth mbd mne mnw mmn mbx man mrs mrl mfl mpt mdf mlb mbo mwn mwo mxo myo mor mco mro mpw mph mrk mrb mrf mfr mfm med map mwh) rfl rfl rfl (fun r w' hp => ?_)
  obtain ⟨rfl, rfl⟩ := hp
  show G X mX8_point ad 0 0 (moW W H mth mbd mne mnw mmn mbx man mrs mrl mfl mpt mdf mlb mbo mwn mwo mxo myo mor mco mro mpw mph mrk mrb mrf mfr mfm med map mwh, 6, [(0, gr 60), (1, gi s), (2, gi x), (3, gi y), (4, gi v)], [gi (gb (0 ≤ s ∧ s ≤ 1))])
  have jn42 : G X mX8_point ad 0 0 (moW W H mth mbd mne mnw mmn mbx man mrs mrl mfl mpt mdf mlb mbo mwn mwo mxo myo mor mco mro mpw mph mrk mrb mrf mfr mfm med map mwh, 42, [(0, gr 60), (1, gi s), (2, gi x), (3, gi y), (4, gi v)], [gi (gb ((0 ≤ s ∧ s ≤ 1) ∧ (0 ≤ x ∧ x < W) ∧ 0 ≤ y ∧ y < H))]) := by
    refine G.go hX 3 (moW W H mth mbd mne mnw mmn mbx man mrs mrl mfl mpt mdf mlb mbo mwn mwo mxo myo mor mco mro mpw mph mrk mrb mrf mfr mfm med map mwh, 47, [(0, gr 60), (1, gi s), (2, gi x), (3, gi y), (4, gi v), (5, gi (gb ((0 ≤ s ∧ s ≤ 1) ∧ (0 ≤ x ∧ x < W) ∧ 0 ≤ y ∧ y < H)))], [gi (gb ((0 ≤ s ∧ s ≤ 1) ∧ (0 ≤ x ∧ x < W) ∧ 0 ≤ y ∧ y < H)), gr 60]) rfl trivial ?_
    refine g_if_eq hX 54 rfl rfl (gb_r _) (fun b47 => ?_) (fun b47 => ?_)
    ·
      have b47 := gb_0.mp b47
      refine G.go hX 4 (moW W H 1 mbd mne mnw mmn mbx man mrs mrl mfl mpt mdf mlb mbo mwn mwo mxo myo mor mco mro mpw mph mrk mrb mrf mfr mfm med map mwh, 62, [(0, gr 60), (1, gi s), (2, gi x), (3, gi y), (4, gi v), (5, gi (gb ((0 ≤ s ∧ s ≤ 1) ∧ (0 ≤ x ∧ x < W) ∧ 0 ≤ y ∧ y < H)))], [gi 1]) rfl trivial ?_
      refine g_if_le hX 67 rfl rfl ⟨by omega, by omega⟩ (fun b62 => ?_) (fun b62 => ?_)
      ·
        exfalso
        omega
      ·
        refine G.go hX 1 (moW W H 1 mbd mne mnw mmn mbx man mrs mrl mfl mpt mdf mlb mbo mwn mwo mxo myo mor mco mro mpw mph mrk mrb mrf mfr mfm med map mwh, 66, [(0, gr 60), (1, gi s), (2, gi x), (3, gi y), (4, gi v), (5, gi (gb ((0 ≤ s ∧ s ≤ 1) ∧ (0 ≤ x ∧ x < W) ∧ 0 ≤ y ∧ y < H)))], [gi 0]) rfl trivial ?_
        exact g_iret hX hE rfl ⟨0, 1, mnw, mpt, rfl, rfl, fun h9 => absurd h9 b47, fun _ => ⟨rfl, rfl, rfl, rfl⟩⟩
    ·
      have b47 := gb_n0 b47
      refine G.go hX 5 (moW W H 0 mbd mne mnw mmn mbx man mrs mrl mfl mpt mdf mlb mbo mwn mwo mxo myo mor mco mro mpw mph mrk mrb mrf mfr mfm med map mwh, 62, [(0, gr 60), (1, gi s), (2, gi x), (3, gi y), (4, gi v), (5, gi (gb ((0 ≤ s ∧ s ≤ 1) ∧ (0 ≤ x ∧ x < W) ∧ 0 ≤ y ∧ y < H)))], [gi 0]) rfl trivial ?_
      refine g_if_le hX 67 rfl rfl ⟨by omega, by omega⟩ (fun b62 => ?_) (fun b62 => ?_)
      ·
        refine G.go hX 26 (moW W H 0 mbd mne 1 mmn mbx man mrs mrl mfl (gu mpt (((1024 * s) + (32 * y)) + x) ((Int32.ofInt v &&& Int32.ofInt 255).toInt)) mdf mlb mbo mwn mwo mxo myo mor mco mro mpw mph mrk mrb mrf mfr mfm med map mwh, 110, [(0, gr 60), (1, gi s), (2, gi x), (3, gi y), (4, gi v), (5, gi (gb ((0 ≤ s ∧ s ≤ 1) ∧ (0 ≤ x ∧ x < W) ∧ 0 ≤ y ∧ y < H))), (6, gi (((1024 * s) + (32 * y)) + x)), (7, gi (mpt (((1024 * s) + (32 * y)) + x)))], [gi (mpt (((1024 * s) + (32 * y)) + x))]) rfl ?_ ?_
        · refine ⟨?_, ?_, ?_, trivial⟩
          · omega
          · omega
          · omega
        exact g_iret hX hE rfl ⟨_, 0, 1, _, rfl, rfl, fun _ => ⟨rfl, rfl, rfl, rfl⟩, fun h9 => absurd b47 h9⟩
      ·
        exfalso
        omega
  refine g_if_eq hX 41 rfl rfl (gb_r _) (fun b6 => ?_) (fun b6 => ?_)
  ·
    have b6 := gb_0.mp b6
    refine G.go hX 1 (moW W H mth mbd mne mnw mmn mbx man mrs mrl mfl mpt mdf mlb mbo mwn mwo mxo myo mor mco mro mpw mph mrk mrb mrf mfr mfm med map mwh, 42, [(0, gr 60), (1, gi s), (2, gi x), (3, gi y), (4, gi v)], [gi 0]) rfl trivial ?_
    refine G.eq (S' := (moW W H mth mbd mne mnw mmn mbx man mrs mrl mfl mpt mdf mlb mbo mwn mwo mxo myo mor mco mro mpw mph mrk mrb mrf mfr mfm med map mwh, 42, [(0, gr 60), (1, gi s), (2, gi x), (3, gi y), (4, gi v)], [gi (gb ((0 ≤ s ∧ s ≤ 1) ∧ (0 ≤ x ∧ x < W) ∧ 0 ≤ y ∧ y < H))])) ?_ jn42
    first | (rw [gb_t (show (0 ≤ s ∧ s ≤ 1) ∧ (0 ≤ x ∧ x < W) ∧ 0 ≤ y ∧ y < H by omega)]) | (rw [gb_f (show ¬ ((0 ≤ s ∧ s ≤ 1) ∧ (0 ≤ x ∧ x < W) ∧ 0 ≤ y ∧ y < H) by omega)])
  ·
    have b6 := gb_n0 b6
    refine G.go hX 6 (moW W H mth mbd mne mnw mmn mbx man mrs mrl mfl mpt mdf mlb mbo mwn mwo mxo myo mor mco mro mpw mph mrk mrb mrf mfr mfm med map mwh, 17, [(0, gr 60), (1, gi s), (2, gi x), (3, gi y), (4, gi v)], [gi (W - 1), gi 0, gi x]) rfl trivial ?_
    refine G.callS (av := [gi x, gi 0, gi (W - 1)]) (st := []) hX rfl (fun l D cA => c_X8_in l D cA x 0 (W - 1) (by first | assumption | exact ⟨by omega, by omega⟩) ⟨by omega, by omega⟩ ⟨by omega, by omega⟩) (by decide +kernel) aX8_in rfl ⟨rfl, rfl⟩ (by decide) (Nat.le_of_ble_eq_true rfl) [] [0, 1, 2, 3, 4, 5, 6, 7, 8, 9, 10, 11, 12, 13, 14, 15, 16, 17, 18, 19, 20, 21] (moW W H mth mbd mne mnw mmn mbx man mrs mrl mfl mpt mdf mlb mbo mwn mwo mxo myo mor mco mro mpw mph mrk mrb mrf mfr mfm med map mwh) rfl rfl rfl (fun r w' hp => ?_)
    obtain ⟨rfl, rfl⟩ := hp
    show G X mX8_point ad 0 0 (moW W H mth mbd mne mnw mmn mbx man mrs mrl mfl mpt mdf mlb mbo mwn mwo mxo myo mor mco mro mpw mph mrk mrb mrf mfr mfm med map mwh, 20, [(0, gr 60), (1, gi s), (2, gi x), (3, gi y), (4, gi v)], [gi (gb (0 ≤ x ∧ x ≤ (W - 1)))])
    refine g_if_eq hX 41 rfl rfl (gb_r _) (fun b20 => ?_) (fun b20 => ?_)
    ·
      have b20 := gb_0.mp b20
      refine G.go hX 1 (moW W H mth mbd mne mnw mmn mbx man mrs mrl mfl mpt mdf mlb mbo mwn mwo mxo myo mor mco mro mpw mph mrk mrb mrf mfr mfm med map mwh, 42, [(0, gr 60), (1, gi s), (2, gi x), (3, gi y), (4, gi v)], [gi 0]) rfl trivial ?_
      refine G.eq (S' := (moW W H mth mbd mne mnw mmn mbx man mrs mrl mfl mpt mdf mlb mbo mwn mwo mxo myo mor mco mro mpw mph mrk mrb mrf mfr mfm med map mwh, 42, [(0, gr 60), (1, gi s), (2, gi x), (3, gi y), (4, gi v)], [gi (gb ((0 ≤ s ∧ s ≤ 1) ∧ (0 ≤ x ∧ x < W) ∧ 0 ≤ y ∧ y < H))])) ?_ jn42
      first | (rw [gb_t (show (0 ≤ s ∧ s ≤ 1) ∧ (0 ≤ x ∧ x < W) ∧ 0 ≤ y ∧ y < H by omega)]) | (rw [gb_f (show ¬ ((0 ≤ s ∧ s ≤ 1) ∧ (0 ≤ x ∧ x < W) ∧ 0 ≤ y ∧ y < H) by omega)])
    ·
      have b20 := gb_n0 b20
      refine G.go hX 6 (moW W H mth mbd mne mnw mmn mbx man mrs mrl mfl mpt mdf mlb mbo mwn mwo mxo myo mor mco mro mpw mph mrk mrb mrf mfr mfm med map mwh, 31, [(0, gr 60), (1, gi s), (2, gi x), (3, gi y), (4, gi v)], [gi (H - 1), gi 0, gi y]) rfl trivial ?_
      refine G.callS (av := [gi y, gi 0, gi (H - 1)]) (st := []) hX rfl (fun l D cA => c_X8_in l D cA y 0 (H - 1) (by first | assumption | exact ⟨by omega, by omega⟩) ⟨by omega, by omega⟩ ⟨by omega, by omega⟩) (by decide +kernel) aX8_in rfl ⟨rfl, rfl⟩ (by decide) (Nat.le_of_ble_eq_true rfl) [] [0, 1, 2, 3, 4, 5, 6, 7, 8, 9, 10, 11, 12, 13, 14, 15, 16, 17, 18, 19, 20, 21] (moW W H mth mbd mne mnw mmn mbx man mrs mrl mfl mpt mdf mlb mbo mwn mwo mxo myo mor mco mro mpw mph mrk mrb mrf mfr mfm med map mwh) rfl rfl rfl (fun r w' hp => ?_)
      obtain ⟨rfl, rfl⟩ := hp
      show G X mX8_point ad 0 0 (moW W H mth mbd mne mnw mmn mbx man mrs mrl mfl mpt mdf mlb mbo mwn mwo mxo myo mor mco mro mpw mph mrk mrb mrf mfr mfm med map mwh, 34, [(0, gr 60), (1, gi s), (2, gi x), (3, gi y), (4, gi v)], [gi (gb (0 ≤ y ∧ y ≤ (H - 1)))])
      refine g_if_eq hX 41 rfl rfl (gb_r _) (fun b34 => ?_) (fun b34 => ?_)
      ·
        have b34 := gb_0.mp b34
        refine G.go hX 1 (moW W H mth mbd mne mnw mmn mbx man mrs mrl mfl mpt mdf mlb mbo mwn mwo mxo myo mor mco mro mpw mph mrk mrb mrf mfr mfm med map mwh, 42, [(0, gr 60), (1, gi s), (2, gi x), (3, gi y), (4, gi v)], [gi 0]) rfl trivial ?_
        refine G.eq (S' := (moW W H mth mbd mne mnw mmn mbx man mrs mrl mfl mpt mdf mlb mbo mwn mwo mxo myo mor mco mro mpw mph mrk mrb mrf mfr mfm med map mwh, 42, [(0, gr 60), (1, gi s), (2, gi x), (3, gi y), (4, gi v)], [gi (gb ((0 ≤ s ∧ s ≤ 1) ∧ (0 ≤ x ∧ x < W) ∧ 0 ≤ y ∧ y < H))])) ?_ jn42
        first | (rw [gb_t (show (0 ≤ s ∧ s ≤ 1) ∧ (0 ≤ x ∧ x < W) ∧ 0 ≤ y ∧ y < H by omega)]) | (rw [gb_f (show ¬ ((0 ≤ s ∧ s ≤ 1) ∧ (0 ≤ x ∧ x < W) ∧ 0 ≤ y ∧ y < H) by omega)])
      ·
        have b34 := gb_n0 b34
        refine G.go hX 2 (moW W H mth mbd mne mnw mmn mbx man mrs mrl mfl mpt mdf mlb mbo mwn mwo mxo myo mor mco mro mpw mph mrk mrb mrf mfr mfm med map mwh, 42, [(0, gr 60), (1, gi s), (2, gi x), (3, gi y), (4, gi v)], [gi 1]) rfl trivial ?_
        refine G.eq (S' := (moW W H mth mbd mne mnw mmn mbx man mrs mrl mfl mpt mdf mlb mbo mwn mwo mxo myo mor mco mro mpw mph mrk mrb mrf mfr mfm med map mwh, 42, [(0, gr 60), (1, gi s), (2, gi x), (3, gi y), (4, gi v)], [gi (gb ((0 ≤ s ∧ s ≤ 1) ∧ (0 ≤ x ∧ x < W) ∧ 0 ≤ y ∧ y < H))])) ?_ jn42
        first | (rw [gb_t (show (0 ≤ s ∧ s ≤ 1) ∧ (0 ≤ x ∧ x < W) ∧ 0 ≤ y ∧ y < H by omega)]) | (rw [gb_f (show ¬ ((0 ≤ s ∧ s ≤ 1) ∧ (0 ≤ x ∧ x < W) ∧ 0 ≤ y ∧ y < H) by omega)])
set_option maxHeartbeats 4000000 in
set_option maxRecDepth 100000 in
theorem c_X8_bound (l : Launch) (D : va_G) (cA : Nat → ClassId) (W : Nat) (H : Nat) (mth : Int) (mbd : Int) (mne : Int) (mnw : Int) (mmn : Int) (mbx : Int) (man : Int) (mrs : Int) (mrl : Int) (mfl : Int) (mpt : Int → Int) (mdf : Int → Int) (mlb : Int → Int) (mbo : Int → Int) (mwn : Int → Int) (mwo : Int → Int) (mxo : Int → Int) (myo : Int → Int) (mor : Int → Int) (mco : Int → Int) (mro : Int → Int) (mpw : Int → Int) (mph : Int → Int) (mrk : Int → Int) (mrb : Int → Int) (mrf : Int → Int) (mfr : Int → Int) (mfm : Int → Int) (med : Int → Int) (map : Int → Int) (mwh : Int → Int) (b : Int) (n : Int) (hb : inR b) (hn : inR n) :
    gC l D cA yX8_bound mX8_bound (some .int) 0 0 [gr 60, gi b, gi n] (moW W H mth mbd mne mnw mmn mbx man mrs mrl mfl mpt mdf mlb mbo mwn mwo mxo myo mor mco mro mpw mph mrk mrb mrf mfr mfm med map mwh) (fun r9 w9 => ∃ (rv : Int) (th : Int) (nw : Int) (bd : Int) (ne : Int), r9 = some (gi rv) ∧ w9 = moW W H th bd ne nw mmn mbx man mrs mrl mfl mpt mdf mlb mbo mwn mwo mxo myo mor mco mro mpw mph mrk mrb mrf mfr mfm med map mwh ∧ ((0 ≤ b ∧ b ≤ 255) ∧ 0 ≤ n ∧ n ≤ 2 → th = 0 ∧ nw = 1 ∧ rv = 10 * mbd + mne ∧ bd = b ∧ ne = n) ∧ (¬ ((0 ≤ b ∧ b ≤ 255) ∧ 0 ≤ n ∧ n ≤ 2) → th = 1 ∧ rv = 0 ∧ nw = mnw ∧ bd = mbd ∧ ne = mne)) := by
  refine gC_of rfl kX8_bound rfl rfl (Nat.le_of_ble_eq_true rfl) (fun X ad hX hE => ?_)
  refine G.go hX 4 (moW W H mth mbd mne mnw mmn mbx man mrs mrl mfl mpt mdf mlb mbo mwn mwo mxo myo mor mco mro mpw mph mrk mrb mrf mfr mfm med map mwh, 6, [(0, gr 60), (1, gi b), (2, gi n)], [gi 255, gi 0, gi b, gr 60]) rfl trivial ?_
  refine G.callS (av := [gi b, gi 0, gi 255]) (st := [gr 60]) hX rfl (fun l D cA => c_X8_in l D cA b 0 255 (by first | assumption | exact ⟨by omega, by omega⟩) ⟨by omega, by omega⟩ ⟨by omega, by omega⟩) (by decide +kernel) aX8_in rfl ⟨rfl, rfl⟩ (by decide) (Nat.le_of_ble_eq_true rfl) [] [0, 1, 2, 3, 4, 5, 6, 7, 8, 9, 10, 11, 12, 13, 14, 15, 16, 17, 18, 19, 20, 21] (moW W H mth mbd mne mnw mmn mbx man mrs mrl mfl mpt mdf mlb mbo mwn mwo mxo myo mor mco mro mpw mph mrk mrb mrf mfr mfm med map mwh) rfl rfl rfl (fun r w' hp => ?_)
  obtain ⟨rfl, rfl⟩ := hp
  show G X mX8_bound ad 0 0 (moW W H mth mbd mne mnw mmn mbx man mrs mrl mfl mpt mdf mlb mbo mwn mwo mxo myo mor mco mro mpw mph mrk mrb mrf mfr mfm med map mwh, 9, [(0, gr 60), (1, gi b), (2, gi n)], [gi (gb (0 ≤ b ∧ b ≤ 255)), gr 60])
  refine g_if_eq hX 25 rfl rfl (gb_r _) (fun b9 => ?_) (fun b9 => ?_)
  ·
    have b9 := gb_0.mp b9
    refine G.go hX 4 (moW W H 1 mbd mne mnw mmn mbx man mrs mrl mfl mpt mdf mlb mbo mwn mwo mxo myo mor mco mro mpw mph mrk mrb mrf mfr mfm med map mwh, 33, [(0, gr 60), (1, gi b), (2, gi n)], [gi 1]) rfl trivial ?_
    refine g_if_le hX 38 rfl rfl ⟨by omega, by omega⟩ (fun b33 => ?_) (fun b33 => ?_)
    ·
      exfalso
      omega
    ·
      refine G.go hX 1 (moW W H 1 mbd mne mnw mmn mbx man mrs mrl mfl mpt mdf mlb mbo mwn mwo mxo myo mor mco mro mpw mph mrk mrb mrf mfr mfm med map mwh, 37, [(0, gr 60), (1, gi b), (2, gi n)], [gi 0]) rfl trivial ?_
      exact g_iret hX hE rfl ⟨0, 1, mnw, mbd, mne, rfl, rfl, fun h9 => by (exfalso; omega), fun _ => ⟨rfl, rfl, rfl, rfl, rfl⟩⟩
  ·
    have b9 := gb_n0 b9
    refine G.go hX 3 (moW W H mth mbd mne mnw mmn mbx man mrs mrl mfl mpt mdf mlb mbo mwn mwo mxo myo mor mco mro mpw mph mrk mrb mrf mfr mfm med map mwh, 15, [(0, gr 60), (1, gi b), (2, gi n)], [gi 2, gi 0, gi n, gr 60]) rfl trivial ?_
    refine G.callS (av := [gi n, gi 0, gi 2]) (st := [gr 60]) hX rfl (fun l D cA => c_X8_in l D cA n 0 2 (by first | assumption | exact ⟨by omega, by omega⟩) ⟨by omega, by omega⟩ ⟨by omega, by omega⟩) (by decide +kernel) aX8_in rfl ⟨rfl, rfl⟩ (by decide) (Nat.le_of_ble_eq_true rfl) [] [0, 1, 2, 3, 4, 5, 6, 7, 8, 9, 10, 11, 12, 13, 14, 15, 16, 17, 18, 19, 20, 21] (moW W H mth mbd mne mnw mmn mbx man mrs mrl mfl mpt mdf mlb mbo mwn mwo mxo myo mor mco mro mpw mph mrk mrb mrf mfr mfm med map mwh) rfl rfl rfl (fun r w' hp => ?_)
    obtain ⟨rfl, rfl⟩ := hp
    show G X mX8_bound ad 0 0 (moW W H mth mbd mne mnw mmn mbx man mrs mrl mfl mpt mdf mlb mbo mwn mwo mxo myo mor mco mro mpw mph mrk mrb mrf mfr mfm med map mwh, 18, [(0, gr 60), (1, gi b), (2, gi n)], [gi (gb (0 ≤ n ∧ n ≤ 2)), gr 60])
    refine g_if_eq hX 25 rfl rfl (gb_r _) (fun b18 => ?_) (fun b18 => ?_)
    ·
      have b18 := gb_0.mp b18
      refine G.go hX 4 (moW W H 1 mbd mne mnw mmn mbx man mrs mrl mfl mpt mdf mlb mbo mwn mwo mxo myo mor mco mro mpw mph mrk mrb mrf mfr mfm med map mwh, 33, [(0, gr 60), (1, gi b), (2, gi n)], [gi 1]) rfl trivial ?_
      refine g_if_le hX 38 rfl rfl ⟨by omega, by omega⟩ (fun b33 => ?_) (fun b33 => ?_)
      ·
        exfalso
        omega
      ·
        refine G.go hX 1 (moW W H 1 mbd mne mnw mmn mbx man mrs mrl mfl mpt mdf mlb mbo mwn mwo mxo myo mor mco mro mpw mph mrk mrb mrf mfr mfm med map mwh, 37, [(0, gr 60), (1, gi b), (2, gi n)], [gi 0]) rfl trivial ?_
        exact g_iret hX hE rfl ⟨0, 1, mnw, mbd, mne, rfl, rfl, fun h9 => by (exfalso; omega), fun _ => ⟨rfl, rfl, rfl, rfl, rfl⟩⟩
    ·
      have b18 := gb_n0 b18
      refine G.go hX 5 (moW W H 0 mbd mne mnw mmn mbx man mrs mrl mfl mpt mdf mlb mbo mwn mwo mxo myo mor mco mro mpw mph mrk mrb mrf mfr mfm med map mwh, 33, [(0, gr 60), (1, gi b), (2, gi n)], [gi 0]) rfl trivial ?_
      refine g_if_le hX 38 rfl rfl ⟨by omega, by omega⟩ (fun b33 => ?_) (fun b33 => ?_)
      ·
        refine G.go hX 18 (moW W H 0 b n 1 mmn mbx man mrs mrl mfl mpt mdf mlb mbo mwn mwo mxo myo mor mco mro mpw mph mrk mrb mrf mfr mfm med map mwh, 67, [(0, gr 60), (1, gi b), (2, gi n), (3, gi ((10 * mbd) + mne))], [gi ((10 * mbd) + mne)]) rfl ?_ ?_
        · refine ⟨?_, trivial⟩
          · omega
        exact g_iret hX hE rfl ⟨_, 0, 1, b, n, rfl, rfl, fun _ => ⟨rfl, rfl, rfl, rfl, rfl⟩, fun h9 => by (exfalso; omega)⟩
      ·
        exfalso
        omega
set_option maxHeartbeats 4000000 in
set_option maxRecDepth 100000 in
theorem c_X8_size (l : Launch) (D : va_G) (cA : Nat → ClassId) (W : Nat) (H : Nat) (mth : Int) (mbd : Int) (mne : Int) (mnw : Int) (mmn : Int) (mbx : Int) (man : Int) (mrs : Int) (mrl : Int) (mfl : Int) (mpt : Int → Int) (mdf : Int → Int) (mlb : Int → Int) (mbo : Int → Int) (mwn : Int → Int) (mwo : Int → Int) (mxo : Int → Int) (myo : Int → Int) (mor : Int → Int) (mco : Int → Int) (mro : Int → Int) (mpw : Int → Int) (mph : Int → Int) (mrk : Int → Int) (mrb : Int → Int) (mrf : Int → Int) (mfr : Int → Int) (mfm : Int → Int) (med : Int → Int) (map : Int → Int) (mwh : Int → Int) (s : Int) (p : Int) (w : Int) (h : Int) (hs : inR s) (hp : inR p) (hw : inR w) (hh : inR h) (hpw : ∀ q : Int, inR (mpw q) ∧ inR (mph q)) :
    gC l D cA yX8_size mX8_size (some .int) 0 0 [gr 60, gi s, gi p, gi w, gi h] (moW W H mth mbd mne mnw mmn mbx man mrs mrl mfl mpt mdf mlb mbo mwn mwo mxo myo mor mco mro mpw mph mrk mrb mrf mfr mfm med map mwh) (fun r9 w9 => ∃ (rv : Int) (th : Int) (pw : Int → Int) (ph : Int → Int), r9 = some (gi rv) ∧ w9 = moW W H th mbd mne mnw mmn mbx man mrs mrl mfl mpt mdf mlb mbo mwn mwo mxo myo mor mco mro pw ph mrk mrb mrf mfr mfm med map mwh ∧ (¬ ((0 ≤ s ∧ s ≤ 1) ∧ 0 ≤ p ∧ p ≤ 19) → th = 1 ∧ pw = mpw ∧ ph = mph ∧ rv = 0) ∧ ((0 ≤ s ∧ s ≤ 1) ∧ 0 ≤ p ∧ p ≤ 19 → ¬ (1 ≤ w ∧ 1 ≤ h) → th = 2 ∧ pw = mpw ∧ ph = mph ∧ rv = 0) ∧ ((0 ≤ s ∧ s ≤ 1) ∧ 0 ≤ p ∧ p ≤ 19 → 1 ≤ w ∧ 1 ≤ h → th = 0 ∧ pw = gu mpw (20 * s + p) w ∧ ph = gu mph (20 * s + p) h ∧ rv = gb (mpw (20 - 20 * s + p) = 0 ∨ (mpw (20 - 20 * s + p) = w ∧ mph (20 - 20 * s + p) = h)))) := by
  refine gC_of rfl kX8_size rfl rfl (Nat.le_of_ble_eq_true rfl) (fun X ad hX hE => ?_)
  refine G.go hX 4 (moW W H mth mbd mne mnw mmn mbx man mrs mrl mfl mpt mdf mlb mbo mwn mwo mxo myo mor mco mro mpw mph mrk mrb mrf mfr mfm med map mwh, 4, [(0, gr 60), (1, gi s), (2, gi p), (3, gi w), (4, gi h)], [gi 1, gi 0, gi s, gr 60]) rfl trivial ?_
  refine G.callS (av := [gi s, gi 0, gi 1]) (st := [gr 60]) hX rfl (fun l D cA => c_X8_in l D cA s 0 1 (by first | assumption | exact ⟨by omega, by omega⟩) ⟨by omega, by omega⟩ ⟨by omega, by omega⟩) (by decide +kernel) aX8_in rfl ⟨rfl, rfl⟩ (by decide) (Nat.le_of_ble_eq_true rfl) [] [0, 1, 2, 3, 4, 5, 6, 7, 8, 9, 10, 11, 12, 13, 14, 15, 16, 17, 18, 19, 20, 21] (moW W H mth mbd mne mnw mmn mbx man mrs mrl mfl mpt mdf mlb mbo mwn mwo mxo myo mor mco mro mpw mph mrk mrb mrf mfr mfm med map mwh) rfl rfl rfl (fun r w' hp => ?_)
  obtain ⟨rfl, rfl⟩ := hp
  show G X mX8_size ad 0 0 (moW W H mth mbd mne mnw mmn mbx man mrs mrl mfl mpt mdf mlb mbo mwn mwo mxo myo mor mco mro mpw mph mrk mrb mrf mfr mfm med map mwh, 7, [(0, gr 60), (1, gi s), (2, gi p), (3, gi w), (4, gi h)], [gi (gb (0 ≤ s ∧ s ≤ 1)), gr 60])
  refine g_if_eq hX 20 rfl rfl (gb_r _) (fun b7 => ?_) (fun b7 => ?_)
  ·
    have b7 := gb_0.mp b7
    refine G.go hX 5 (moW W H 1 mbd mne mnw mmn mbx man mrs mrl mfl mpt mdf mlb mbo mwn mwo mxo myo mor mco mro mpw mph mrk mrb mrf mfr mfm med map mwh, 47, [(0, gr 60), (1, gi s), (2, gi p), (3, gi w), (4, gi h)], [gi 1]) rfl trivial ?_
    refine g_if_le hX 52 rfl rfl ⟨by omega, by omega⟩ (fun b47 => ?_) (fun b47 => ?_)
    ·
      exfalso
      omega
    ·
      refine G.go hX 1 (moW W H 1 mbd mne mnw mmn mbx man mrs mrl mfl mpt mdf mlb mbo mwn mwo mxo myo mor mco mro mpw mph mrk mrb mrf mfr mfm med map mwh, 51, [(0, gr 60), (1, gi s), (2, gi p), (3, gi w), (4, gi h)], [gi 0]) rfl trivial ?_
      exact g_iret hX hE rfl ⟨0, 1, mpw, mph, rfl, rfl, fun _ => ⟨rfl, rfl, rfl, rfl⟩, fun h9 => by (exfalso; omega), fun h9 => by (exfalso; omega)⟩
  ·
    have b7 := gb_n0 b7
    refine G.go hX 3 (moW W H mth mbd mne mnw mmn mbx man mrs mrl mfl mpt mdf mlb mbo mwn mwo mxo myo mor mco mro mpw mph mrk mrb mrf mfr mfm med map mwh, 14, [(0, gr 60), (1, gi s), (2, gi p), (3, gi w), (4, gi h)], [gi 19, gi 0, gi p, gr 60]) rfl trivial ?_
    refine G.callS (av := [gi p, gi 0, gi 19]) (st := [gr 60]) hX rfl (fun l D cA => c_X8_in l D cA p 0 19 (by first | assumption | exact ⟨by omega, by omega⟩) ⟨by omega, by omega⟩ ⟨by omega, by omega⟩) (by decide +kernel) aX8_in rfl ⟨rfl, rfl⟩ (by decide) (Nat.le_of_ble_eq_true rfl) [] [0, 1, 2, 3, 4, 5, 6, 7, 8, 9, 10, 11, 12, 13, 14, 15, 16, 17, 18, 19, 20, 21] (moW W H mth mbd mne mnw mmn mbx man mrs mrl mfl mpt mdf mlb mbo mwn mwo mxo myo mor mco mro mpw mph mrk mrb mrf mfr mfm med map mwh) rfl rfl rfl (fun r w' hp => ?_)
    obtain ⟨rfl, rfl⟩ := hp
    show G X mX8_size ad 0 0 (moW W H mth mbd mne mnw mmn mbx man mrs mrl mfl mpt mdf mlb mbo mwn mwo mxo myo mor mco mro mpw mph mrk mrb mrf mfr mfm med map mwh, 17, [(0, gr 60), (1, gi s), (2, gi p), (3, gi w), (4, gi h)], [gi (gb (0 ≤ p ∧ p ≤ 19)), gr 60])
    refine g_if_ne hX 24 rfl rfl (gb_r _) (fun b17 => ?_) (fun b17 => ?_)
    ·
      have b17 := gb_n0 b17
      refine G.go hX 2 (moW W H mth mbd mne mnw mmn mbx man mrs mrl mfl mpt mdf mlb mbo mwn mwo mxo myo mor mco mro mpw mph mrk mrb mrf mfr mfm med map mwh, 26, [(0, gr 60), (1, gi s), (2, gi p), (3, gi w), (4, gi h)], [gi 1, gi w, gr 60]) rfl trivial ?_
      refine g_icmp_lt hX 35 rfl rfl (by first | assumption | exact ⟨by omega, by omega⟩) (by first | assumption | exact ⟨by omega, by omega⟩) (fun b26 => ?_) (fun b26 => ?_)
      ·
        refine G.go hX 5 (moW W H 2 mbd mne mnw mmn mbx man mrs mrl mfl mpt mdf mlb mbo mwn mwo mxo myo mor mco mro mpw mph mrk mrb mrf mfr mfm med map mwh, 47, [(0, gr 60), (1, gi s), (2, gi p), (3, gi w), (4, gi h)], [gi 2]) rfl trivial ?_
        refine g_if_le hX 52 rfl rfl ⟨by omega, by omega⟩ (fun b47 => ?_) (fun b47 => ?_)
        ·
          exfalso
          omega
        ·
          refine G.go hX 1 (moW W H 2 mbd mne mnw mmn mbx man mrs mrl mfl mpt mdf mlb mbo mwn mwo mxo myo mor mco mro mpw mph mrk mrb mrf mfr mfm med map mwh, 51, [(0, gr 60), (1, gi s), (2, gi p), (3, gi w), (4, gi h)], [gi 0]) rfl trivial ?_
          exact g_iret hX hE rfl ⟨0, 2, mpw, mph, rfl, rfl, fun h9 => by (exfalso; omega), fun _ _ => ⟨rfl, rfl, rfl, rfl⟩, fun _ h9 => by (exfalso; omega)⟩
      ·
        refine G.go hX 2 (moW W H mth mbd mne mnw mmn mbx man mrs mrl mfl mpt mdf mlb mbo mwn mwo mxo myo mor mco mro mpw mph mrk mrb mrf mfr mfm med map mwh, 32, [(0, gr 60), (1, gi s), (2, gi p), (3, gi w), (4, gi h)], [gi 1, gi h, gr 60]) rfl trivial ?_
        refine g_icmp_ge hX 39 rfl rfl (by first | assumption | exact ⟨by omega, by omega⟩) (by first | assumption | exact ⟨by omega, by omega⟩) (fun b32 => ?_) (fun b32 => ?_)
        ·
          refine G.go hX 4 (moW W H 0 mbd mne mnw mmn mbx man mrs mrl mfl mpt mdf mlb mbo mwn mwo mxo myo mor mco mro mpw mph mrk mrb mrf mfr mfm med map mwh, 47, [(0, gr 60), (1, gi s), (2, gi p), (3, gi w), (4, gi h)], [gi 0]) rfl trivial ?_
          refine g_if_le hX 52 rfl rfl ⟨by omega, by omega⟩ (fun b47 => ?_) (fun b47 => ?_)
          ·
            refine G.go hX 18 (moW W H 0 mbd mne mnw mmn mbx man mrs mrl mfl mpt mdf mlb mbo mwn mwo mxo myo mor mco mro (gu mpw ((20 * s) + p) w) (gu mph ((20 * s) + p) h) mrk mrb mrf mfr mfm med map mwh, 77, [(0, gr 60), (1, gi s), (2, gi p), (3, gi w), (4, gi h)], []) rfl ?_ ?_
            · refine ⟨?_, ?_, trivial⟩
              · omega
              · omega
            have e1 : gu mpw (20 * s + p) w (20 - 20 * s + p) = mpw (20 - 20 * s + p) := gu_n _ _ (by omega)
            have e2 : gu mph (20 * s + p) h (20 - 20 * s + p) = mph (20 - 20 * s + p) := gu_n _ _ (by omega)
            have hp9 := hpw (20 - 20 * s + p)
            refine G.go hX 12 (moW W H 0 mbd mne mnw mmn mbx man mrs mrl mfl mpt mdf mlb mbo mwn mwo mxo myo mor mco mro (gu mpw ((20 * s) + p) w) (gu mph ((20 * s) + p) h) mrk mrb mrf mfr mfm med map mwh, 95, [(0, gr 60), (1, gi s), (2, gi p), (3, gi w), (4, gi h), (5, gi ((20 - (20 * s)) + p))], [gi ((gu mpw ((20 * s) + p) w) ((20 - (20 * s)) + p))]) rfl ?_ ?_
            · refine ⟨?_, trivial⟩
              · omega
            refine g_if_eq hX 121 rfl rfl (by rw [e1]; exact hp9.1) (fun b95 => ?_) (fun b95 => ?_)
            ·
              refine G.go hX 2 (moW W H 0 mbd mne mnw mmn mbx man mrs mrl mfl mpt mdf mlb mbo mwn mwo mxo myo mor mco mro (gu mpw ((20 * s) + p) w) (gu mph ((20 * s) + p) h) mrk mrb mrf mfr mfm med map mwh, 126, [(0, gr 60), (1, gi s), (2, gi p), (3, gi w), (4, gi h), (5, gi ((20 - (20 * s)) + p))], [gi 1]) rfl trivial ?_
              exact g_iret hX hE rfl ⟨1, 0, _, _, rfl, rfl, fun h9 => by (exfalso; omega), fun _ h9 => by (exfalso; omega), fun _ _ => ⟨rfl, rfl, rfl, by first | (rw [gb_t (by omega)]) | (rw [gb_f (by omega)])⟩⟩
            ·
              refine G.go hX 5 (moW W H 0 mbd mne mnw mmn mbx man mrs mrl mfl mpt mdf mlb mbo mwn mwo mxo myo mor mco mro (gu mpw ((20 * s) + p) w) (gu mph ((20 * s) + p) h) mrk mrb mrf mfr mfm med map mwh, 106, [(0, gr 60), (1, gi s), (2, gi p), (3, gi w), (4, gi h), (5, gi ((20 - (20 * s)) + p))], [gi w, gi ((gu mpw ((20 * s) + p) w) ((20 - (20 * s)) + p))]) rfl ?_ ?_
              · refine ⟨?_, trivial⟩
                · omega
              refine g_icmp_ne hX 125 rfl rfl (by first | (rw [e1]; exact hp9.1) | assumption) (by first | (rw [e1]; exact hp9.1) | assumption) (fun b106 => ?_) (fun b106 => ?_)
              ·
                refine G.go hX 1 (moW W H 0 mbd mne mnw mmn mbx man mrs mrl mfl mpt mdf mlb mbo mwn mwo mxo myo mor mco mro (gu mpw ((20 * s) + p) w) (gu mph ((20 * s) + p) h) mrk mrb mrf mfr mfm med map mwh, 126, [(0, gr 60), (1, gi s), (2, gi p), (3, gi w), (4, gi h), (5, gi ((20 - (20 * s)) + p))], [gi 0]) rfl trivial ?_
                exact g_iret hX hE rfl ⟨0, 0, _, _, rfl, rfl, fun h9 => by (exfalso; omega), fun _ h9 => by (exfalso; omega), fun _ _ => ⟨rfl, rfl, rfl, by first | (rw [gb_t (by omega)]) | (rw [gb_f (by omega)])⟩⟩
              ·
                refine G.go hX 5 (moW W H 0 mbd mne mnw mmn mbx man mrs mrl mfl mpt mdf mlb mbo mwn mwo mxo myo mor mco mro (gu mpw ((20 * s) + p) w) (gu mph ((20 * s) + p) h) mrk mrb mrf mfr mfm med map mwh, 118, [(0, gr 60), (1, gi s), (2, gi p), (3, gi w), (4, gi h), (5, gi ((20 - (20 * s)) + p))], [gi h, gi ((gu mph ((20 * s) + p) h) ((20 - (20 * s)) + p))]) rfl ?_ ?_
                · refine ⟨?_, trivial⟩
                  · omega
                refine g_icmp_ne hX 125 rfl rfl (by first | (rw [e2]; exact hp9.2) | assumption) (by first | (rw [e2]; exact hp9.2) | assumption) (fun b118 => ?_) (fun b118 => ?_)
                ·
                  refine G.go hX 1 (moW W H 0 mbd mne mnw mmn mbx man mrs mrl mfl mpt mdf mlb mbo mwn mwo mxo myo mor mco mro (gu mpw ((20 * s) + p) w) (gu mph ((20 * s) + p) h) mrk mrb mrf mfr mfm med map mwh, 126, [(0, gr 60), (1, gi s), (2, gi p), (3, gi w), (4, gi h), (5, gi ((20 - (20 * s)) + p))], [gi 0]) rfl trivial ?_
                  exact g_iret hX hE rfl ⟨0, 0, _, _, rfl, rfl, fun h9 => by (exfalso; omega), fun _ h9 => by (exfalso; omega), fun _ _ => ⟨rfl, rfl, rfl, by first | (rw [gb_t (by omega)]) | (rw [gb_f (by omega)])⟩⟩
                ·
                  refine G.go hX 2 (moW W H 0 mbd mne mnw mmn mbx man mrs mrl mfl mpt mdf mlb mbo mwn mwo mxo myo mor mco mro (gu mpw ((20 * s) + p) w) (gu mph ((20 * s) + p) h) mrk mrb mrf mfr mfm med map mwh, 126, [(0, gr 60), (1, gi s), (2, gi p), (3, gi w), (4, gi h), (5, gi ((20 - (20 * s)) + p))], [gi 1]) rfl trivial ?_
                  exact g_iret hX hE rfl ⟨1, 0, _, _, rfl, rfl, fun h9 => by (exfalso; omega), fun _ h9 => by (exfalso; omega), fun _ _ => ⟨rfl, rfl, rfl, by first | (rw [gb_t (by omega)]) | (rw [gb_f (by omega)])⟩⟩
          ·
            exfalso
            omega
        ·
          refine G.go hX 5 (moW W H 2 mbd mne mnw mmn mbx man mrs mrl mfl mpt mdf mlb mbo mwn mwo mxo myo mor mco mro mpw mph mrk mrb mrf mfr mfm med map mwh, 47, [(0, gr 60), (1, gi s), (2, gi p), (3, gi w), (4, gi h)], [gi 2]) rfl trivial ?_
          refine g_if_le hX 52 rfl rfl ⟨by omega, by omega⟩ (fun b47 => ?_) (fun b47 => ?_)
          ·
            exfalso
            omega
          ·
            refine G.go hX 1 (moW W H 2 mbd mne mnw mmn mbx man mrs mrl mfl mpt mdf mlb mbo mwn mwo mxo myo mor mco mro mpw mph mrk mrb mrf mfr mfm med map mwh, 51, [(0, gr 60), (1, gi s), (2, gi p), (3, gi w), (4, gi h)], [gi 0]) rfl trivial ?_
            exact g_iret hX hE rfl ⟨0, 2, mpw, mph, rfl, rfl, fun h9 => by (exfalso; omega), fun _ _ => ⟨rfl, rfl, rfl, rfl⟩, fun _ h9 => by (exfalso; omega)⟩
    ·
      have b17 := gb_nn b17
      refine G.go hX 5 (moW W H 1 mbd mne mnw mmn mbx man mrs mrl mfl mpt mdf mlb mbo mwn mwo mxo myo mor mco mro mpw mph mrk mrb mrf mfr mfm med map mwh, 47, [(0, gr 60), (1, gi s), (2, gi p), (3, gi w), (4, gi h)], [gi 1]) rfl trivial ?_
      refine g_if_le hX 52 rfl rfl ⟨by omega, by omega⟩ (fun b47 => ?_) (fun b47 => ?_)
      ·
        exfalso
        omega
      ·
        refine G.go hX 1 (moW W H 1 mbd mne mnw mmn mbx man mrs mrl mfl mpt mdf mlb mbo mwn mwo mxo myo mor mco mro mpw mph mrk mrb mrf mfr mfm med map mwh, 51, [(0, gr 60), (1, gi s), (2, gi p), (3, gi w), (4, gi h)], [gi 0]) rfl trivial ?_
        exact g_iret hX hE rfl ⟨0, 1, mpw, mph, rfl, rfl, fun _ => ⟨rfl, rfl, rfl, rfl⟩, fun h9 => by (exfalso; omega), fun h9 => by (exfalso; omega)⟩
set_option maxHeartbeats 4000000 in
set_option maxRecDepth 100000 in
theorem c_X8_rule (l : Launch) (D : va_G) (cA : Nat → ClassId) (W : Nat) (H : Nat) (mth : Int) (mbd : Int) (mne : Int) (mnw : Int) (mmn : Int) (mbx : Int) (man : Int) (mrs : Int) (mrl : Int) (mfl : Int) (mpt : Int → Int) (mdf : Int → Int) (mlb : Int → Int) (mbo : Int → Int) (mwn : Int → Int) (mwo : Int → Int) (mxo : Int → Int) (myo : Int → Int) (mor : Int → Int) (mco : Int → Int) (mro : Int → Int) (mpw : Int → Int) (mph : Int → Int) (mrk : Int → Int) (mrb : Int → Int) (mrf : Int → Int) (mfr : Int → Int) (mfm : Int → Int) (med : Int → Int) (map : Int → Int) (mwh : Int → Int) (k : Int) (a : Int) (f : Int) (hk : inR k) (ha : inR a) (hf : f = 0 ∨ f = 1) (hrl : 0 ≤ mrl ∧ mrl ≤ 12) :
    gC l D cA yX8_rule mX8_rule (some .int) 0 0 [gr 60, gi k, gi a, gi f] (moW W H mth mbd mne mnw mmn mbx man mrs mrl mfl mpt mdf mlb mbo mwn mwo mxo myo mor mco mro mpw mph mrk mrb mrf mfr mfm med map mwh) (fun r9 w9 => ∃ (rv : Int) (th : Int) (rl : Int) (rk : Int → Int) (rb : Int → Int) (rf : Int → Int), r9 = some (gi rv) ∧ w9 = moW W H th mbd mne mnw mmn mbx man mrs rl mfl mpt mdf mlb mbo mwn mwo mxo myo mor mco mro mpw mph rk rb rf mfr mfm med map mwh ∧ (¬ ((0 ≤ k ∧ k ≤ 5) ∧ 0 ≤ a) → th = 1 ∧ rv = 0 ∧ rl = mrl ∧ rk = mrk ∧ rb = mrb ∧ rf = mrf) ∧ ((0 ≤ k ∧ k ≤ 5) ∧ 0 ≤ a → mrl = 12 → th = 2 ∧ rv = 0 ∧ rl = mrl ∧ rk = mrk ∧ rb = mrb ∧ rf = mrf) ∧ ((0 ≤ k ∧ k ≤ 5) ∧ 0 ≤ a → mrl < 12 → th = 0 ∧ rv = mrl ∧ rl = mrl + 1 ∧ rk = gu mrk mrl k ∧ rb = gu mrb mrl a ∧ rf = gu mrf mrl f)) := by
  refine gC_of rfl kX8_rule rfl rfl (Nat.le_of_ble_eq_true rfl) (fun X ad hX hE => ?_)
  refine G.go hX 4 (moW W H mth mbd mne mnw mmn mbx man mrs mrl mfl mpt mdf mlb mbo mwn mwo mxo myo mor mco mro mpw mph mrk mrb mrf mfr mfm med map mwh, 4, [(0, gr 60), (1, gi k), (2, gi a), (3, gi f)], [gi 5, gi 0, gi k, gr 60]) rfl trivial ?_
  refine G.callS (av := [gi k, gi 0, gi 5]) (st := [gr 60]) hX rfl (fun l D cA => c_X8_in l D cA k 0 5 (by first | assumption | exact ⟨by omega, by omega⟩) ⟨by omega, by omega⟩ ⟨by omega, by omega⟩) (by decide +kernel) aX8_in rfl ⟨rfl, rfl⟩ (by decide) (Nat.le_of_ble_eq_true rfl) [] [0, 1, 2, 3, 4, 5, 6, 7, 8, 9, 10, 11, 12, 13, 14, 15, 16, 17, 18, 19, 20, 21] (moW W H mth mbd mne mnw mmn mbx man mrs mrl mfl mpt mdf mlb mbo mwn mwo mxo myo mor mco mro mpw mph mrk mrb mrf mfr mfm med map mwh) rfl rfl rfl (fun r w' hp => ?_)
  obtain ⟨rfl, rfl⟩ := hp
  show G X mX8_rule ad 0 0 (moW W H mth mbd mne mnw mmn mbx man mrs mrl mfl mpt mdf mlb mbo mwn mwo mxo myo mor mco mro mpw mph mrk mrb mrf mfr mfm med map mwh, 7, [(0, gr 60), (1, gi k), (2, gi a), (3, gi f)], [gi (gb (0 ≤ k ∧ k ≤ 5)), gr 60])
  refine g_if_eq hX 14 rfl rfl (gb_r _) (fun b7 => ?_) (fun b7 => ?_)
  ·
    have b7 := gb_0.mp b7
    refine G.go hX 5 (moW W H 1 mbd mne mnw mmn mbx man mrs mrl mfl mpt mdf mlb mbo mwn mwo mxo myo mor mco mro mpw mph mrk mrb mrf mfr mfm med map mwh, 39, [(0, gr 60), (1, gi k), (2, gi a), (3, gi f)], [gi 1]) rfl trivial ?_
    refine g_if_le hX 44 rfl rfl ⟨by omega, by omega⟩ (fun b39 => ?_) (fun b39 => ?_)
    ·
      exfalso
      omega
    ·
      refine G.go hX 1 (moW W H 1 mbd mne mnw mmn mbx man mrs mrl mfl mpt mdf mlb mbo mwn mwo mxo myo mor mco mro mpw mph mrk mrb mrf mfr mfm med map mwh, 43, [(0, gr 60), (1, gi k), (2, gi a), (3, gi f)], [gi 0]) rfl trivial ?_
      exact g_iret hX hE rfl ⟨0, 1, mrl, mrk, mrb, mrf, rfl, rfl, fun _ => ⟨rfl, rfl, rfl, rfl, rfl, rfl⟩, fun h9 => by (exfalso; omega), fun h9 => by (exfalso; omega)⟩
  ·
    have b7 := gb_n0 b7
    refine G.go hX 1 (moW W H mth mbd mne mnw mmn mbx man mrs mrl mfl mpt mdf mlb mbo mwn mwo mxo myo mor mco mro mpw mph mrk mrb mrf mfr mfm med map mwh, 11, [(0, gr 60), (1, gi k), (2, gi a), (3, gi f)], [gi a, gr 60]) rfl trivial ?_
    refine g_if_ge hX 18 rfl rfl ha (fun b11 => ?_) (fun b11 => ?_)
    ·
      refine G.go hX 3 (moW W H mth mbd mne mnw mmn mbx man mrs mrl mfl mpt mdf mlb mbo mwn mwo mxo myo mor mco mro mpw mph mrk mrb mrf mfr mfm med map mwh, 24, [(0, gr 60), (1, gi k), (2, gi a), (3, gi f)], [gi 12, gi mrl, gr 60]) rfl trivial ?_
      refine g_icmp_ne hX 31 rfl rfl ⟨by omega, by omega⟩ ⟨by omega, by omega⟩ (fun b24 => ?_) (fun b24 => ?_)
      ·
        refine G.go hX 4 (moW W H 0 mbd mne mnw mmn mbx man mrs mrl mfl mpt mdf mlb mbo mwn mwo mxo myo mor mco mro mpw mph mrk mrb mrf mfr mfm med map mwh, 39, [(0, gr 60), (1, gi k), (2, gi a), (3, gi f)], [gi 0]) rfl trivial ?_
        refine g_if_le hX 44 rfl rfl ⟨by omega, by omega⟩ (fun b39 => ?_) (fun b39 => ?_)
        ·
          refine G.go hX 28 (moW W H 0 mbd mne mnw mmn mbx man mrs (mrl + 1) mfl mpt mdf mlb mbo mwn mwo mxo myo mor mco mro mpw mph (gu mrk mrl k) (gu mrb mrl a) (gu mrf mrl f) mfr mfm med map mwh, 90, [(0, gr 60), (1, gi k), (2, gi a), (3, gi f)], [gi ((mrl + 1) - 1)]) rfl ?_ ?_
          · refine ⟨?_, ?_, ?_, trivial⟩
            · omega
            · omega
            · omega
          exact g_iret hX hE rfl ⟨mrl, 0, mrl + 1, _, _, _, congrArg (fun z => some (gi z)) (by omega), rfl, fun h9 => by (exfalso; omega), fun _ h9 => by (exfalso; omega), fun _ _ => ⟨rfl, rfl, rfl, rfl, rfl, rfl⟩⟩
        ·
          exfalso
          omega
      ·
        refine G.go hX 5 (moW W H 2 mbd mne mnw mmn mbx man mrs mrl mfl mpt mdf mlb mbo mwn mwo mxo myo mor mco mro mpw mph mrk mrb mrf mfr mfm med map mwh, 39, [(0, gr 60), (1, gi k), (2, gi a), (3, gi f)], [gi 2]) rfl trivial ?_
        refine g_if_le hX 44 rfl rfl ⟨by omega, by omega⟩ (fun b39 => ?_) (fun b39 => ?_)
        ·
          exfalso
          omega
        ·
          refine G.go hX 1 (moW W H 2 mbd mne mnw mmn mbx man mrs mrl mfl mpt mdf mlb mbo mwn mwo mxo myo mor mco mro mpw mph mrk mrb mrf mfr mfm med map mwh, 43, [(0, gr 60), (1, gi k), (2, gi a), (3, gi f)], [gi 0]) rfl trivial ?_
          exact g_iret hX hE rfl ⟨0, 2, mrl, mrk, mrb, mrf, rfl, rfl, fun h9 => by (exfalso; omega), fun _ _ => ⟨rfl, rfl, rfl, rfl, rfl, rfl⟩, fun _ h9 => by (exfalso; omega)⟩
    ·
      refine G.go hX 5 (moW W H 1 mbd mne mnw mmn mbx man mrs mrl mfl mpt mdf mlb mbo mwn mwo mxo myo mor mco mro mpw mph mrk mrb mrf mfr mfm med map mwh, 39, [(0, gr 60), (1, gi k), (2, gi a), (3, gi f)], [gi 1]) rfl trivial ?_
      refine g_if_le hX 44 rfl rfl ⟨by omega, by omega⟩ (fun b39 => ?_) (fun b39 => ?_)
      ·
        exfalso
        omega
      ·
        refine G.go hX 1 (moW W H 1 mbd mne mnw mmn mbx man mrs mrl mfl mpt mdf mlb mbo mwn mwo mxo myo mor mco mro mpw mph mrk mrb mrf mfr mfm med map mwh, 43, [(0, gr 60), (1, gi k), (2, gi a), (3, gi f)], [gi 0]) rfl trivial ?_
        exact g_iret hX hE rfl ⟨0, 1, mrl, mrk, mrb, mrf, rfl, rfl, fun _ => ⟨rfl, rfl, rfl, rfl, rfl, rfl⟩, fun h9 => by (exfalso; omega), fun h9 => by (exfalso; omega)⟩
set_option maxHeartbeats 4000000 in
set_option maxRecDepth 100000 in
theorem c_X8_approved (l : Launch) (D : va_G) (cA : Nat → ClassId) (W : Nat) (H : Nat) (mth : Int) (mbd : Int) (mne : Int) (mnw : Int) (mmn : Int) (mbx : Int) (man : Int) (mrs : Int) (mrl : Int) (mfl : Int) (mpt : Int → Int) (mdf : Int → Int) (mlb : Int → Int) (mbo : Int → Int) (mwn : Int → Int) (mwo : Int → Int) (mxo : Int → Int) (myo : Int → Int) (mor : Int → Int) (mco : Int → Int) (mro : Int → Int) (mpw : Int → Int) (mph : Int → Int) (mrk : Int → Int) (mrb : Int → Int) (mrf : Int → Int) (mfr : Int → Int) (mfm : Int → Int) (med : Int → Int) (map : Int → Int) (mwh : Int → Int) (p : Int) (hp : inR p) (hap : ∀ q : Int, inR (map q)) :
    gC l D cA yX8_approved mX8_approved (some .boolean) 0 0 [gr 60, gi p] (moW W H mth mbd mne mnw mmn mbx man mrs mrl mfl mpt mdf mlb mbo mwn mwo mxo myo mor mco mro mpw mph mrk mrb mrf mfr mfm med map mwh) (fun r9 w9 => ∃ (rv : Int) (th : Int), r9 = some (gi rv) ∧ w9 = moW W H th mbd mne mnw mmn mbx man mrs mrl mfl mpt mdf mlb mbo mwn mwo mxo myo mor mco mro mpw mph mrk mrb mrf mfr mfm med map mwh ∧ (¬ (0 ≤ p ∧ p ≤ 19) → th = 1 ∧ rv = 0) ∧ ((0 ≤ p ∧ p ≤ 19) → th = 0 ∧ rv = gb (2 ≤ map p))) := by
  refine gC_of rfl kX8_approved rfl rfl (Nat.le_of_ble_eq_true rfl) (fun X ad hX hE => ?_)
  refine G.go hX 4 (moW W H mth mbd mne mnw mmn mbx man mrs mrl mfl mpt mdf mlb mbo mwn mwo mxo myo mor mco mro mpw mph mrk mrb mrf mfr mfm med map mwh, 5, [(0, gr 60), (1, gi p)], [gi 19, gi 0, gi p, gr 60]) rfl trivial ?_
  refine G.callS (av := [gi p, gi 0, gi 19]) (st := [gr 60]) hX rfl (fun l D cA => c_X8_in l D cA p 0 19 (by first | assumption | exact ⟨by omega, by omega⟩) ⟨by omega, by omega⟩ ⟨by omega, by omega⟩) (by decide +kernel) aX8_in rfl ⟨rfl, rfl⟩ (by decide) (Nat.le_of_ble_eq_true rfl) [] [0, 1, 2, 3, 4, 5, 6, 7, 8, 9, 10, 11, 12, 13, 14, 15, 16, 17, 18, 19, 20, 21] (moW W H mth mbd mne mnw mmn mbx man mrs mrl mfl mpt mdf mlb mbo mwn mwo mxo myo mor mco mro mpw mph mrk mrb mrf mfr mfm med map mwh) rfl rfl rfl (fun r w' hp => ?_)
  obtain ⟨rfl, rfl⟩ := hp
  show G X mX8_approved ad 0 0 (moW W H mth mbd mne mnw mmn mbx man mrs mrl mfl mpt mdf mlb mbo mwn mwo mxo myo mor mco mro mpw mph mrk mrb mrf mfr mfm med map mwh, 8, [(0, gr 60), (1, gi p)], [gi (gb (0 ≤ p ∧ p ≤ 19)), gr 60])
  refine g_if_eq hX 15 rfl rfl (gb_r _) (fun b8 => ?_) (fun b8 => ?_)
  ·
    have b8 := gb_0.mp b8
    refine G.go hX 4 (moW W H 1 mbd mne mnw mmn mbx man mrs mrl mfl mpt mdf mlb mbo mwn mwo mxo myo mor mco mro mpw mph mrk mrb mrf mfr mfm med map mwh, 23, [(0, gr 60), (1, gi p)], [gi 1]) rfl trivial ?_
    refine g_if_ne hX 40 rfl rfl ⟨by omega, by omega⟩ (fun b23 => ?_) (fun b23 => ?_)
    ·
      refine G.go hX 1 (moW W H 1 mbd mne mnw mmn mbx man mrs mrl mfl mpt mdf mlb mbo mwn mwo mxo myo mor mco mro mpw mph mrk mrb mrf mfr mfm med map mwh, 41, [(0, gr 60), (1, gi p)], [gi 0]) rfl trivial ?_
      exact g_zret hX hE rfl (Or.inl rfl) ⟨0, 1, rfl, rfl, fun _ => ⟨rfl, rfl⟩, fun h9 => by (exfalso; omega)⟩
    ·
      exfalso
      omega
  ·
    have b8 := gb_n0 b8
    refine G.go hX 5 (moW W H 0 mbd mne mnw mmn mbx man mrs mrl mfl mpt mdf mlb mbo mwn mwo mxo myo mor mco mro mpw mph mrk mrb mrf mfr mfm med map mwh, 23, [(0, gr 60), (1, gi p)], [gi 0]) rfl trivial ?_
    refine g_if_ne hX 40 rfl rfl ⟨by omega, by omega⟩ (fun b23 => ?_) (fun b23 => ?_)
    ·
      exfalso
      omega
    ·
      refine G.go hX 5 (moW W H 0 mbd mne mnw mmn mbx man mrs mrl mfl mpt mdf mlb mbo mwn mwo mxo myo mor mco mro mpw mph mrk mrb mrf mfr mfm med map mwh, 33, [(0, gr 60), (1, gi p)], [gi 1, gi (map p)]) rfl ?_ ?_
      · refine ⟨?_, trivial⟩
        · omega
      refine g_icmp_le hX 40 rfl rfl (by first | exact hap _ | exact ⟨by omega, by omega⟩) (by first | exact hap _ | exact ⟨by omega, by omega⟩) (fun b33 => ?_) (fun b33 => ?_)
      ·
        refine G.go hX 1 (moW W H 0 mbd mne mnw mmn mbx man mrs mrl mfl mpt mdf mlb mbo mwn mwo mxo myo mor mco mro mpw mph mrk mrb mrf mfr mfm med map mwh, 41, [(0, gr 60), (1, gi p)], [gi 0]) rfl trivial ?_
        exact g_zret hX hE rfl (Or.inl rfl) ⟨0, 0, rfl, rfl, fun h9 => by (exfalso; omega), fun _ => ⟨rfl, by first | (rw [gb_t (by omega)]) | (rw [gb_f (by omega)])⟩⟩
      ·
        refine G.go hX 2 (moW W H 0 mbd mne mnw mmn mbx man mrs mrl mfl mpt mdf mlb mbo mwn mwo mxo myo mor mco mro mpw mph mrk mrb mrf mfr mfm med map mwh, 41, [(0, gr 60), (1, gi p)], [gi 1]) rfl trivial ?_
        exact g_zret hX hE rfl (Or.inr rfl) ⟨1, 0, rfl, rfl, fun h9 => by (exfalso; omega), fun _ => ⟨rfl, by first | (rw [gb_t (by omega)]) | (rw [gb_f (by omega)])⟩⟩
set_option maxHeartbeats 4000000 in
set_option maxRecDepth 100000 in
theorem c_X8_at (l : Launch) (D : va_G) (cA : Nat → ClassId) (W : Nat) (H : Nat) (mth : Int) (mbd : Int) (mne : Int) (mnw : Int) (mmn : Int) (mbx : Int) (man : Int) (mrs : Int) (mrl : Int) (mfl : Int) (mpt : Int → Int) (mdf : Int → Int) (mlb : Int → Int) (mbo : Int → Int) (mwn : Int → Int) (mwo : Int → Int) (mxo : Int → Int) (myo : Int → Int) (mor : Int → Int) (mco : Int → Int) (mro : Int → Int) (mpw : Int → Int) (mph : Int → Int) (mrk : Int → Int) (mrb : Int → Int) (mrf : Int → Int) (mfr : Int → Int) (mfm : Int → Int) (med : Int → Int) (map : Int → Int) (mwh : Int → Int) (s : Int) (k : Int) (hk : 0 ≤ 40 * s + k ∧ 40 * s + k < 80) :
    gC l D cA yX8_at mX8_at (some .int) 0 0 [gr 60, gi s, gi k] (moW W H mth mbd mne mnw mmn mbx man mrs mrl mfl mpt mdf mlb mbo mwn mwo mxo myo mor mco mro mpw mph mrk mrb mrf mfr mfm med map mwh) (fun r9 w9 => r9 = some (gi (mor (40 * s + k))) ∧ w9 = moW W H mth mbd mne mnw mmn mbx man mrs mrl mfl mpt mdf mlb mbo mwn mwo mxo myo mor mco mro mpw mph mrk mrb mrf mfr mfm med map mwh) := by
  refine gC_of rfl kX8_at rfl rfl (Nat.le_of_ble_eq_true rfl) (fun X ad hX hE => ?_)
  refine G.go hX 8 (moW W H mth mbd mne mnw mmn mbx man mrs mrl mfl mpt mdf mlb mbo mwn mwo mxo myo mor mco mro mpw mph mrk mrb mrf mfr mfm med map mwh, 11, [(0, gr 60), (1, gi s), (2, gi k)], [gi (mor ((40 * s) + k))]) rfl ?_ ?_
  · refine ⟨?_, trivial⟩
    · omega
  exact g_iret hX hE rfl ⟨(congrArg (fun z => some (gi z)) (by first | rfl | (omega))), rfl⟩
set_option maxHeartbeats 4000000 in
set_option maxRecDepth 100000 in
theorem c_X8_addRow (l : Launch) (D : va_G) (cA : Nat → ClassId) (W : Nat) (H : Nat) (mth : Int) (mbd : Int) (mne : Int) (mnw : Int) (mmn : Int) (mbx : Int) (man : Int) (mrs : Int) (mrl : Int) (mfl : Int) (mpt : Int → Int) (mdf : Int → Int) (mlb : Int → Int) (mbo : Int → Int) (mwn : Int → Int) (mwo : Int → Int) (mxo : Int → Int) (myo : Int → Int) (mor : Int → Int) (mco : Int → Int) (mro : Int → Int) (mpw : Int → Int) (mph : Int → Int) (mrk : Int → Int) (mrb : Int → Int) (mrf : Int → Int) (mfr : Int → Int) (mfm : Int → Int) (med : Int → Int) (map : Int → Int) (mwh : Int → Int) (k : Int) (w : Int) (p : Int) (q : Int) (hr : 0 ≤ mrs ∧ mrs < 80) :
    gC l D cA yX8_addRow mX8_addRow none 0 0 [gr 60, gi k, gi w, gi p, gi q] (moW W H mth mbd mne mnw mmn mbx man mrs mrl mfl mpt mdf mlb mbo mwn mwo mxo myo mor mco mro mpw mph mrk mrb mrf mfr mfm med map mwh) (fun r9 w9 => r9 = none ∧ w9 = moW W H mth mbd mne mnw mmn mbx man (mrs + 1) mrl mfl mpt mdf mlb mbo mwn mwo mxo myo mor mco (wap mro mrs k w p q) mpw mph mrk mrb mrf mfr mfm med map mwh) := by
  refine gC_of rfl kX8_addRow rfl rfl (Nat.le_of_ble_eq_true rfl) (fun X ad hX hE => ?_)
  refine G.go hX 44 (moW W H mth mbd mne mnw mmn mbx man (mrs + 1) mrl mfl mpt mdf mlb mbo mwn mwo mxo myo mor mco (gu (gu (gu (gu mro (4 * mrs) k) ((4 * mrs) + 1) w) ((4 * mrs) + 2) p) ((4 * mrs) + 3) q) mpw mph mrk mrb mrf mfr mfm med map mwh, 65, [(0, gr 60), (1, gi k), (2, gi w), (3, gi p), (4, gi q)], []) rfl ?_ ?_
  · refine ⟨?_, ?_, ?_, ?_, trivial⟩
    · omega
    · omega
    · omega
    · omega
  exact g_vret hX hE rfl ⟨rfl, (by first | rfl | (unfold wap; simp only [Int.mul_comm 4 mrs, Int.add_zero]))⟩
set_option maxHeartbeats 4000000 in
set_option maxRecDepth 100000 in
theorem c_X8_isBefore (l : Launch) (D : va_G) (cA : Nat → ClassId) (W : Nat) (H : Nat) (mth : Int) (mbd : Int) (mne : Int) (mnw : Int) (mmn : Int) (mbx : Int) (man : Int) (mrs : Int) (mrl : Int) (mfl : Int) (mpt : Int → Int) (mdf : Int → Int) (mlb : Int → Int) (mbo : Int → Int) (mwn : Int → Int) (mwo : Int → Int) (mxo : Int → Int) (myo : Int → Int) (mor : Int → Int) (mco : Int → Int) (mro : Int → Int) (mpw : Int → Int) (mph : Int → Int) (mrk : Int → Int) (mrb : Int → Int) (mrf : Int → Int) (mfr : Int → Int) (mfm : Int → Int) (med : Int → Int) (map : Int → Int) (mwh : Int → Int) (p : Int) (q : Int) (hp : 0 ≤ p ∧ p < 80) (hq : 0 ≤ q ∧ q < 80) (hxy : ∀ q : Int, inR (mxo q) ∧ inR (myo q)) :
    gC l D cA yX8_isBefore mX8_isBefore (some .boolean) 0 0 [gr 60, gi p, gi q] (moW W H mth mbd mne mnw mmn mbx man mrs mrl mfl mpt mdf mlb mbo mwn mwo mxo myo mor mco mro mpw mph mrk mrb mrf mfr mfm med map mwh) (fun r9 w9 => r9 = some (gi (gb (wbf mxo myo p q))) ∧ w9 = moW W H mth mbd mne mnw mmn mbx man mrs mrl mfl mpt mdf mlb mbo mwn mwo mxo myo mor mco mro mpw mph mrk mrb mrf mfr mfm med map mwh) := by
  refine gC_of rfl kX8_isBefore rfl rfl (Nat.le_of_ble_eq_true rfl) (fun X ad hX hE => ?_)
  refine G.go hX 8 (moW W H mth mbd mne mnw mmn mbx man mrs mrl mfl mpt mdf mlb mbo mwn mwo mxo myo mor mco mro mpw mph mrk mrb mrf mfr mfm med map mwh, 12, [(0, gr 60), (1, gi p), (2, gi q)], [gi (myo q), gi (myo p)]) rfl ?_ ?_
  · refine ⟨?_, ?_, trivial⟩
    · omega
    · omega
  refine g_icmp_eq hX 36 rfl rfl (by first | exact (hxy _).1 | exact (hxy _).2 | exact ⟨by omega, by omega⟩) (by first | exact (hxy _).1 | exact (hxy _).2 | exact ⟨by omega, by omega⟩) (fun b12 => ?_) (fun b12 => ?_)
  ·
    refine G.go hX 8 (moW W H mth mbd mne mnw mmn mbx man mrs mrl mfl mpt mdf mlb mbo mwn mwo mxo myo mor mco mro mpw mph mrk mrb mrf mfr mfm med map mwh, 48, [(0, gr 60), (1, gi p), (2, gi q)], [gi (mxo q), gi (mxo p)]) rfl ?_ ?_
    · refine ⟨?_, ?_, trivial⟩
      · omega
      · omega
    refine g_icmp_eq hX 74 rfl rfl (by first | exact (hxy _).1 | exact (hxy _).2 | exact ⟨by omega, by omega⟩) (by first | exact (hxy _).1 | exact (hxy _).2 | exact ⟨by omega, by omega⟩) (fun b48 => ?_) (fun b48 => ?_)
    ·
      refine G.go hX 2 (moW W H mth mbd mne mnw mmn mbx man mrs mrl mfl mpt mdf mlb mbo mwn mwo mxo myo mor mco mro mpw mph mrk mrb mrf mfr mfm med map mwh, 76, [(0, gr 60), (1, gi p), (2, gi q)], [gi q, gi p]) rfl trivial ?_
      refine g_icmp_ge hX 83 rfl rfl (by first | exact (hxy _).1 | exact (hxy _).2 | exact ⟨by omega, by omega⟩) (by first | exact (hxy _).1 | exact (hxy _).2 | exact ⟨by omega, by omega⟩) (fun b76 => ?_) (fun b76 => ?_)
      ·
        refine G.go hX 1 (moW W H mth mbd mne mnw mmn mbx man mrs mrl mfl mpt mdf mlb mbo mwn mwo mxo myo mor mco mro mpw mph mrk mrb mrf mfr mfm med map mwh, 84, [(0, gr 60), (1, gi p), (2, gi q)], [gi 0]) rfl trivial ?_
        exact g_zret hX hE rfl (Or.inl rfl) ⟨(congrArg (fun z => some (gi z)) (gb_f (by unfold wbf; omega)).symm), rfl⟩
      ·
        refine G.go hX 2 (moW W H mth mbd mne mnw mmn mbx man mrs mrl mfl mpt mdf mlb mbo mwn mwo mxo myo mor mco mro mpw mph mrk mrb mrf mfr mfm med map mwh, 84, [(0, gr 60), (1, gi p), (2, gi q)], [gi 1]) rfl trivial ?_
        exact g_zret hX hE rfl (Or.inr rfl) ⟨(congrArg (fun z => some (gi z)) (gb_t (by unfold wbf; omega)).symm), rfl⟩
    ·
      refine G.go hX 8 (moW W H mth mbd mne mnw mmn mbx man mrs mrl mfl mpt mdf mlb mbo mwn mwo mxo myo mor mco mro mpw mph mrk mrb mrf mfr mfm med map mwh, 63, [(0, gr 60), (1, gi p), (2, gi q)], [gi (mxo q), gi (mxo p)]) rfl ?_ ?_
      · refine ⟨?_, ?_, trivial⟩
        · omega
        · omega
      refine g_icmp_ge hX 70 rfl rfl (by first | exact (hxy _).1 | exact (hxy _).2 | exact ⟨by omega, by omega⟩) (by first | exact (hxy _).1 | exact (hxy _).2 | exact ⟨by omega, by omega⟩) (fun b63 => ?_) (fun b63 => ?_)
      ·
        refine G.go hX 2 (moW W H mth mbd mne mnw mmn mbx man mrs mrl mfl mpt mdf mlb mbo mwn mwo mxo myo mor mco mro mpw mph mrk mrb mrf mfr mfm med map mwh, 84, [(0, gr 60), (1, gi p), (2, gi q)], [gi 0]) rfl trivial ?_
        exact g_zret hX hE rfl (Or.inl rfl) ⟨(congrArg (fun z => some (gi z)) (gb_f (by unfold wbf; omega)).symm), rfl⟩
      ·
        refine G.go hX 2 (moW W H mth mbd mne mnw mmn mbx man mrs mrl mfl mpt mdf mlb mbo mwn mwo mxo myo mor mco mro mpw mph mrk mrb mrf mfr mfm med map mwh, 84, [(0, gr 60), (1, gi p), (2, gi q)], [gi 1]) rfl trivial ?_
        exact g_zret hX hE rfl (Or.inr rfl) ⟨(congrArg (fun z => some (gi z)) (gb_t (by unfold wbf; omega)).symm), rfl⟩
  ·
    refine G.go hX 8 (moW W H mth mbd mne mnw mmn mbx man mrs mrl mfl mpt mdf mlb mbo mwn mwo mxo myo mor mco mro mpw mph mrk mrb mrf mfr mfm med map mwh, 27, [(0, gr 60), (1, gi p), (2, gi q)], [gi (myo q), gi (myo p)]) rfl ?_ ?_
    · refine ⟨?_, ?_, trivial⟩
      · omega
      · omega
    refine g_icmp_ge hX 34 rfl rfl (by first | exact (hxy _).1 | exact (hxy _).2 | exact ⟨by omega, by omega⟩) (by first | exact (hxy _).1 | exact (hxy _).2 | exact ⟨by omega, by omega⟩) (fun b27 => ?_) (fun b27 => ?_)
    ·
      refine G.go hX 1 (moW W H mth mbd mne mnw mmn mbx man mrs mrl mfl mpt mdf mlb mbo mwn mwo mxo myo mor mco mro mpw mph mrk mrb mrf mfr mfm med map mwh, 35, [(0, gr 60), (1, gi p), (2, gi q)], [gi 0]) rfl trivial ?_
      exact g_zret hX hE rfl (Or.inl rfl) ⟨(congrArg (fun z => some (gi z)) (gb_f (by unfold wbf; omega)).symm), rfl⟩
    ·
      refine G.go hX 2 (moW W H mth mbd mne mnw mmn mbx man mrs mrl mfl mpt mdf mlb mbo mwn mwo mxo myo mor mco mro mpw mph mrk mrb mrf mfr mfm med map mwh, 35, [(0, gr 60), (1, gi p), (2, gi q)], [gi 1]) rfl trivial ?_
      exact g_zret hX hE rfl (Or.inr rfl) ⟨(congrArg (fun z => some (gi z)) (gb_t (by unfold wbf; omega)).symm), rfl⟩
set_option maxHeartbeats 4000000 in
set_option maxRecDepth 100000 in
theorem c_X8_fault (l : Launch) (D : va_G) (cA : Nat → ClassId) (W : Nat) (H : Nat) (mth : Int) (mbd : Int) (mne : Int) (mnw : Int) (mmn : Int) (mbx : Int) (man : Int) (mrs : Int) (mrl : Int) (mfl : Int) (mpt : Int → Int) (mdf : Int → Int) (mlb : Int → Int) (mbo : Int → Int) (mwn : Int → Int) (mwo : Int → Int) (mxo : Int → Int) (myo : Int → Int) (mor : Int → Int) (mco : Int → Int) (mro : Int → Int) (mpw : Int → Int) (mph : Int → Int) (mrk : Int → Int) (mrb : Int → Int) (mrf : Int → Int) (mfr : Int → Int) (mfm : Int → Int) (med : Int → Int) (map : Int → Int) (mwh : Int → Int) (i : Int) (k : Int) (hi : inR i) (hk : inR k) (hfl : 0 ≤ mfl ∧ mfl ≤ 12) (hfr : ∀ q : Int, 0 ≤ q → q < mfl → 0 ≤ mfr q ∧ mfr q < 12) (hrf : ∀ q : Int, mrf q = 0 ∨ mrf q = 1) :
    gC l D cA yX8_fault mX8_fault (some .int) 0 0 [gr 60, gi i, gi k] (moW W H mth mbd mne mnw mmn mbx man mrs mrl mfl mpt mdf mlb mbo mwn mwo mxo myo mor mco mro mpw mph mrk mrb mrf mfr mfm med map mwh) (fun r9 w9 => ∃ (rv : Int) (th : Int), r9 = some (gi rv) ∧ w9 = moW W H th mbd mne mnw mmn mbx man mrs mrl mfl mpt mdf mlb mbo mwn mwo mxo myo mor mco mro mpw mph mrk mrb mrf mfr mfm med map mwh ∧ (¬ ((0 ≤ i ∧ i < mfl) ∧ 0 ≤ k ∧ k ≤ 2) → th = 1 ∧ rv = 0) ∧ (((0 ≤ i ∧ i < mfl) ∧ 0 ≤ k ∧ k ≤ 2) → th = 0 ∧ (k = 0 → rv = mfr i) ∧ (k = 1 → rv = if mrf (mfr i) = 0 then mrk (mfr i) else -1) ∧ (k = 2 → rv = mfm i))) := by
  refine gC_of rfl kX8_fault rfl rfl (Nat.le_of_ble_eq_true rfl) (fun X ad hX hE => ?_)
  refine G.go hX 7 (moW W H mth mbd mne mnw mmn mbx man mrs mrl mfl mpt mdf mlb mbo mwn mwo mxo myo mor mco mro mpw mph mrk mrb mrf mfr mfm med map mwh, 9, [(0, gr 60), (1, gi i), (2, gi k)], [gi (mfl - 1), gi 0, gi i, gr 60]) rfl trivial ?_
  refine G.callS (av := [gi i, gi 0, gi (mfl - 1)]) (st := [gr 60]) hX rfl (fun l D cA => c_X8_in l D cA i 0 (mfl - 1) (by first | assumption | exact ⟨by omega, by omega⟩) ⟨by omega, by omega⟩ ⟨by omega, by omega⟩) (by decide +kernel) aX8_in rfl ⟨rfl, rfl⟩ (by decide) (Nat.le_of_ble_eq_true rfl) [] [0, 1, 2, 3, 4, 5, 6, 7, 8, 9, 10, 11, 12, 13, 14, 15, 16, 17, 18, 19, 20, 21] (moW W H mth mbd mne mnw mmn mbx man mrs mrl mfl mpt mdf mlb mbo mwn mwo mxo myo mor mco mro mpw mph mrk mrb mrf mfr mfm med map mwh) rfl rfl rfl (fun r w' hp => ?_)
  obtain ⟨rfl, rfl⟩ := hp
  show G X mX8_fault ad 0 0 (moW W H mth mbd mne mnw mmn mbx man mrs mrl mfl mpt mdf mlb mbo mwn mwo mxo myo mor mco mro mpw mph mrk mrb mrf mfr mfm med map mwh, 12, [(0, gr 60), (1, gi i), (2, gi k)], [gi (gb (0 ≤ i ∧ i ≤ (mfl - 1))), gr 60])
  refine g_if_eq hX 28 rfl rfl (gb_r _) (fun b12 => ?_) (fun b12 => ?_)
  ·
    have b12 := gb_0.mp b12
    refine G.go hX 4 (moW W H 1 mbd mne mnw mmn mbx man mrs mrl mfl mpt mdf mlb mbo mwn mwo mxo myo mor mco mro mpw mph mrk mrb mrf mfr mfm med map mwh, 36, [(0, gr 60), (1, gi i), (2, gi k)], [gi 1]) rfl trivial ?_
    refine g_if_le hX 41 rfl rfl ⟨by omega, by omega⟩ (fun b36 => ?_) (fun b36 => ?_)
    ·
      exfalso
      omega
    ·
      refine G.go hX 1 (moW W H 1 mbd mne mnw mmn mbx man mrs mrl mfl mpt mdf mlb mbo mwn mwo mxo myo mor mco mro mpw mph mrk mrb mrf mfr mfm med map mwh, 40, [(0, gr 60), (1, gi i), (2, gi k)], [gi 0]) rfl trivial ?_
      exact g_iret hX hE rfl ⟨0, 1, rfl, rfl, fun _ => ⟨rfl, rfl⟩, fun h9 => by (exfalso; omega)⟩
  ·
    have b12 := gb_n0 b12
    refine G.go hX 3 (moW W H mth mbd mne mnw mmn mbx man mrs mrl mfl mpt mdf mlb mbo mwn mwo mxo myo mor mco mro mpw mph mrk mrb mrf mfr mfm med map mwh, 18, [(0, gr 60), (1, gi i), (2, gi k)], [gi 2, gi 0, gi k, gr 60]) rfl trivial ?_
    refine G.callS (av := [gi k, gi 0, gi 2]) (st := [gr 60]) hX rfl (fun l D cA => c_X8_in l D cA k 0 2 (by first | assumption | exact ⟨by omega, by omega⟩) ⟨by omega, by omega⟩ ⟨by omega, by omega⟩) (by decide +kernel) aX8_in rfl ⟨rfl, rfl⟩ (by decide) (Nat.le_of_ble_eq_true rfl) [] [0, 1, 2, 3, 4, 5, 6, 7, 8, 9, 10, 11, 12, 13, 14, 15, 16, 17, 18, 19, 20, 21] (moW W H mth mbd mne mnw mmn mbx man mrs mrl mfl mpt mdf mlb mbo mwn mwo mxo myo mor mco mro mpw mph mrk mrb mrf mfr mfm med map mwh) rfl rfl rfl (fun r w' hp => ?_)
    obtain ⟨rfl, rfl⟩ := hp
    show G X mX8_fault ad 0 0 (moW W H mth mbd mne mnw mmn mbx man mrs mrl mfl mpt mdf mlb mbo mwn mwo mxo myo mor mco mro mpw mph mrk mrb mrf mfr mfm med map mwh, 21, [(0, gr 60), (1, gi i), (2, gi k)], [gi (gb (0 ≤ k ∧ k ≤ 2)), gr 60])
    refine g_if_eq hX 28 rfl rfl (gb_r _) (fun b21 => ?_) (fun b21 => ?_)
    ·
      have b21 := gb_0.mp b21
      refine G.go hX 4 (moW W H 1 mbd mne mnw mmn mbx man mrs mrl mfl mpt mdf mlb mbo mwn mwo mxo myo mor mco mro mpw mph mrk mrb mrf mfr mfm med map mwh, 36, [(0, gr 60), (1, gi i), (2, gi k)], [gi 1]) rfl trivial ?_
      refine g_if_le hX 41 rfl rfl ⟨by omega, by omega⟩ (fun b36 => ?_) (fun b36 => ?_)
      ·
        exfalso
        omega
      ·
        refine G.go hX 1 (moW W H 1 mbd mne mnw mmn mbx man mrs mrl mfl mpt mdf mlb mbo mwn mwo mxo myo mor mco mro mpw mph mrk mrb mrf mfr mfm med map mwh, 40, [(0, gr 60), (1, gi i), (2, gi k)], [gi 0]) rfl trivial ?_
        exact g_iret hX hE rfl ⟨0, 1, rfl, rfl, fun _ => ⟨rfl, rfl⟩, fun h9 => by (exfalso; omega)⟩
    ·
      have b21 := gb_n0 b21
      refine G.go hX 5 (moW W H 0 mbd mne mnw mmn mbx man mrs mrl mfl mpt mdf mlb mbo mwn mwo mxo myo mor mco mro mpw mph mrk mrb mrf mfr mfm med map mwh, 36, [(0, gr 60), (1, gi i), (2, gi k)], [gi 0]) rfl trivial ?_
      refine g_if_le hX 41 rfl rfl ⟨by omega, by omega⟩ (fun b36 => ?_) (fun b36 => ?_)
      ·
        have hf9 := hfr i (by omega) (by omega)
        have hb9 := hrf (mfr i)
        refine G.go hX 6 (moW W H 0 mbd mne mnw mmn mbx man mrs mrl mfl mpt mdf mlb mbo mwn mwo mxo myo mor mco mro mpw mph mrk mrb mrf mfr mfm med map mwh, 49, [(0, gr 60), (1, gi i), (2, gi k), (3, gi (mfr i))], [gi k]) rfl ?_ ?_
        · refine ⟨?_, trivial⟩
          · omega
        refine g_if_ne hX 56 rfl rfl hk (fun b49 => ?_) (fun b49 => ?_)
        ·
          refine G.go hX 2 (moW W H 0 mbd mne mnw mmn mbx man mrs mrl mfl mpt mdf mlb mbo mwn mwo mxo myo mor mco mro mpw mph mrk mrb mrf mfr mfm med map mwh, 58, [(0, gr 60), (1, gi i), (2, gi k), (3, gi (mfr i))], [gi 1, gi k]) rfl trivial ?_
          refine g_icmp_ne hX 83 rfl rfl ⟨by omega, by omega⟩ ⟨by omega, by omega⟩ (fun b58 => ?_) (fun b58 => ?_)
          ·
            refine G.go hX 4 (moW W H 0 mbd mne mnw mmn mbx man mrs mrl mfl mpt mdf mlb mbo mwn mwo mxo myo mor mco mro mpw mph mrk mrb mrf mfr mfm med map mwh, 89, [(0, gr 60), (1, gi i), (2, gi k), (3, gi (mfr i))], [gi (mfm i)]) rfl ?_ ?_
            · refine ⟨?_, trivial⟩
              · omega
            exact g_iret hX hE rfl ⟨_, 0, rfl, rfl, fun h9 => by (exfalso; omega), fun _ => ⟨rfl, fun h9 => by first | rfl | (exfalso; omega), fun h9 => by first | (rw [if_pos (by assumption)]) | (rw [if_neg (by assumption)]) | (exfalso; omega), fun h9 => by first | rfl | (exfalso; omega)⟩⟩
          ·
            refine G.go hX 4 (moW W H 0 mbd mne mnw mmn mbx man mrs mrl mfl mpt mdf mlb mbo mwn mwo mxo myo mor mco mro mpw mph mrk mrb mrf mfr mfm med map mwh, 67, [(0, gr 60), (1, gi i), (2, gi k), (3, gi (mfr i))], [gi (mrf (mfr i))]) rfl ?_ ?_
            · refine ⟨?_, trivial⟩
              · omega
            refine g_if_eq hX 74 rfl rfl (by rcases hb9 with h9 | h9 <;> rw [h9] <;> exact ⟨by omega, by omega⟩) (fun b67 => ?_) (fun b67 => ?_)
            ·
              refine G.go hX 5 (moW W H 0 mbd mne mnw mmn mbx man mrs mrl mfl mpt mdf mlb mbo mwn mwo mxo myo mor mco mro mpw mph mrk mrb mrf mfr mfm med map mwh, 89, [(0, gr 60), (1, gi i), (2, gi k), (3, gi (mfr i))], [gi (mrk (mfr i))]) rfl ?_ ?_
              · refine ⟨?_, trivial⟩
                · omega
              exact g_iret hX hE rfl ⟨_, 0, rfl, rfl, fun h9 => by (exfalso; omega), fun _ => ⟨rfl, fun h9 => by first | rfl | (exfalso; omega), fun h9 => by first | (rw [if_pos (by assumption)]) | (rw [if_neg (by assumption)]) | (exfalso; omega), fun h9 => by first | rfl | (exfalso; omega)⟩⟩
            ·
              refine G.go hX 2 (moW W H 0 mbd mne mnw mmn mbx man mrs mrl mfl mpt mdf mlb mbo mwn mwo mxo myo mor mco mro mpw mph mrk mrb mrf mfr mfm med map mwh, 89, [(0, gr 60), (1, gi i), (2, gi k), (3, gi (mfr i))], [gi (-1)]) rfl trivial ?_
              exact g_iret hX hE rfl ⟨_, 0, rfl, rfl, fun h9 => by (exfalso; omega), fun _ => ⟨rfl, fun h9 => by first | rfl | (exfalso; omega), fun h9 => by first | (rw [if_pos (by assumption)]) | (rw [if_neg (by assumption)]) | (exfalso; omega), fun h9 => by first | rfl | (exfalso; omega)⟩⟩
        ·
          refine G.go hX 2 (moW W H 0 mbd mne mnw mmn mbx man mrs mrl mfl mpt mdf mlb mbo mwn mwo mxo myo mor mco mro mpw mph mrk mrb mrf mfr mfm med map mwh, 89, [(0, gr 60), (1, gi i), (2, gi k), (3, gi (mfr i))], [gi (mfr i)]) rfl trivial ?_
          exact g_iret hX hE rfl ⟨_, 0, rfl, rfl, fun h9 => by (exfalso; omega), fun _ => ⟨rfl, fun h9 => by first | rfl | (exfalso; omega), fun h9 => by first | (rw [if_pos (by assumption)]) | (rw [if_neg (by assumption)]) | (exfalso; omega), fun h9 => by first | rfl | (exfalso; omega)⟩⟩
      ·
        exfalso
        omega
