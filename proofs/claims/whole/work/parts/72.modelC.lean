set_option maxHeartbeats 4000000 in
set_option maxRecDepth 100000 in
theorem c_X8_isMet (l : Launch) (D : va_G) (cA : Nat → ClassId) (W : Nat) (H : Nat) (mth : Int) (mbd : Int) (mne : Int) (mnw : Int) (mmn : Int) (mbx : Int) (man : Int) (mrs : Int) (mrl : Int) (mfl : Int) (mpt : Int → Int) (mdf : Int → Int) (mlb : Int → Int) (mbo : Int → Int) (mwn : Int → Int) (mwo : Int → Int) (mxo : Int → Int) (myo : Int → Int) (mor : Int → Int) (mco : Int → Int) (mro : Int → Int) (mpw : Int → Int) (mph : Int → Int) (mrk : Int → Int) (mrb : Int → Int) (mrf : Int → Int) (mfr : Int → Int) (mfm : Int → Int) (med : Int → Int) (map : Int → Int) (mwh : Int → Int) (s : Int) (x : Int) (y : Int) (hW : W ≤ 32) (hH : H ≤ 32) (hne : 0 ≤ mne ∧ mne ≤ 2) (hbd : 0 ≤ mbd ∧ mbd ≤ 255) (hpt : ∀ q : Int, 0 ≤ mpt q ∧ mpt q ≤ 255) (hs : 0 ≤ s ∧ s ≤ 1) (hx : 0 ≤ x ∧ x < W) (hy : 0 ≤ y ∧ y < H) :
    gC l D cA yX8_isMet mX8_isMet (some .boolean) 0 0 [gr 60, gi s, gi x, gi y] (moW W H mth mbd mne mnw mmn mbx man mrs mrl mfl mpt mdf mlb mbo mwn mwo mxo myo mor mco mro mpw mph mrk mrb mrf mfr mfm med map mwh) (fun r9 w9 => r9 = some (gi (gb (mMt W H mne mbd mpt s x y))) ∧ w9 = moW W H mth mbd mne mnw mmn mbx man mrs mrl mfl mpt mdf mlb mbo mwn mwo mxo myo mor mco mro mpw mph mrk mrb mrf mfr mfm med map mwh) := by
  refine gC_of rfl kX8_isMet rfl rfl (Nat.le_of_ble_eq_true rfl) (fun X ad hX hE => ?_)
  refine G.go hX 6 (moW W H mth mbd mne mnw mmn mbx man mrs mrl mfl mpt mdf mlb mbo mwn mwo mxo myo mor mco mro mpw mph mrk mrb mrf mfr mfm med map mwh, 10, [(0, gr 60), (1, gi s), (2, gi x), (3, gi y), (4, gi 0), (5, gi (-mne))], []) rfl trivial ?_
  have lp10 : ∀ (n : Nat) (me : Int) (dy : Int), (-mne ≤ dy ∧ dy ≤ mne + 1) → (me = gb (mMs W H mne mbd mpt s x y dy (-mne))) → (mne + 1 - dy).toNat < n → G X mX8_isMet ad 0 0 (moW W H mth mbd mne mnw mmn mbx man mrs mrl mfl mpt mdf mlb mbo mwn mwo mxo myo mor mco mro mpw mph mrk mrb mrf mfr mfm med map mwh, 10, [(0, gr 60), (1, gi s), (2, gi x), (3, gi y), (4, gi me), (5, gi dy)], []) := by
    intro n
    induction n with
    | zero => intro me dy hdy hme hm9; exact absurd hm9 (Nat.not_lt_zero _)
    | succ n ih10 =>
      intro me dy hdy hme hm10
      refine G.go hX 3 (moW W H mth mbd mne mnw mmn mbx man mrs mrl mfl mpt mdf mlb mbo mwn mwo mxo myo mor mco mro mpw mph mrk mrb mrf mfr mfm med map mwh, 16, [(0, gr 60), (1, gi s), (2, gi x), (3, gi y), (4, gi me), (5, gi dy)], [gi mne, gi dy]) rfl trivial ?_
      refine g_icmp_gt hX 159 rfl rfl ⟨by omega, by omega⟩ ⟨by omega, by omega⟩ (fun b16 => ?_) (fun b16 => ?_)
      ·
        refine G.go hX 1 (moW W H mth mbd mne mnw mmn mbx man mrs mrl mfl mpt mdf mlb mbo mwn mwo mxo myo mor mco mro mpw mph mrk mrb mrf mfr mfm med map mwh, 161, [(0, gr 60), (1, gi s), (2, gi x), (3, gi y), (4, gi me), (5, gi dy)], [gi me]) rfl trivial ?_
        exact g_zret hX hE rfl (by rw [hme]; exact gb_01 _) ⟨congrArg (fun z => some (gi z)) (by rw [hme]; exact gb_c (mMs_end (by omega))), rfl⟩
      ·
        refine G.go hX 4 (moW W H mth mbd mne mnw mmn mbx man mrs mrl mfl mpt mdf mlb mbo mwn mwo mxo myo mor mco mro mpw mph mrk mrb mrf mfr mfm med map mwh, 26, [(0, gr 60), (1, gi s), (2, gi x), (3, gi y), (4, gi me), (5, gi dy), (6, gi (-mne))], []) rfl trivial ?_
        have lp26 : ∀ (n : Nat) (me : Int) (dx : Int), (-mne ≤ dx ∧ dx ≤ mne + 1) → (me = gb (mMs W H mne mbd mpt s x y dy dx)) → (mne + 1 - dx).toNat < n → G X mX8_isMet ad 0 0 (moW W H mth mbd mne mnw mmn mbx man mrs mrl mfl mpt mdf mlb mbo mwn mwo mxo myo mor mco mro mpw mph mrk mrb mrf mfr mfm med map mwh, 26, [(0, gr 60), (1, gi s), (2, gi x), (3, gi y), (4, gi me), (5, gi dy), (6, gi dx)], []) := by
          intro n
          induction n with
          | zero => intro me dx hdx hme hm9; exact absurd hm9 (Nat.not_lt_zero _)
          | succ n ih26 =>
            intro me dx hdx hme hm26
            have hm01 := gb_01 (mMs W H mne mbd mpt s x y dy dx)
            refine G.go hX 3 (moW W H mth mbd mne mnw mmn mbx man mrs mrl mfl mpt mdf mlb mbo mwn mwo mxo myo mor mco mro mpw mph mrk mrb mrf mfr mfm med map mwh, 32, [(0, gr 60), (1, gi s), (2, gi x), (3, gi y), (4, gi me), (5, gi dy), (6, gi dx)], [gi mne, gi dx]) rfl trivial ?_
            refine g_icmp_gt hX 153 rfl rfl ⟨by omega, by omega⟩ ⟨by omega, by omega⟩ (fun b32 => ?_) (fun b32 => ?_)
            ·
              refine G.go hX 2 (moW W H mth mbd mne mnw mmn mbx man mrs mrl mfl mpt mdf mlb mbo mwn mwo mxo myo mor mco mro mpw mph mrk mrb mrf mfr mfm med map mwh, 10, [(0, gr 60), (1, gi s), (2, gi x), (3, gi y), (4, gi me), (5, gi (dy + 1)), (6, gi dx)], []) rfl trivial ?_
              refine G.locs [(0, gr 60), (1, gi s), (2, gi x), (3, gi y), (4, gi me), (5, gi (dy + 1))] [0, 1, 2, 3, 4, 5] rfl ?_
              exact ih10 me (dy + 1) (by omega) (by rw [hme]; exact gb_c (mMs_row (by omega))) (by omega)
            ·
              refine G.go hX 8 (moW W H mth mbd mne mnw mmn mbx man mrs mrl mfl mpt mdf mlb mbo mwn mwo mxo myo mor mco mro mpw mph mrk mrb mrf mfr mfm med map mwh, 46, [(0, gr 60), (1, gi s), (2, gi x), (3, gi y), (4, gi me), (5, gi dy), (6, gi dx)], [gi (W - 1), gi 0, gi (x + dx)]) rfl trivial ?_
              refine G.callS (av := [gi (x + dx), gi 0, gi (W - 1)]) (st := []) hX rfl (fun l D cA => c_X8_in l D cA (x + dx) 0 (W - 1) (by first | assumption | exact ⟨by omega, by omega⟩) ⟨by omega, by omega⟩ ⟨by omega, by omega⟩) (by decide +kernel) aX8_in rfl ⟨rfl, rfl⟩ (by decide) (Nat.le_of_ble_eq_true rfl) [] [0, 1, 2, 3, 4, 5, 6, 7, 8, 9, 10, 11, 12, 13, 14, 15, 16, 17, 18, 19, 20, 21] (moW W H mth mbd mne mnw mmn mbx man mrs mrl mfl mpt mdf mlb mbo mwn mwo mxo myo mor mco mro mpw mph mrk mrb mrf mfr mfm med map mwh) rfl rfl rfl (fun r w' hp => ?_)
              obtain ⟨rfl, rfl⟩ := hp
              show G X mX8_isMet ad 0 0 (moW W H mth mbd mne mnw mmn mbx man mrs mrl mfl mpt mdf mlb mbo mwn mwo mxo myo mor mco mro mpw mph mrk mrb mrf mfr mfm med map mwh, 49, [(0, gr 60), (1, gi s), (2, gi x), (3, gi y), (4, gi me), (5, gi dy), (6, gi dx)], [gi (gb (0 ≤ (x + dx) ∧ (x + dx) ≤ (W - 1)))])
              refine g_if_eq hX 147 rfl rfl (gb_r _) (fun b49 => ?_) (fun b49 => ?_)
              ·
                have b49 := gb_0.mp b49
                refine G.go hX 2 (moW W H mth mbd mne mnw mmn mbx man mrs mrl mfl mpt mdf mlb mbo mwn mwo mxo myo mor mco mro mpw mph mrk mrb mrf mfr mfm med map mwh, 26, [(0, gr 60), (1, gi s), (2, gi x), (3, gi y), (4, gi me), (5, gi dy), (6, gi (dx + 1))], []) rfl trivial ?_
                exact ih26 me (dx + 1) (by omega) (by rw [hme]; exact gb_c (mMs_out (by omega))) (by omega)
              ·
                have b49 := gb_n0 b49
                refine G.go hX 8 (moW W H mth mbd mne mnw mmn mbx man mrs mrl mfl mpt mdf mlb mbo mwn mwo mxo myo mor mco mro mpw mph mrk mrb mrf mfr mfm med map mwh, 63, [(0, gr 60), (1, gi s), (2, gi x), (3, gi y), (4, gi me), (5, gi dy), (6, gi dx)], [gi (H - 1), gi 0, gi (y + dy)]) rfl trivial ?_
                refine G.callS (av := [gi (y + dy), gi 0, gi (H - 1)]) (st := []) hX rfl (fun l D cA => c_X8_in l D cA (y + dy) 0 (H - 1) (by first | assumption | exact ⟨by omega, by omega⟩) ⟨by omega, by omega⟩ ⟨by omega, by omega⟩) (by decide +kernel) aX8_in rfl ⟨rfl, rfl⟩ (by decide) (Nat.le_of_ble_eq_true rfl) [] [0, 1, 2, 3, 4, 5, 6, 7, 8, 9, 10, 11, 12, 13, 14, 15, 16, 17, 18, 19, 20, 21] (moW W H mth mbd mne mnw mmn mbx man mrs mrl mfl mpt mdf mlb mbo mwn mwo mxo myo mor mco mro mpw mph mrk mrb mrf mfr mfm med map mwh) rfl rfl rfl (fun r w' hp => ?_)
                obtain ⟨rfl, rfl⟩ := hp
                show G X mX8_isMet ad 0 0 (moW W H mth mbd mne mnw mmn mbx man mrs mrl mfl mpt mdf mlb mbo mwn mwo mxo myo mor mco mro mpw mph mrk mrb mrf mfr mfm med map mwh, 66, [(0, gr 60), (1, gi s), (2, gi x), (3, gi y), (4, gi me), (5, gi dy), (6, gi dx)], [gi (gb (0 ≤ (y + dy) ∧ (y + dy) ≤ (H - 1)))])
                refine g_if_eq hX 147 rfl rfl (gb_r _) (fun b66 => ?_) (fun b66 => ?_)
                ·
                  have b66 := gb_0.mp b66
                  refine G.go hX 2 (moW W H mth mbd mne mnw mmn mbx man mrs mrl mfl mpt mdf mlb mbo mwn mwo mxo myo mor mco mro mpw mph mrk mrb mrf mfr mfm med map mwh, 26, [(0, gr 60), (1, gi s), (2, gi x), (3, gi y), (4, gi me), (5, gi dy), (6, gi (dx + 1))], []) rfl trivial ?_
                  exact ih26 me (dx + 1) (by omega) (by rw [hme]; exact gb_c (mMs_out (by omega))) (by omega)
                ·
                  have b66 := gb_n0 b66
                  have hp1 := hpt (1024 * s + 32 * y + x)
                  have hp2 := hpt (1024 - 1024 * s + 32 * (y + dy) + x + dx)
                  have hiff := mMs_in (W := W) (H := H) (ne := mne) (fa := mbd) (pt := mpt) (s := s) (x := x) (y := y) (dy := dy) (dx := dx) ⟨by omega, by omega⟩ ⟨by omega, by omega⟩ ⟨by omega, by omega⟩
                  rw [show 1024 - 1024 * s + 32 * (y + dy) + (x + dx) = 1024 - 1024 * s + 32 * (y + dy) + x + dx by omega] at hiff
                  refine G.go hX 33 (moW W H mth mbd mne mnw mmn mbx man mrs mrl mfl mpt mdf mlb mbo mwn mwo mxo myo mor mco mro mpw mph mrk mrb mrf mfr mfm med map mwh, 118, [(0, gr 60), (1, gi s), (2, gi x), (3, gi y), (4, gi me), (5, gi dy), (6, gi dx), (7, gi ((mpt (((1024 * s) + (32 * y)) + x)) - (mpt ((((1024 - (1024 * s)) + (32 * (y + dy))) + x) + dx))))], [gi me]) rfl ?_ ?_
                  · refine ⟨?_, ?_, trivial⟩
                    · omega
                    · omega
                  have jn145 : G X mX8_isMet ad 0 0 (moW W H mth mbd mne mnw mmn mbx man mrs mrl mfl mpt mdf mlb mbo mwn mwo mxo myo mor mco mro mpw mph mrk mrb mrf mfr mfm med map mwh, 145, [(0, gr 60), (1, gi s), (2, gi x), (3, gi y), (4, gi me), (5, gi dy), (6, gi dx), (7, gi ((mpt (((1024 * s) + (32 * y)) + x)) - (mpt ((((1024 - (1024 * s)) + (32 * (y + dy))) + x) + dx))))], [gi (gb (mMs W H mne mbd mpt s x y dy (dx + 1)))]) := by
                    refine G.go hX 3 (moW W H mth mbd mne mnw mmn mbx man mrs mrl mfl mpt mdf mlb mbo mwn mwo mxo myo mor mco mro mpw mph mrk mrb mrf mfr mfm med map mwh, 26, [(0, gr 60), (1, gi s), (2, gi x), (3, gi y), (4, gi (gb (mMs W H mne mbd mpt s x y dy (dx + 1)))), (5, gi dy), (6, gi (dx + 1)), (7, gi ((mpt (((1024 * s) + (32 * y)) + x)) - (mpt ((((1024 - (1024 * s)) + (32 * (y + dy))) + x) + dx))))], []) rfl trivial ?_
                    refine G.locs [(0, gr 60), (1, gi s), (2, gi x), (3, gi y), (4, gi (gb (mMs W H mne mbd mpt s x y dy (dx + 1)))), (5, gi dy), (6, gi (dx + 1))] [0, 1, 2, 3, 4, 5, 6] rfl ?_
                    exact ih26 (gb (mMs W H mne mbd mpt s x y dy (dx + 1))) (dx + 1) (by omega) (by rfl) (by omega)
                  refine g_if_ne hX 140 rfl rfl ⟨by omega, by omega⟩ (fun b118 => ?_) (fun b118 => ?_)
                  ·
                    refine G.go hX 2 (moW W H mth mbd mne mnw mmn mbx man mrs mrl mfl mpt mdf mlb mbo mwn mwo mxo myo mor mco mro mpw mph mrk mrb mrf mfr mfm med map mwh, 145, [(0, gr 60), (1, gi s), (2, gi x), (3, gi y), (4, gi me), (5, gi dy), (6, gi dx), (7, gi ((mpt (((1024 * s) + (32 * y)) + x)) - (mpt ((((1024 - (1024 * s)) + (32 * (y + dy))) + x) + dx))))], [gi 1]) rfl trivial ?_
                    refine G.eq (S' := (moW W H mth mbd mne mnw mmn mbx man mrs mrl mfl mpt mdf mlb mbo mwn mwo mxo myo mor mco mro mpw mph mrk mrb mrf mfr mfm med map mwh, 145, [(0, gr 60), (1, gi s), (2, gi x), (3, gi y), (4, gi me), (5, gi dy), (6, gi dx), (7, gi ((mpt (((1024 * s) + (32 * y)) + x)) - (mpt ((((1024 - (1024 * s)) + (32 * (y + dy))) + x) + dx))))], [gi (gb (mMs W H mne mbd mpt s x y dy (dx + 1)))])) ?_ jn145
                    rw [gb_t (P := mMs W H mne mbd mpt s x y dy (dx + 1)) (hiff.mpr (Or.inl (gb_n0 (by rw [← hme]; exact b118))))]
                  ·
                    refine G.go hX 3 (moW W H mth mbd mne mnw mmn mbx man mrs mrl mfl mpt mdf mlb mbo mwn mwo mxo myo mor mco mro mpw mph mrk mrb mrf mfr mfm med map mwh, 127, [(0, gr 60), (1, gi s), (2, gi x), (3, gi y), (4, gi me), (5, gi dy), (6, gi dx), (7, gi ((mpt (((1024 * s) + (32 * y)) + x)) - (mpt ((((1024 - (1024 * s)) + (32 * (y + dy))) + x) + dx))))], [gi mbd, gi ((mpt (((1024 * s) + (32 * y)) + x)) - (mpt ((((1024 - (1024 * s)) + (32 * (y + dy))) + x) + dx)))]) rfl trivial ?_
                    refine g_icmp_gt hX 144 rfl rfl ⟨by omega, by omega⟩ ⟨by omega, by omega⟩ (fun b127 => ?_) (fun b127 => ?_)
                    ·
                      refine G.go hX 1 (moW W H mth mbd mne mnw mmn mbx man mrs mrl mfl mpt mdf mlb mbo mwn mwo mxo myo mor mco mro mpw mph mrk mrb mrf mfr mfm med map mwh, 145, [(0, gr 60), (1, gi s), (2, gi x), (3, gi y), (4, gi me), (5, gi dy), (6, gi dx), (7, gi ((mpt (((1024 * s) + (32 * y)) + x)) - (mpt ((((1024 - (1024 * s)) + (32 * (y + dy))) + x) + dx))))], [gi 0]) rfl trivial ?_
                      refine G.eq (S' := (moW W H mth mbd mne mnw mmn mbx man mrs mrl mfl mpt mdf mlb mbo mwn mwo mxo myo mor mco mro mpw mph mrk mrb mrf mfr mfm med map mwh, 145, [(0, gr 60), (1, gi s), (2, gi x), (3, gi y), (4, gi me), (5, gi dy), (6, gi dx), (7, gi ((mpt (((1024 * s) + (32 * y)) + x)) - (mpt ((((1024 - (1024 * s)) + (32 * (y + dy))) + x) + dx))))], [gi (gb (mMs W H mne mbd mpt s x y dy (dx + 1)))])) ?_ jn145
                      rw [gb_f (P := mMs W H mne mbd mpt s x y dy (dx + 1)) (fun h9 => by (rcases hiff.mp h9 with h8 | h8; (rw [gb_t h8] at hme; omega); (unfold gcl at h8; omega)))]
                    ·
                      refine G.go hX 4 (moW W H mth mbd mne mnw mmn mbx man mrs mrl mfl mpt mdf mlb mbo mwn mwo mxo myo mor mco mro mpw mph mrk mrb mrf mfr mfm med map mwh, 137, [(0, gr 60), (1, gi s), (2, gi x), (3, gi y), (4, gi me), (5, gi dy), (6, gi dx), (7, gi ((mpt (((1024 * s) + (32 * y)) + x)) - (mpt ((((1024 - (1024 * s)) + (32 * (y + dy))) + x) + dx))))], [gi mbd, gi (-((mpt (((1024 * s) + (32 * y)) + x)) - (mpt ((((1024 - (1024 * s)) + (32 * (y + dy))) + x) + dx))))]) rfl trivial ?_
                      refine g_icmp_gt hX 144 rfl rfl ⟨by omega, by omega⟩ ⟨by omega, by omega⟩ (fun b137 => ?_) (fun b137 => ?_)
                      ·
                        refine G.go hX 1 (moW W H mth mbd mne mnw mmn mbx man mrs mrl mfl mpt mdf mlb mbo mwn mwo mxo myo mor mco mro mpw mph mrk mrb mrf mfr mfm med map mwh, 145, [(0, gr 60), (1, gi s), (2, gi x), (3, gi y), (4, gi me), (5, gi dy), (6, gi dx), (7, gi ((mpt (((1024 * s) + (32 * y)) + x)) - (mpt ((((1024 - (1024 * s)) + (32 * (y + dy))) + x) + dx))))], [gi 0]) rfl trivial ?_
                        refine G.eq (S' := (moW W H mth mbd mne mnw mmn mbx man mrs mrl mfl mpt mdf mlb mbo mwn mwo mxo myo mor mco mro mpw mph mrk mrb mrf mfr mfm med map mwh, 145, [(0, gr 60), (1, gi s), (2, gi x), (3, gi y), (4, gi me), (5, gi dy), (6, gi dx), (7, gi ((mpt (((1024 * s) + (32 * y)) + x)) - (mpt ((((1024 - (1024 * s)) + (32 * (y + dy))) + x) + dx))))], [gi (gb (mMs W H mne mbd mpt s x y dy (dx + 1)))])) ?_ jn145
                        rw [gb_f (P := mMs W H mne mbd mpt s x y dy (dx + 1)) (fun h9 => by (rcases hiff.mp h9 with h8 | h8; (rw [gb_t h8] at hme; omega); (unfold gcl at h8; omega)))]
                      ·
                        refine G.go hX 2 (moW W H mth mbd mne mnw mmn mbx man mrs mrl mfl mpt mdf mlb mbo mwn mwo mxo myo mor mco mro mpw mph mrk mrb mrf mfr mfm med map mwh, 145, [(0, gr 60), (1, gi s), (2, gi x), (3, gi y), (4, gi me), (5, gi dy), (6, gi dx), (7, gi ((mpt (((1024 * s) + (32 * y)) + x)) - (mpt ((((1024 - (1024 * s)) + (32 * (y + dy))) + x) + dx))))], [gi 1]) rfl trivial ?_
                        refine G.eq (S' := (moW W H mth mbd mne mnw mmn mbx man mrs mrl mfl mpt mdf mlb mbo mwn mwo mxo myo mor mco mro mpw mph mrk mrb mrf mfr mfm med map mwh, 145, [(0, gr 60), (1, gi s), (2, gi x), (3, gi y), (4, gi me), (5, gi dy), (6, gi dx), (7, gi ((mpt (((1024 * s) + (32 * y)) + x)) - (mpt ((((1024 - (1024 * s)) + (32 * (y + dy))) + x) + dx))))], [gi (gb (mMs W H mne mbd mpt s x y dy (dx + 1)))])) ?_ jn145
                        rw [gb_t (P := mMs W H mne mbd mpt s x y dy (dx + 1)) (hiff.mpr (Or.inr (by unfold gcl; omega)))]
        exact lp26 _ me (-mne) (by omega) (by exact hme) (Nat.lt_succ_self _)
  exact lp10 _ 0 (-mne) (by omega) (by rw [gb_f mMs_0]) (Nat.lt_succ_self _)
set_option maxHeartbeats 4000000 in
set_option maxRecDepth 100000 in
theorem c_X8_leastNear (l : Launch) (D : va_G) (cA : Nat → ClassId) (W : Nat) (H : Nat) (mth : Int) (mbd : Int) (mne : Int) (mnw : Int) (mmn : Int) (mbx : Int) (man : Int) (mrs : Int) (mrl : Int) (mfl : Int) (mpt : Int → Int) (mdf : Int → Int) (mlb : Int → Int) (mbo : Int → Int) (mwn : Int → Int) (mwo : Int → Int) (mxo : Int → Int) (myo : Int → Int) (mor : Int → Int) (mco : Int → Int) (mro : Int → Int) (mpw : Int → Int) (mph : Int → Int) (mrk : Int → Int) (mrb : Int → Int) (mrf : Int → Int) (mfr : Int → Int) (mfm : Int → Int) (med : Int → Int) (map : Int → Int) (mwh : Int → Int) (x : Int) (y : Int) (hW : W ≤ 32) (hH : H ≤ 32) (hne : 0 ≤ mne ∧ mne ≤ 2) (hdf : ∀ q : Int, mdf q = 0 ∨ mdf q = 1) (hlb : ∀ q : Int, 0 ≤ mlb q ∧ mlb q ≤ 1023) (hx : 0 ≤ x ∧ x < W) (hy : 0 ≤ y ∧ y < H) (hd : mdf (32 * y + x) = 1) :
    gC l D cA yX8_leastNear mX8_leastNear (some .int) 0 0 [gr 60, gi x, gi y] (moW W H mth mbd mne mnw mmn mbx man mrs mrl mfl mpt mdf mlb mbo mwn mwo mxo myo mor mco mro mpw mph mrk mrb mrf mfr mfm med map mwh) (fun r9 w9 => ∃ (le2 : Int), r9 = some (gi le2) ∧ w9 = moW W H mth mbd mne mnw mmn mbx man mrs mrl mfl mpt mdf mlb mbo mwn mwo mxo myo mor mco mro mpw mph mrk mrb mrf mfr mfm med map mwh ∧ (∃ u v : Int, mwin W H mne x y u v ∧ mdf (32 * v + u) = 1 ∧ le2 = mlb (32 * v + u)) ∧ (∀ a b : Int, mwin W H mne x y a b → mdf (32 * b + a) = 1 → le2 ≤ mlb (32 * b + a))) := by
  refine gC_of rfl kX8_leastNear rfl rfl (Nat.le_of_ble_eq_true rfl) (fun X ad hX hE => ?_)
  refine G.go hX 16 (moW W H mth mbd mne mnw mmn mbx man mrs mrl mfl mpt mdf mlb mbo mwn mwo mxo myo mor mco mro mpw mph mrk mrb mrf mfr mfm med map mwh, 22, [(0, gr 60), (1, gi x), (2, gi y), (3, gi (mlb ((32 * y) + x))), (4, gi ((y - mne) - 1))], []) rfl ?_ ?_
  · refine ⟨?_, trivial⟩
    · omega
  have lp22 : ∀ (n : Nat) (le : Int) (v : Int), (y - mne - 1 ≤ v ∧ v ≤ y + mne + 2) → (∃ u v : Int, mwin W H mne x y u v ∧ mdf (32 * v + u) = 1 ∧ le = mlb (32 * v + u)) → (∀ a b : Int, mwin W H mne x y a b → mdf (32 * b + a) = 1 → (b < v) → le ≤ mlb (32 * b + a)) → (y + mne + 2 - v).toNat < n → G X mX8_leastNear ad 0 0 (moW W H mth mbd mne mnw mmn mbx man mrs mrl mfl mpt mdf mlb mbo mwn mwo mxo myo mor mco mro mpw mph mrk mrb mrf mfr mfm med map mwh, 22, [(0, gr 60), (1, gi x), (2, gi y), (3, gi le), (4, gi v)], []) := by
    intro n
    induction n with
    | zero => intro le v hv h1 h2 hm9; exact absurd hm9 (Nat.not_lt_zero _)
    | succ n ih22 =>
      intro le v hv h1 h2 hm22
      refine G.go hX 7 (moW W H mth mbd mne mnw mmn mbx man mrs mrl mfl mpt mdf mlb mbo mwn mwo mxo myo mor mco mro mpw mph mrk mrb mrf mfr mfm med map mwh, 32, [(0, gr 60), (1, gi x), (2, gi y), (3, gi le), (4, gi v)], [gi ((y + mne) + 1), gi v]) rfl trivial ?_
      refine g_icmp_gt hX 147 rfl rfl ⟨by omega, by omega⟩ ⟨by omega, by omega⟩ (fun b32 => ?_) (fun b32 => ?_)
      ·
        refine G.go hX 1 (moW W H mth mbd mne mnw mmn mbx man mrs mrl mfl mpt mdf mlb mbo mwn mwo mxo myo mor mco mro mpw mph mrk mrb mrf mfr mfm med map mwh, 148, [(0, gr 60), (1, gi x), (2, gi y), (3, gi le), (4, gi v)], [gi le]) rfl trivial ?_
        exact g_iret hX hE rfl ⟨le, rfl, rfl, h1, fun a b h8 h7 => h2 a b h8 h7 (by unfold mwin at h8; omega)⟩
      ·
        refine G.go hX 7 (moW W H mth mbd mne mnw mmn mbx man mrs mrl mfl mpt mdf mlb mbo mwn mwo mxo myo mor mco mro mpw mph mrk mrb mrf mfr mfm med map mwh, 45, [(0, gr 60), (1, gi x), (2, gi y), (3, gi le), (4, gi v), (5, gi ((x - mne) - 1))], []) rfl trivial ?_
        have lp45 : ∀ (n : Nat) (le : Int) (u : Int), (x - mne - 1 ≤ u ∧ u ≤ x + mne + 2) → (∃ u v : Int, mwin W H mne x y u v ∧ mdf (32 * v + u) = 1 ∧ le = mlb (32 * v + u)) → (∀ a b : Int, mwin W H mne x y a b → mdf (32 * b + a) = 1 → (b < v ∨ (b = v ∧ a < u)) → le ≤ mlb (32 * b + a)) → (x + mne + 2 - u).toNat < n → G X mX8_leastNear ad 0 0 (moW W H mth mbd mne mnw mmn mbx man mrs mrl mfl mpt mdf mlb mbo mwn mwo mxo myo mor mco mro mpw mph mrk mrb mrf mfr mfm med map mwh, 45, [(0, gr 60), (1, gi x), (2, gi y), (3, gi le), (4, gi v), (5, gi u)], []) := by
          intro n
          induction n with
          | zero => intro le u hu h1 h2 hm9; exact absurd hm9 (Nat.not_lt_zero _)
          | succ n ih45 =>
            intro le u hu h1 h2 hm45
            have hle : 0 ≤ le ∧ le ≤ 1023 := by (obtain ⟨u9, v9, _, _, h9⟩ := h1; rw [h9]; exact hlb _)
            refine G.go hX 7 (moW W H mth mbd mne mnw mmn mbx man mrs mrl mfl mpt mdf mlb mbo mwn mwo mxo myo mor mco mro mpw mph mrk mrb mrf mfr mfm med map mwh, 55, [(0, gr 60), (1, gi x), (2, gi y), (3, gi le), (4, gi v), (5, gi u)], [gi ((x + mne) + 1), gi u]) rfl trivial ?_
            refine g_icmp_gt hX 141 rfl rfl ⟨by omega, by omega⟩ ⟨by omega, by omega⟩ (fun b55 => ?_) (fun b55 => ?_)
            ·
              refine G.go hX 2 (moW W H mth mbd mne mnw mmn mbx man mrs mrl mfl mpt mdf mlb mbo mwn mwo mxo myo mor mco mro mpw mph mrk mrb mrf mfr mfm med map mwh, 22, [(0, gr 60), (1, gi x), (2, gi y), (3, gi le), (4, gi (v + 1)), (5, gi u)], []) rfl trivial ?_
              refine G.locs [(0, gr 60), (1, gi x), (2, gi y), (3, gi le), (4, gi (v + 1))] [0, 1, 2, 3, 4] rfl ?_
              exact ih22 le (v + 1) (by omega) (by exact h1) (by intro a b h8 h7 h9; exact h2 a b h8 h7 (by unfold mwin at h8; omega)) (by omega)
            ·
              refine G.go hX 6 (moW W H mth mbd mne mnw mmn mbx man mrs mrl mfl mpt mdf mlb mbo mwn mwo mxo myo mor mco mro mpw mph mrk mrb mrf mfr mfm med map mwh, 67, [(0, gr 60), (1, gi x), (2, gi y), (3, gi le), (4, gi v), (5, gi u)], [gi (W - 1), gi 0, gi u]) rfl trivial ?_
              refine G.callS (av := [gi u, gi 0, gi (W - 1)]) (st := []) hX rfl (fun l D cA => c_X8_in l D cA u 0 (W - 1) (by first | assumption | exact ⟨by omega, by omega⟩) ⟨by omega, by omega⟩ ⟨by omega, by omega⟩) (by decide +kernel) aX8_in rfl ⟨rfl, rfl⟩ (by decide) (Nat.le_of_ble_eq_true rfl) [] [0, 1, 2, 3, 4, 5, 6, 7, 8, 9, 10, 11, 12, 13, 14, 15, 16, 17, 18, 19, 20, 21] (moW W H mth mbd mne mnw mmn mbx man mrs mrl mfl mpt mdf mlb mbo mwn mwo mxo myo mor mco mro mpw mph mrk mrb mrf mfr mfm med map mwh) rfl rfl rfl (fun r w' hp => ?_)
              obtain ⟨rfl, rfl⟩ := hp
              show G X mX8_leastNear ad 0 0 (moW W H mth mbd mne mnw mmn mbx man mrs mrl mfl mpt mdf mlb mbo mwn mwo mxo myo mor mco mro mpw mph mrk mrb mrf mfr mfm med map mwh, 70, [(0, gr 60), (1, gi x), (2, gi y), (3, gi le), (4, gi v), (5, gi u)], [gi (gb (0 ≤ u ∧ u ≤ (W - 1)))])
              refine g_if_eq hX 135 rfl rfl (gb_r _) (fun b70 => ?_) (fun b70 => ?_)
              ·
                have b70 := gb_0.mp b70
                refine G.go hX 2 (moW W H mth mbd mne mnw mmn mbx man mrs mrl mfl mpt mdf mlb mbo mwn mwo mxo myo mor mco mro mpw mph mrk mrb mrf mfr mfm med map mwh, 45, [(0, gr 60), (1, gi x), (2, gi y), (3, gi le), (4, gi v), (5, gi (u + 1))], []) rfl trivial ?_
                exact ih45 le (u + 1) (by omega) (by exact h1) (by intro a b h8 h7 h9; by_cases e9 : b = v ∧ a = u; (unfold mwin at h8; omega); exact h2 a b h8 h7 (by omega)) (by omega)
              ·
                have b70 := gb_n0 b70
                refine G.go hX 6 (moW W H mth mbd mne mnw mmn mbx man mrs mrl mfl mpt mdf mlb mbo mwn mwo mxo myo mor mco mro mpw mph mrk mrb mrf mfr mfm med map mwh, 82, [(0, gr 60), (1, gi x), (2, gi y), (3, gi le), (4, gi v), (5, gi u)], [gi (H - 1), gi 0, gi v]) rfl trivial ?_
                refine G.callS (av := [gi v, gi 0, gi (H - 1)]) (st := []) hX rfl (fun l D cA => c_X8_in l D cA v 0 (H - 1) (by first | assumption | exact ⟨by omega, by omega⟩) ⟨by omega, by omega⟩ ⟨by omega, by omega⟩) (by decide +kernel) aX8_in rfl ⟨rfl, rfl⟩ (by decide) (Nat.le_of_ble_eq_true rfl) [] [0, 1, 2, 3, 4, 5, 6, 7, 8, 9, 10, 11, 12, 13, 14, 15, 16, 17, 18, 19, 20, 21] (moW W H mth mbd mne mnw mmn mbx man mrs mrl mfl mpt mdf mlb mbo mwn mwo mxo myo mor mco mro mpw mph mrk mrb mrf mfr mfm med map mwh) rfl rfl rfl (fun r w' hp => ?_)
                obtain ⟨rfl, rfl⟩ := hp
                show G X mX8_leastNear ad 0 0 (moW W H mth mbd mne mnw mmn mbx man mrs mrl mfl mpt mdf mlb mbo mwn mwo mxo myo mor mco mro mpw mph mrk mrb mrf mfr mfm med map mwh, 85, [(0, gr 60), (1, gi x), (2, gi y), (3, gi le), (4, gi v), (5, gi u)], [gi (gb (0 ≤ v ∧ v ≤ (H - 1)))])
                refine g_if_eq hX 135 rfl rfl (gb_r _) (fun b85 => ?_) (fun b85 => ?_)
                ·
                  have b85 := gb_0.mp b85
                  refine G.go hX 2 (moW W H mth mbd mne mnw mmn mbx man mrs mrl mfl mpt mdf mlb mbo mwn mwo mxo myo mor mco mro mpw mph mrk mrb mrf mfr mfm med map mwh, 45, [(0, gr 60), (1, gi x), (2, gi y), (3, gi le), (4, gi v), (5, gi (u + 1))], []) rfl trivial ?_
                  exact ih45 le (u + 1) (by omega) (by exact h1) (by intro a b h8 h7 h9; by_cases e9 : b = v ∧ a = u; (unfold mwin at h8; omega); exact h2 a b h8 h7 (by omega)) (by omega)
                ·
                  have b85 := gb_n0 b85
                  have hb9 := hdf (32 * v + u)
                  refine G.go hX 8 (moW W H mth mbd mne mnw mmn mbx man mrs mrl mfl mpt mdf mlb mbo mwn mwo mxo myo mor mco mro mpw mph mrk mrb mrf mfr mfm med map mwh, 101, [(0, gr 60), (1, gi x), (2, gi y), (3, gi le), (4, gi v), (5, gi u)], [gi (mdf ((32 * v) + u))]) rfl ?_ ?_
                  · refine ⟨?_, trivial⟩
                    · omega
                  refine g_if_eq hX 135 rfl rfl ⟨by omega, by omega⟩ (fun b101 => ?_) (fun b101 => ?_)
                  ·
                    refine G.go hX 2 (moW W H mth mbd mne mnw mmn mbx man mrs mrl mfl mpt mdf mlb mbo mwn mwo mxo myo mor mco mro mpw mph mrk mrb mrf mfr mfm med map mwh, 45, [(0, gr 60), (1, gi x), (2, gi y), (3, gi le), (4, gi v), (5, gi (u + 1))], []) rfl trivial ?_
                    exact ih45 le (u + 1) (by omega) (by exact h1) (by intro a b h8 h7 h9; by_cases e9 : b = v ∧ a = u; (rw [e9.1, e9.2] at h7; omega); exact h2 a b h8 h7 (by omega)) (by omega)
                  ·
                    have hl9 := hlb (32 * v + u)
                    have hd1 : mdf (32 * v + u) = 1 := by omega
                    refine G.go hX 9 (moW W H mth mbd mne mnw mmn mbx man mrs mrl mfl mpt mdf mlb mbo mwn mwo mxo myo mor mco mro mpw mph mrk mrb mrf mfr mfm med map mwh, 118, [(0, gr 60), (1, gi x), (2, gi y), (3, gi le), (4, gi v), (5, gi u)], [gi le, gi (mlb ((32 * v) + u))]) rfl ?_ ?_
                    · refine ⟨?_, trivial⟩
                      · omega
                    refine g_icmp_ge hX 135 rfl rfl ⟨by omega, by omega⟩ ⟨by omega, by omega⟩ (fun b118 => ?_) (fun b118 => ?_)
                    ·
                      refine G.go hX 2 (moW W H mth mbd mne mnw mmn mbx man mrs mrl mfl mpt mdf mlb mbo mwn mwo mxo myo mor mco mro mpw mph mrk mrb mrf mfr mfm med map mwh, 45, [(0, gr 60), (1, gi x), (2, gi y), (3, gi le), (4, gi v), (5, gi (u + 1))], []) rfl trivial ?_
                      exact ih45 le (u + 1) (by omega) (by exact h1) (by intro a b h8 h7 h9; by_cases e9 : b = v ∧ a = u; (rw [e9.1, e9.2]; omega); exact h2 a b h8 h7 (by omega)) (by omega)
                    ·
                      refine G.go hX 11 (moW W H mth mbd mne mnw mmn mbx man mrs mrl mfl mpt mdf mlb mbo mwn mwo mxo myo mor mco mro mpw mph mrk mrb mrf mfr mfm med map mwh, 45, [(0, gr 60), (1, gi x), (2, gi y), (3, gi (mlb ((32 * v) + u))), (4, gi v), (5, gi (u + 1))], []) rfl ?_ ?_
                      · refine ⟨?_, trivial⟩
                        · omega
                      exact ih45 (mlb ((32 * v) + u)) (u + 1) (by omega) (by exact ⟨u, v, ⟨⟨by omega, by omega⟩, ⟨by omega, by omega⟩, by omega, by omega⟩, hd1, rfl⟩) (by intro a b h8 h7 h9; by_cases e9 : b = v ∧ a = u; (rw [e9.1, e9.2]; exact Int.le_refl _); (have := h2 a b h8 h7 (by omega); omega)) (by omega)
        exact lp45 _ le ((x - mne) - 1) (by omega) (by exact h1) (by intro a b h8 h7 h9; exact h2 a b h8 h7 (by unfold mwin at h8; omega)) (Nat.lt_succ_self _)
  exact lp22 _ (mlb ((32 * y) + x)) ((y - mne) - 1) (by omega) (by exact ⟨x, y, ⟨hx, hy, by omega, by omega⟩, hd, rfl⟩) (by intro a b h8 _ h9; unfold mwin at h8; omega) (Nat.lt_succ_self _)
set_option maxHeartbeats 4000000 in
set_option maxRecDepth 100000 in
theorem c_X8_spread (l : Launch) (D : va_G) (cA : Nat → ClassId) (W : Nat) (H : Nat) (mth : Int) (mbd : Int) (mne : Int) (mnw : Int) (mmn : Int) (mbx : Int) (man : Int) (mrs : Int) (mrl : Int) (mfl : Int) (mpt : Int → Int) (mdf : Int → Int) (mlb : Int → Int) (mbo : Int → Int) (mwn : Int → Int) (mwo : Int → Int) (mxo : Int → Int) (myo : Int → Int) (mor : Int → Int) (mco : Int → Int) (mro : Int → Int) (mpw : Int → Int) (mph : Int → Int) (mrk : Int → Int) (mrb : Int → Int) (mrf : Int → Int) (mfr : Int → Int) (mfm : Int → Int) (med : Int → Int) (map : Int → Int) (mwh : Int → Int) (F : (Int → Int) → Prop) (hW : W ≤ 32) (hH : H ≤ 32) (hne : 0 ≤ mne ∧ mne ≤ 2) (hdf : ∀ q : Int, mdf q = 0 ∨ mdf q = 1) (hst : ∀ (lb : Int → Int) (x y u v : Int), F lb → (0 ≤ x ∧ x < W) → (0 ≤ y ∧ y < H) → mwin W H mne x y u v → mdf (32 * y + x) = 1 → mdf (32 * v + u) = 1 → F (gu lb (32 * y + x) (lb (32 * v + u)))) (hok : ∀ lb : Int → Int, F lb → ∀ q : Int, 0 ≤ lb q ∧ lb q ≤ 1023) (hF : F mlb) :
    gC l D cA yX8_spread mX8_spread none 0 0 [gr 60] (moW W H mth mbd mne mnw mmn mbx man mrs mrl mfl mpt mdf mlb mbo mwn mwo mxo myo mor mco mro mpw mph mrk mrb mrf mfr mfm med map mwh) (fun r9 w9 => ∃ (lb2 : Int → Int), r9 = none ∧ w9 = moW W H mth mbd mne mnw mmn mbx man mrs mrl mfl mpt mdf lb2 mbo mwn mwo mxo myo mor mco mro mpw mph mrk mrb mrf mfr mfm med map mwh ∧ (F lb2) ∧ (mfx W H mne mdf lb2 H 0)) := by
  refine gC_of rfl kX8_spread rfl rfl (Nat.le_of_ble_eq_true rfl) (fun X ad hX hE => ?_)
  refine G.go hX 2 (moW W H mth mbd mne mnw mmn mbx man mrs mrl mfl mpt mdf mlb mbo mwn mwo mxo myo mor mco mro mpw mph mrk mrb mrf mfr mfm med map mwh, 2, [(0, gr 60), (1, gi 1)], []) rfl trivial ?_
  have lp2 : ∀ (n : Nat) (mo1 : Int) (lb1 : Int → Int), (F lb1) → (mo1 = 0 ∨ mo1 = 1) → (mo1 = 0 → mfx W H mne mdf lb1 H 0) → (2 * gsm lb1 1024 + mo1).toNat < n → G X mX8_spread ad 0 0 (moW W H mth mbd mne mnw mmn mbx man mrs mrl mfl mpt mdf lb1 mbo mwn mwo mxo myo mor mco mro mpw mph mrk mrb mrf mfr mfm med map mwh, 2, [(0, gr 60), (1, gi mo1)], []) := by
    intro n
    induction n with
    | zero => intro mo1 lb1 hF1 hm1 hz1 hm9; exact absurd hm9 (Nat.not_lt_zero _)
    | succ n ih2 =>
      intro mo1 lb1 hF1 hm1 hz1 hm2
      have hg1 := gsm_le0 (fun q => (hok _ hF1 q).1) 1024
      refine G.go hX 1 (moW W H mth mbd mne mnw mmn mbx man mrs mrl mfl mpt mdf lb1 mbo mwn mwo mxo myo mor mco mro mpw mph mrk mrb mrf mfr mfm med map mwh, 3, [(0, gr 60), (1, gi mo1)], [gi mo1]) rfl trivial ?_
      refine g_if_eq hX 100 rfl rfl ⟨by omega, by omega⟩ (fun b3 => ?_) (fun b3 => ?_)
      ·
        exact g_vret hX hE rfl ⟨lb1, rfl, rfl, hF1, hz1 b3⟩
      ·
        refine G.go hX 4 (moW W H mth mbd mne mnw mmn mbx man mrs mrl mfl mpt mdf lb1 mbo mwn mwo mxo myo mor mco mro mpw mph mrk mrb mrf mfr mfm med map mwh, 10, [(0, gr 60), (1, gi 0), (2, gi 0)], []) rfl trivial ?_
        have lp10 : ∀ (n : Nat) (mo3 : Int) (y : Int) (lb3 : Int → Int), (0 ≤ y ∧ y ≤ H) → (F lb3) → (mo3 = 0 ∨ mo3 = 1) → (mo3 = 0 → lb3 = lb1 ∧ mfx W H mne mdf lb1 y 0) → (mo3 = 1 → gsm lb3 1024 < gsm lb1 1024) → (H - y).toNat < n → G X mX8_spread ad 0 0 (moW W H mth mbd mne mnw mmn mbx man mrs mrl mfl mpt mdf lb3 mbo mwn mwo mxo myo mor mco mro mpw mph mrk mrb mrf mfr mfm med map mwh, 10, [(0, gr 60), (1, gi mo3), (2, gi y)], []) := by
          intro n
          induction n with
          | zero => intro mo3 y lb3 hy hF3 hm3 hz3 ho3 hm9; exact absurd hm9 (Nat.not_lt_zero _)
          | succ n ih10 =>
            intro mo3 y lb3 hy hF3 hm3 hz3 ho3 hm10
            refine G.go hX 3 (moW W H mth mbd mne mnw mmn mbx man mrs mrl mfl mpt mdf lb3 mbo mwn mwo mxo myo mor mco mro mpw mph mrk mrb mrf mfr mfm med map mwh, 15, [(0, gr 60), (1, gi mo3), (2, gi y)], [gi H, gi y]) rfl trivial ?_
            refine g_icmp_ge hX 97 rfl rfl ⟨by omega, by omega⟩ ⟨by omega, by omega⟩ (fun b15 => ?_) (fun b15 => ?_)
            ·
              refine G.go hX 1 (moW W H mth mbd mne mnw mmn mbx man mrs mrl mfl mpt mdf lb3 mbo mwn mwo mxo myo mor mco mro mpw mph mrk mrb mrf mfr mfm med map mwh, 2, [(0, gr 60), (1, gi mo3), (2, gi y)], []) rfl trivial ?_
              refine G.locs [(0, gr 60), (1, gi mo3)] [0, 1] rfl ?_
              exact ih2 mo3 lb3 (by exact hF3) (by exact hm3) (by intro h9; obtain ⟨e9, h8⟩ := hz3 h9; rw [e9]; rw [show y = (H : Int) by omega] at h8; exact h8) (by have hg3 := gsm_le0 (fun q => (hok _ hF3 q).1) 1024; rcases hm3 with h9 | h9; (rw [(hz3 h9).1]; omega); (have := ho3 h9; omega))
            ·
              refine G.go hX 2 (moW W H mth mbd mne mnw mmn mbx man mrs mrl mfl mpt mdf lb3 mbo mwn mwo mxo myo mor mco mro mpw mph mrk mrb mrf mfr mfm med map mwh, 20, [(0, gr 60), (1, gi mo3), (2, gi y), (3, gi 0)], []) rfl trivial ?_
              have lp20 : ∀ (n : Nat) (mo3 : Int) (x : Int) (lb3 : Int → Int), (0 ≤ x ∧ x ≤ W) → (F lb3) → (mo3 = 0 ∨ mo3 = 1) → (mo3 = 0 → lb3 = lb1 ∧ mfx W H mne mdf lb1 y x) → (mo3 = 1 → gsm lb3 1024 < gsm lb1 1024) → (W - x).toNat < n → G X mX8_spread ad 0 0 (moW W H mth mbd mne mnw mmn mbx man mrs mrl mfl mpt mdf lb3 mbo mwn mwo mxo myo mor mco mro mpw mph mrk mrb mrf mfr mfm med map mwh, 20, [(0, gr 60), (1, gi mo3), (2, gi y), (3, gi x)], []) := by
                intro n
                induction n with
                | zero => intro mo3 x lb3 hx hF3 hm3 hz3 ho3 hm9; exact absurd hm9 (Nat.not_lt_zero _)
                | succ n ih20 =>
                  intro mo3 x lb3 hx hF3 hm3 hz3 ho3 hm20
                  refine G.go hX 3 (moW W H mth mbd mne mnw mmn mbx man mrs mrl mfl mpt mdf lb3 mbo mwn mwo mxo myo mor mco mro mpw mph mrk mrb mrf mfr mfm med map mwh, 25, [(0, gr 60), (1, gi mo3), (2, gi y), (3, gi x)], [gi W, gi x]) rfl trivial ?_
                  refine g_icmp_ge hX 91 rfl rfl ⟨by omega, by omega⟩ ⟨by omega, by omega⟩ (fun b25 => ?_) (fun b25 => ?_)
                  ·
                    refine G.go hX 2 (moW W H mth mbd mne mnw mmn mbx man mrs mrl mfl mpt mdf lb3 mbo mwn mwo mxo myo mor mco mro mpw mph mrk mrb mrf mfr mfm med map mwh, 10, [(0, gr 60), (1, gi mo3), (2, gi (y + 1)), (3, gi x)], []) rfl trivial ?_
                    refine G.locs [(0, gr 60), (1, gi mo3), (2, gi (y + 1))] [0, 1, 2] rfl ?_
                    exact ih10 mo3 (y + 1) lb3 (by omega) (by exact hF3) (by exact hm3) (by exact fun h9 => ⟨(hz3 h9).1, fun a b u v k1 k2 k3 => (hz3 h9).2 a b u v k1 k2 (by omega)⟩) (by exact ho3) (by omega)
                  ·
                    refine G.go hX 6 (moW W H mth mbd mne mnw mmn mbx man mrs mrl mfl mpt mdf lb3 mbo mwn mwo mxo myo mor mco mro mpw mph mrk mrb mrf mfr mfm med map mwh, 36, [(0, gr 60), (1, gi mo3), (2, gi y), (3, gi x), (4, gi ((32 * y) + x))], []) rfl trivial ?_
                    have hb9 := hdf (32 * y + x)
                    refine G.go hX 4 (moW W H mth mbd mne mnw mmn mbx man mrs mrl mfl mpt mdf lb3 mbo mwn mwo mxo myo mor mco mro mpw mph mrk mrb mrf mfr mfm med map mwh, 43, [(0, gr 60), (1, gi mo3), (2, gi y), (3, gi x), (4, gi ((32 * y) + x))], [gi (mdf ((32 * y) + x))]) rfl ?_ ?_
                    · refine ⟨?_, trivial⟩
                      · omega
                    refine g_if_eq hX 85 rfl rfl ⟨by omega, by omega⟩ (fun b43 => ?_) (fun b43 => ?_)
                    ·
                      refine G.go hX 2 (moW W H mth mbd mne mnw mmn mbx man mrs mrl mfl mpt mdf lb3 mbo mwn mwo mxo myo mor mco mro mpw mph mrk mrb mrf mfr mfm med map mwh, 20, [(0, gr 60), (1, gi mo3), (2, gi y), (3, gi (x + 1)), (4, gi ((32 * y) + x))], []) rfl trivial ?_
                      refine G.locs [(0, gr 60), (1, gi mo3), (2, gi y), (3, gi (x + 1))] [0, 1, 2, 3] rfl ?_
                      exact ih20 mo3 (x + 1) lb3 (by omega) (by exact hF3) (by exact hm3) (by exact fun h9 => ⟨(hz3 h9).1, fun a b u v k1 k2 k3 k4 k5 k6 => by (by_cases e9 : b = y ∧ a = x; (rw [e9.1, e9.2] at k5; omega); exact (hz3 h9).2 a b u v k1 k2 (by omega) k4 k5 k6)⟩) (by exact ho3) (by omega)
                    ·
                      have hd1 : mdf (32 * y + x) = 1 := by omega
                      refine G.go hX 3 (moW W H mth mbd mne mnw mmn mbx man mrs mrl mfl mpt mdf lb3 mbo mwn mwo mxo myo mor mco mro mpw mph mrk mrb mrf mfr mfm med map mwh, 49, [(0, gr 60), (1, gi mo3), (2, gi y), (3, gi x), (4, gi ((32 * y) + x))], [gi y, gi x, gr 60]) rfl trivial ?_
                      refine G.callV (av := [gi x, gi y]) (o := 60) (st := []) hX rfl (fun l D cA => c_X8_leastNear l D cA W H mth mbd mne mnw mmn mbx man mrs mrl mfl mpt mdf lb3 mbo mwn mwo mxo myo mor mco mro mpw mph mrk mrb mrf mfr mfm med map mwh x y (by first | assumption | omega) (by first | assumption | omega) (by first | assumption | omega) (by first | assumption | omega) (hok _ hF3) ⟨by omega, by omega⟩ ⟨by omega, by omega⟩ hd1) (by decide +kernel) aX8_leastNear rfl rfl rfl ⟨rfl, rfl⟩ (by decide) (Nat.le_of_ble_eq_true rfl) [0, 1, 2, 3, 4, 5, 6, 7, 8, 9, 10, 11, 12, 13, 14, 15, 16, 17, 18, 19, 20, 21] [] [] rfl rfl rfl (fun r w' hp => ?_)
                      obtain ⟨le, rfl, rfl, hl1, hl2⟩ := hp
                      show G X mX8_spread ad 0 0 (moW W H mth mbd mne mnw mmn mbx man mrs mrl mfl mpt mdf lb3 mbo mwn mwo mxo myo mor mco mro mpw mph mrk mrb mrf mfr mfm med map mwh, 52, [(0, gr 60), (1, gi mo3), (2, gi y), (3, gi x), (4, gi ((32 * y) + x))], [gi le])
                      refine G.go hX 1 (moW W H mth mbd mne mnw mmn mbx man mrs mrl mfl mpt mdf lb3 mbo mwn mwo mxo myo mor mco mro mpw mph mrk mrb mrf mfr mfm med map mwh, 54, [(0, gr 60), (1, gi mo3), (2, gi y), (3, gi x), (4, gi ((32 * y) + x)), (5, gi le)], []) rfl trivial ?_
                      have hlp := hl2 x y ⟨⟨by omega, by omega⟩, ⟨by omega, by omega⟩, by omega, by omega⟩ hd1
                      have hlk := hok _ hF3 (32 * y + x)
                      obtain ⟨u9, v9, w1, w2, w3⟩ := hl1
                      have hlk9 := hok _ hF3 (32 * v9 + u9)
                      have hF5 : F (gu lb3 (32 * y + x) le) := by (rw [w3]; exact hst _ _ _ _ _ hF3 ⟨by omega, by omega⟩ ⟨by omega, by omega⟩ w1 hd1 w2)
                      refine G.go hX 1 (moW W H mth mbd mne mnw mmn mbx man mrs mrl mfl mpt mdf lb3 mbo mwn mwo mxo myo mor mco mro mpw mph mrk mrb mrf mfr mfm med map mwh, 55, [(0, gr 60), (1, gi mo3), (2, gi y), (3, gi x), (4, gi ((32 * y) + x)), (5, gi le)], [gi mo3]) rfl trivial ?_
                      have jn75 : G X mX8_spread ad 0 0 (moW W H mth mbd mne mnw mmn mbx man mrs mrl mfl mpt mdf lb3 mbo mwn mwo mxo myo mor mco mro mpw mph mrk mrb mrf mfr mfm med map mwh, 75, [(0, gr 60), (1, gi mo3), (2, gi y), (3, gi x), (4, gi ((32 * y) + x)), (5, gi le)], [gi (gb (mo3 = 1 ∨ le < lb3 (32 * y + x)))]) := by
                        refine G.go hX 8 (moW W H mth mbd mne mnw mmn mbx man mrs mrl mfl mpt mdf (gu lb3 ((32 * y) + x) le) mbo mwn mwo mxo myo mor mco mro mpw mph mrk mrb mrf mfr mfm med map mwh, 20, [(0, gr 60), (1, gi (gb (mo3 = 1 ∨ le < lb3 (32 * y + x)))), (2, gi y), (3, gi (x + 1)), (4, gi ((32 * y) + x)), (5, gi le)], []) rfl ?_ ?_
                        · refine ⟨?_, trivial⟩
                          · omega
                        refine G.locs [(0, gr 60), (1, gi (gb (mo3 = 1 ∨ le < lb3 (32 * y + x)))), (2, gi y), (3, gi (x + 1))] [0, 1, 2, 3] rfl ?_
                        exact ih20 (gb (mo3 = 1 ∨ le < lb3 (32 * y + x))) (x + 1) (gu lb3 ((32 * y) + x) le) (by omega) (by exact hF5) (by exact gb_01 _) (by exact fun h9 => by (have h8 := gb_0.mp h9; obtain ⟨e1, e2⟩ := hz3 (by omega); have e3 : le = lb3 (32 * y + x) := (by omega); refine ⟨by rw [e3, gu_id]; exact e1, fun a b u v k1 k2 k3 k4 k5 k6 => ?_⟩; by_cases e9 : b = y ∧ a = x; (have h7 := hl2 u v (by rw [e9.1, e9.2] at k4; exact k4) k6; rw [e9.1, e9.2]; rw [e1] at h7 e3; omega); exact e2 a b u v k1 k2 (by omega) k4 k5 k6)) (by exact fun h9 => by (have h8 := gb_1.mp h9; rw [gsm_gu, if_pos ⟨by omega, by omega⟩]; rcases hm3 with h7 | h7; (rw [(hz3 h7).1] at hlp h8 ⊢; omega); (have := ho3 h7; omega))) (by omega)
                      refine g_if_ne hX 70 rfl rfl ⟨by omega, by omega⟩ (fun b55 => ?_) (fun b55 => ?_)
                      ·
                        refine G.go hX 2 (moW W H mth mbd mne mnw mmn mbx man mrs mrl mfl mpt mdf lb3 mbo mwn mwo mxo myo mor mco mro mpw mph mrk mrb mrf mfr mfm med map mwh, 75, [(0, gr 60), (1, gi mo3), (2, gi y), (3, gi x), (4, gi ((32 * y) + x)), (5, gi le)], [gi 1]) rfl trivial ?_
                        refine G.eq (S' := (moW W H mth mbd mne mnw mmn mbx man mrs mrl mfl mpt mdf lb3 mbo mwn mwo mxo myo mor mco mro mpw mph mrk mrb mrf mfr mfm med map mwh, 75, [(0, gr 60), (1, gi mo3), (2, gi y), (3, gi x), (4, gi ((32 * y) + x)), (5, gi le)], [gi (gb (mo3 = 1 ∨ le < lb3 (32 * y + x)))])) ?_ jn75
                        rw [gb_t (show mo3 = 1 ∨ le < lb3 (32 * y + x) by omega)]
                      ·
                        refine G.go hX 5 (moW W H mth mbd mne mnw mmn mbx man mrs mrl mfl mpt mdf lb3 mbo mwn mwo mxo myo mor mco mro mpw mph mrk mrb mrf mfr mfm med map mwh, 67, [(0, gr 60), (1, gi mo3), (2, gi y), (3, gi x), (4, gi ((32 * y) + x)), (5, gi le)], [gi (lb3 ((32 * y) + x)), gi le]) rfl ?_ ?_
                        · refine ⟨?_, trivial⟩
                          · omega
                        refine g_icmp_ge hX 74 rfl rfl ⟨by omega, by omega⟩ ⟨by omega, by omega⟩ (fun b67 => ?_) (fun b67 => ?_)
                        ·
                          refine G.go hX 1 (moW W H mth mbd mne mnw mmn mbx man mrs mrl mfl mpt mdf lb3 mbo mwn mwo mxo myo mor mco mro mpw mph mrk mrb mrf mfr mfm med map mwh, 75, [(0, gr 60), (1, gi mo3), (2, gi y), (3, gi x), (4, gi ((32 * y) + x)), (5, gi le)], [gi 0]) rfl trivial ?_
                          refine G.eq (S' := (moW W H mth mbd mne mnw mmn mbx man mrs mrl mfl mpt mdf lb3 mbo mwn mwo mxo myo mor mco mro mpw mph mrk mrb mrf mfr mfm med map mwh, 75, [(0, gr 60), (1, gi mo3), (2, gi y), (3, gi x), (4, gi ((32 * y) + x)), (5, gi le)], [gi (gb (mo3 = 1 ∨ le < lb3 (32 * y + x)))])) ?_ jn75
                          rw [gb_f (show ¬ (mo3 = 1 ∨ le < lb3 (32 * y + x)) by omega)]
                        ·
                          refine G.go hX 2 (moW W H mth mbd mne mnw mmn mbx man mrs mrl mfl mpt mdf lb3 mbo mwn mwo mxo myo mor mco mro mpw mph mrk mrb mrf mfr mfm med map mwh, 75, [(0, gr 60), (1, gi mo3), (2, gi y), (3, gi x), (4, gi ((32 * y) + x)), (5, gi le)], [gi 1]) rfl trivial ?_
                          refine G.eq (S' := (moW W H mth mbd mne mnw mmn mbx man mrs mrl mfl mpt mdf lb3 mbo mwn mwo mxo myo mor mco mro mpw mph mrk mrb mrf mfr mfm med map mwh, 75, [(0, gr 60), (1, gi mo3), (2, gi y), (3, gi x), (4, gi ((32 * y) + x)), (5, gi le)], [gi (gb (mo3 = 1 ∨ le < lb3 (32 * y + x)))])) ?_ jn75
                          rw [gb_t (show mo3 = 1 ∨ le < lb3 (32 * y + x) by omega)]
              exact lp20 _ mo3 0 lb3 (by omega) (by exact hF3) (by exact hm3) (by exact hz3) (by exact ho3) (Nat.lt_succ_self _)
        exact lp10 _ 0 0 lb1 (by omega) (by exact hF1) (by exact Or.inl rfl) (by exact fun _ => ⟨rfl, fun a b u v _ h2 h3 => by omega⟩) (by intro h9; omega) (Nat.lt_succ_self _)
  exact lp2 _ 1 mlb (by exact hF) (by exact Or.inr rfl) (by intro h9; omega) (Nat.lt_succ_self _)
