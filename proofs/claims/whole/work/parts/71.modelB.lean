/-- box i of the model -/
def mrw (f : Int → Int) (i : Int) : Int → Int := fun k => f (4 * i + k)
def mgw (f : Int → Int) (b x1 x2 x3 x4 : Int) : Int → Int := gu (gu (gu (gu f (4 * b) (min x1 (f (4 * b)))) (4 * b + 1) (min x2 (f (4 * b + 1)))) (4 * b + 2) (max x3 (f (4 * b + 2)))) (4 * b + 3) (max x4 (f (4 * b + 3)))
def mms (pw : Int → Int) (p : Int) : Prop := ¬ (0 < pw p ↔ 0 < pw (20 + p))
theorem gb_ne {P Q : Prop} (h : ¬ gb P = gb Q) : ¬ (P ↔ Q) := fun h9 => h (gb_c h9)
theorem gb_eq {P Q : Prop} (h : gb P = gb Q) : P ↔ Q := ⟨fun h9 => gb_1.mp (by rw [← h]; exact gb_t h9), fun h9 => gb_1.mp (by rw [h]; exact gb_t h9)⟩
set_option maxHeartbeats 4000000 in
set_option maxRecDepth 100000 in
theorem c_X8_grow (l : Launch) (D : va_G) (cA : Nat → ClassId) (W : Nat) (H : Nat) (mth : Int) (mbd : Int) (mne : Int) (mnw : Int) (mmn : Int) (mbx : Int) (man : Int) (mrs : Int) (mrl : Int) (mfl : Int) (mpt : Int → Int) (mdf : Int → Int) (mlb : Int → Int) (mbo : Int → Int) (mwn : Int → Int) (mwo : Int → Int) (mxo : Int → Int) (myo : Int → Int) (mor : Int → Int) (mco : Int → Int) (mro : Int → Int) (mpw : Int → Int) (mph : Int → Int) (mrk : Int → Int) (mrb : Int → Int) (mrf : Int → Int) (mfr : Int → Int) (mfm : Int → Int) (med : Int → Int) (map : Int → Int) (mwh : Int → Int) (b : Int) (x1 : Int) (x2 : Int) (x3 : Int) (x4 : Int) (hb : 0 ≤ b ∧ b < 1024) (hbo : ∀ q : Int, inR (mbo q)) (h1 : inR x1) (h2 : inR x2) (h3 : inR x3) (h4 : inR x4) :
    gC l D cA yX8_grow mX8_grow none 0 0 [gr 60, gi b, gi x1, gi x2, gi x3, gi x4] (moW W H mth mbd mne mnw mmn mbx man mrs mrl mfl mpt mdf mlb mbo mwn mwo mxo myo mor mco mro mpw mph mrk mrb mrf mfr mfm med map mwh) (fun r9 w9 => r9 = none ∧ w9 = moW W H mth mbd mne mnw mmn mbx man mrs mrl mfl mpt mdf mlb (mgw mbo b x1 x2 x3 x4) mwn mwo mxo myo mor mco mro mpw mph mrk mrb mrf mfr mfm med map mwh) := by
  refine gC_of rfl kX8_grow rfl rfl (Nat.le_of_ble_eq_true rfl) (fun X ad hX hE => ?_)
  refine G.go hX 12 (moW W H mth mbd mne mnw mmn mbx man mrs mrl mfl mpt mdf mlb mbo mwn mwo mxo myo mor mco mro mpw mph mrk mrb mrf mfr mfm med map mwh, 19, [(0, gr 60), (1, gi b), (2, gi x1), (3, gi x2), (4, gi x3), (5, gi x4), (6, gi (4 * b))], [gi (mbo (4 * b)), gi x1, gi (4 * b), gr 64]) rfl ?_ ?_
  · refine ⟨?_, trivial⟩
    · omega
  have jn33 : G X mX8_grow ad 0 0 (moW W H mth mbd mne mnw mmn mbx man mrs mrl mfl mpt mdf mlb mbo mwn mwo mxo myo mor mco mro mpw mph mrk mrb mrf mfr mfm med map mwh, 33, [(0, gr 60), (1, gi b), (2, gi x1), (3, gi x2), (4, gi x3), (5, gi x4), (6, gi (4 * b))], [gi (min x1 (mbo (4 * b))), gi (4 * b), gr 64]) := by
    refine G.go hX 13 (moW W H mth mbd mne mnw mmn mbx man mrs mrl mfl mpt mdf mlb (gu mbo (4 * b) (min x1 (mbo (4 * b)))) mwn mwo mxo myo mor mco mro mpw mph mrk mrb mrf mfr mfm med map mwh, 52, [(0, gr 60), (1, gi b), (2, gi x1), (3, gi x2), (4, gi x3), (5, gi x4), (6, gi (4 * b))], [gi ((gu mbo (4 * b) (min x1 (mbo (4 * b)))) ((4 * b) + 1)), gi x2, gi ((4 * b) + 1), gr 64]) rfl ?_ ?_
    · refine ⟨?_, ?_, trivial⟩
      · omega
      · omega
    have jn68 : G X mX8_grow ad 0 0 (moW W H mth mbd mne mnw mmn mbx man mrs mrl mfl mpt mdf mlb (gu mbo (4 * b) (min x1 (mbo (4 * b)))) mwn mwo mxo myo mor mco mro mpw mph mrk mrb mrf mfr mfm med map mwh, 68, [(0, gr 60), (1, gi b), (2, gi x1), (3, gi x2), (4, gi x3), (5, gi x4), (6, gi (4 * b))], [gi (min x2 ((gu mbo (4 * b) (min x1 (mbo (4 * b)))) ((4 * b) + 1))), gi ((4 * b) + 1), gr 64]) := by
      refine G.go hX 13 (moW W H mth mbd mne mnw mmn mbx man mrs mrl mfl mpt mdf mlb (gu (gu mbo (4 * b) (min x1 (mbo (4 * b)))) ((4 * b) + 1) (min x2 ((gu mbo (4 * b) (min x1 (mbo (4 * b)))) ((4 * b) + 1)))) mwn mwo mxo myo mor mco mro mpw mph mrk mrb mrf mfr mfm med map mwh, 88, [(0, gr 60), (1, gi b), (2, gi x1), (3, gi x2), (4, gi x3), (5, gi x4), (6, gi (4 * b))], [gi ((gu (gu mbo (4 * b) (min x1 (mbo (4 * b)))) ((4 * b) + 1) (min x2 ((gu mbo (4 * b) (min x1 (mbo (4 * b)))) ((4 * b) + 1)))) ((4 * b) + 2)), gi x3, gi ((4 * b) + 2), gr 64]) rfl ?_ ?_
      · refine ⟨?_, ?_, trivial⟩
        · omega
        · omega
      have jn105 : G X mX8_grow ad 0 0 (moW W H mth mbd mne mnw mmn mbx man mrs mrl mfl mpt mdf mlb (gu (gu mbo (4 * b) (min x1 (mbo (4 * b)))) ((4 * b) + 1) (min x2 ((gu mbo (4 * b) (min x1 (mbo (4 * b)))) ((4 * b) + 1)))) mwn mwo mxo myo mor mco mro mpw mph mrk mrb mrf mfr mfm med map mwh, 105, [(0, gr 60), (1, gi b), (2, gi x1), (3, gi x2), (4, gi x3), (5, gi x4), (6, gi (4 * b))], [gi (max x3 ((gu (gu mbo (4 * b) (min x1 (mbo (4 * b)))) ((4 * b) + 1) (min x2 ((gu mbo (4 * b) (min x1 (mbo (4 * b)))) ((4 * b) + 1)))) ((4 * b) + 2))), gi ((4 * b) + 2), gr 64]) := by
        refine G.go hX 13 (moW W H mth mbd mne mnw mmn mbx man mrs mrl mfl mpt mdf mlb (gu (gu (gu mbo (4 * b) (min x1 (mbo (4 * b)))) ((4 * b) + 1) (min x2 ((gu mbo (4 * b) (min x1 (mbo (4 * b)))) ((4 * b) + 1)))) ((4 * b) + 2) (max x3 ((gu (gu mbo (4 * b) (min x1 (mbo (4 * b)))) ((4 * b) + 1) (min x2 ((gu mbo (4 * b) (min x1 (mbo (4 * b)))) ((4 * b) + 1)))) ((4 * b) + 2)))) mwn mwo mxo myo mor mco mro mpw mph mrk mrb mrf mfr mfm med map mwh, 125, [(0, gr 60), (1, gi b), (2, gi x1), (3, gi x2), (4, gi x3), (5, gi x4), (6, gi (4 * b))], [gi ((gu (gu (gu mbo (4 * b) (min x1 (mbo (4 * b)))) ((4 * b) + 1) (min x2 ((gu mbo (4 * b) (min x1 (mbo (4 * b)))) ((4 * b) + 1)))) ((4 * b) + 2) (max x3 ((gu (gu mbo (4 * b) (min x1 (mbo (4 * b)))) ((4 * b) + 1) (min x2 ((gu mbo (4 * b) (min x1 (mbo (4 * b)))) ((4 * b) + 1)))) ((4 * b) + 2)))) ((4 * b) + 3)), gi x4, gi ((4 * b) + 3), gr 64]) rfl ?_ ?_
        · refine ⟨?_, ?_, trivial⟩
          · omega
          · omega
        have jn142 : G X mX8_grow ad 0 0 (moW W H mth mbd mne mnw mmn mbx man mrs mrl mfl mpt mdf mlb (gu (gu (gu mbo (4 * b) (min x1 (mbo (4 * b)))) ((4 * b) + 1) (min x2 ((gu mbo (4 * b) (min x1 (mbo (4 * b)))) ((4 * b) + 1)))) ((4 * b) + 2) (max x3 ((gu (gu mbo (4 * b) (min x1 (mbo (4 * b)))) ((4 * b) + 1) (min x2 ((gu mbo (4 * b) (min x1 (mbo (4 * b)))) ((4 * b) + 1)))) ((4 * b) + 2)))) mwn mwo mxo myo mor mco mro mpw mph mrk mrb mrf mfr mfm med map mwh, 142, [(0, gr 60), (1, gi b), (2, gi x1), (3, gi x2), (4, gi x3), (5, gi x4), (6, gi (4 * b))], [gi (max x4 ((gu (gu (gu mbo (4 * b) (min x1 (mbo (4 * b)))) ((4 * b) + 1) (min x2 ((gu mbo (4 * b) (min x1 (mbo (4 * b)))) ((4 * b) + 1)))) ((4 * b) + 2) (max x3 ((gu (gu mbo (4 * b) (min x1 (mbo (4 * b)))) ((4 * b) + 1) (min x2 ((gu mbo (4 * b) (min x1 (mbo (4 * b)))) ((4 * b) + 1)))) ((4 * b) + 2)))) ((4 * b) + 3))), gi ((4 * b) + 3), gr 64]) := by
          refine G.go hX 1 (moW W H mth mbd mne mnw mmn mbx man mrs mrl mfl mpt mdf mlb (gu (gu (gu (gu mbo (4 * b) (min x1 (mbo (4 * b)))) ((4 * b) + 1) (min x2 ((gu mbo (4 * b) (min x1 (mbo (4 * b)))) ((4 * b) + 1)))) ((4 * b) + 2) (max x3 ((gu (gu mbo (4 * b) (min x1 (mbo (4 * b)))) ((4 * b) + 1) (min x2 ((gu mbo (4 * b) (min x1 (mbo (4 * b)))) ((4 * b) + 1)))) ((4 * b) + 2)))) ((4 * b) + 3) (max x4 ((gu (gu (gu mbo (4 * b) (min x1 (mbo (4 * b)))) ((4 * b) + 1) (min x2 ((gu mbo (4 * b) (min x1 (mbo (4 * b)))) ((4 * b) + 1)))) ((4 * b) + 2) (max x3 ((gu (gu mbo (4 * b) (min x1 (mbo (4 * b)))) ((4 * b) + 1) (min x2 ((gu mbo (4 * b) (min x1 (mbo (4 * b)))) ((4 * b) + 1)))) ((4 * b) + 2)))) ((4 * b) + 3)))) mwn mwo mxo myo mor mco mro mpw mph mrk mrb mrf mfr mfm med map mwh, 143, [(0, gr 60), (1, gi b), (2, gi x1), (3, gi x2), (4, gi x3), (5, gi x4), (6, gi (4 * b))], []) rfl ?_ ?_
          · refine ⟨?_, trivial⟩
            · omega
          have e1 : ∀ v, gu mbo (4 * b) v (4 * b + 1) = mbo (4 * b + 1) := fun v => gu_n _ _ (by omega)
          have e2 : ∀ v w, gu (gu mbo (4 * b) v) (4 * b + 1) w (4 * b + 2) = mbo (4 * b + 2) := fun v w => by rw [gu_n _ _ (by omega), gu_n _ _ (by omega)]
          have e3 : ∀ v w u, gu (gu (gu mbo (4 * b) v) (4 * b + 1) w) (4 * b + 2) u (4 * b + 3) = mbo (4 * b + 3) := fun v w u => by rw [gu_n _ _ (by omega), gu_n _ _ (by omega), gu_n _ _ (by omega)]
          exact g_vret hX hE rfl ⟨rfl, (by first | rfl | (unfold mgw; simp only [e1, e2, e3]))⟩
        refine g_icmp_le hX 133 rfl rfl (by first | exact gu_r (gu_r (gu_r hbo (gmn_r h1 (hbo _)).1) (gmn_r h2 (gu_r hbo (gmn_r h1 (hbo _)).1 _)).1) (gmn_r h3 (gu_r (gu_r hbo (gmn_r h1 (hbo _)).1) (gmn_r h2 (gu_r hbo (gmn_r h1 (hbo _)).1 _)).1 _)).2 _ | exact gu_r (gu_r hbo (gmn_r h1 (hbo _)).1) (gmn_r h2 (gu_r hbo (gmn_r h1 (hbo _)).1 _)).1 _ | exact gu_r hbo (gmn_r h1 (hbo _)).1 _ | exact hbo _ | assumption) (by first | exact gu_r (gu_r (gu_r hbo (gmn_r h1 (hbo _)).1) (gmn_r h2 (gu_r hbo (gmn_r h1 (hbo _)).1 _)).1) (gmn_r h3 (gu_r (gu_r hbo (gmn_r h1 (hbo _)).1) (gmn_r h2 (gu_r hbo (gmn_r h1 (hbo _)).1 _)).1 _)).2 _ | exact gu_r (gu_r hbo (gmn_r h1 (hbo _)).1) (gmn_r h2 (gu_r hbo (gmn_r h1 (hbo _)).1 _)).1 _ | exact gu_r hbo (gmn_r h1 (hbo _)).1 _ | exact hbo _ | assumption) (fun b125 => ?_) (fun b125 => ?_)
        ·
          refine G.go hX 6 (moW W H mth mbd mne mnw mmn mbx man mrs mrl mfl mpt mdf mlb (gu (gu (gu mbo (4 * b) (min x1 (mbo (4 * b)))) ((4 * b) + 1) (min x2 ((gu mbo (4 * b) (min x1 (mbo (4 * b)))) ((4 * b) + 1)))) ((4 * b) + 2) (max x3 ((gu (gu mbo (4 * b) (min x1 (mbo (4 * b)))) ((4 * b) + 1) (min x2 ((gu mbo (4 * b) (min x1 (mbo (4 * b)))) ((4 * b) + 1)))) ((4 * b) + 2)))) mwn mwo mxo myo mor mco mro mpw mph mrk mrb mrf mfr mfm med map mwh, 142, [(0, gr 60), (1, gi b), (2, gi x1), (3, gi x2), (4, gi x3), (5, gi x4), (6, gi (4 * b))], [gi ((gu (gu (gu mbo (4 * b) (min x1 (mbo (4 * b)))) ((4 * b) + 1) (min x2 ((gu mbo (4 * b) (min x1 (mbo (4 * b)))) ((4 * b) + 1)))) ((4 * b) + 2) (max x3 ((gu (gu mbo (4 * b) (min x1 (mbo (4 * b)))) ((4 * b) + 1) (min x2 ((gu mbo (4 * b) (min x1 (mbo (4 * b)))) ((4 * b) + 1)))) ((4 * b) + 2)))) ((4 * b) + 3)), gi ((4 * b) + 3), gr 64]) rfl ?_ ?_
          · refine ⟨?_, trivial⟩
            · omega
          refine G.eq (S' := (moW W H mth mbd mne mnw mmn mbx man mrs mrl mfl mpt mdf mlb (gu (gu (gu mbo (4 * b) (min x1 (mbo (4 * b)))) ((4 * b) + 1) (min x2 ((gu mbo (4 * b) (min x1 (mbo (4 * b)))) ((4 * b) + 1)))) ((4 * b) + 2) (max x3 ((gu (gu mbo (4 * b) (min x1 (mbo (4 * b)))) ((4 * b) + 1) (min x2 ((gu mbo (4 * b) (min x1 (mbo (4 * b)))) ((4 * b) + 1)))) ((4 * b) + 2)))) mwn mwo mxo myo mor mco mro mpw mph mrk mrb mrf mfr mfm med map mwh, 142, [(0, gr 60), (1, gi b), (2, gi x1), (3, gi x2), (4, gi x3), (5, gi x4), (6, gi (4 * b))], [gi (max x4 ((gu (gu (gu mbo (4 * b) (min x1 (mbo (4 * b)))) ((4 * b) + 1) (min x2 ((gu mbo (4 * b) (min x1 (mbo (4 * b)))) ((4 * b) + 1)))) ((4 * b) + 2) (max x3 ((gu (gu mbo (4 * b) (min x1 (mbo (4 * b)))) ((4 * b) + 1) (min x2 ((gu mbo (4 * b) (min x1 (mbo (4 * b)))) ((4 * b) + 1)))) ((4 * b) + 2)))) ((4 * b) + 3))), gi ((4 * b) + 3), gr 64])) ?_ jn142
          rw [show max x4 ((gu (gu (gu mbo (4 * b) (min x1 (mbo (4 * b)))) ((4 * b) + 1) (min x2 ((gu mbo (4 * b) (min x1 (mbo (4 * b)))) ((4 * b) + 1)))) ((4 * b) + 2) (max x3 ((gu (gu mbo (4 * b) (min x1 (mbo (4 * b)))) ((4 * b) + 1) (min x2 ((gu mbo (4 * b) (min x1 (mbo (4 * b)))) ((4 * b) + 1)))) ((4 * b) + 2)))) ((4 * b) + 3)) = (gu (gu (gu mbo (4 * b) (min x1 (mbo (4 * b)))) ((4 * b) + 1) (min x2 ((gu mbo (4 * b) (min x1 (mbo (4 * b)))) ((4 * b) + 1)))) ((4 * b) + 2) (max x3 ((gu (gu mbo (4 * b) (min x1 (mbo (4 * b)))) ((4 * b) + 1) (min x2 ((gu mbo (4 * b) (min x1 (mbo (4 * b)))) ((4 * b) + 1)))) ((4 * b) + 2)))) ((4 * b) + 3) by omega]
        ·
          refine G.go hX 2 (moW W H mth mbd mne mnw mmn mbx man mrs mrl mfl mpt mdf mlb (gu (gu (gu mbo (4 * b) (min x1 (mbo (4 * b)))) ((4 * b) + 1) (min x2 ((gu mbo (4 * b) (min x1 (mbo (4 * b)))) ((4 * b) + 1)))) ((4 * b) + 2) (max x3 ((gu (gu mbo (4 * b) (min x1 (mbo (4 * b)))) ((4 * b) + 1) (min x2 ((gu mbo (4 * b) (min x1 (mbo (4 * b)))) ((4 * b) + 1)))) ((4 * b) + 2)))) mwn mwo mxo myo mor mco mro mpw mph mrk mrb mrf mfr mfm med map mwh, 142, [(0, gr 60), (1, gi b), (2, gi x1), (3, gi x2), (4, gi x3), (5, gi x4), (6, gi (4 * b))], [gi x4, gi ((4 * b) + 3), gr 64]) rfl trivial ?_
          refine G.eq (S' := (moW W H mth mbd mne mnw mmn mbx man mrs mrl mfl mpt mdf mlb (gu (gu (gu mbo (4 * b) (min x1 (mbo (4 * b)))) ((4 * b) + 1) (min x2 ((gu mbo (4 * b) (min x1 (mbo (4 * b)))) ((4 * b) + 1)))) ((4 * b) + 2) (max x3 ((gu (gu mbo (4 * b) (min x1 (mbo (4 * b)))) ((4 * b) + 1) (min x2 ((gu mbo (4 * b) (min x1 (mbo (4 * b)))) ((4 * b) + 1)))) ((4 * b) + 2)))) mwn mwo mxo myo mor mco mro mpw mph mrk mrb mrf mfr mfm med map mwh, 142, [(0, gr 60), (1, gi b), (2, gi x1), (3, gi x2), (4, gi x3), (5, gi x4), (6, gi (4 * b))], [gi (max x4 ((gu (gu (gu mbo (4 * b) (min x1 (mbo (4 * b)))) ((4 * b) + 1) (min x2 ((gu mbo (4 * b) (min x1 (mbo (4 * b)))) ((4 * b) + 1)))) ((4 * b) + 2) (max x3 ((gu (gu mbo (4 * b) (min x1 (mbo (4 * b)))) ((4 * b) + 1) (min x2 ((gu mbo (4 * b) (min x1 (mbo (4 * b)))) ((4 * b) + 1)))) ((4 * b) + 2)))) ((4 * b) + 3))), gi ((4 * b) + 3), gr 64])) ?_ jn142
          rw [show max x4 ((gu (gu (gu mbo (4 * b) (min x1 (mbo (4 * b)))) ((4 * b) + 1) (min x2 ((gu mbo (4 * b) (min x1 (mbo (4 * b)))) ((4 * b) + 1)))) ((4 * b) + 2) (max x3 ((gu (gu mbo (4 * b) (min x1 (mbo (4 * b)))) ((4 * b) + 1) (min x2 ((gu mbo (4 * b) (min x1 (mbo (4 * b)))) ((4 * b) + 1)))) ((4 * b) + 2)))) ((4 * b) + 3)) = x4 by omega]
      refine g_icmp_le hX 96 rfl rfl (by first | exact gu_r (gu_r (gu_r hbo (gmn_r h1 (hbo _)).1) (gmn_r h2 (gu_r hbo (gmn_r h1 (hbo _)).1 _)).1) (gmn_r h3 (gu_r (gu_r hbo (gmn_r h1 (hbo _)).1) (gmn_r h2 (gu_r hbo (gmn_r h1 (hbo _)).1 _)).1 _)).2 _ | exact gu_r (gu_r hbo (gmn_r h1 (hbo _)).1) (gmn_r h2 (gu_r hbo (gmn_r h1 (hbo _)).1 _)).1 _ | exact gu_r hbo (gmn_r h1 (hbo _)).1 _ | exact hbo _ | assumption) (by first | exact gu_r (gu_r (gu_r hbo (gmn_r h1 (hbo _)).1) (gmn_r h2 (gu_r hbo (gmn_r h1 (hbo _)).1 _)).1) (gmn_r h3 (gu_r (gu_r hbo (gmn_r h1 (hbo _)).1) (gmn_r h2 (gu_r hbo (gmn_r h1 (hbo _)).1 _)).1 _)).2 _ | exact gu_r (gu_r hbo (gmn_r h1 (hbo _)).1) (gmn_r h2 (gu_r hbo (gmn_r h1 (hbo _)).1 _)).1 _ | exact gu_r hbo (gmn_r h1 (hbo _)).1 _ | exact hbo _ | assumption) (fun b88 => ?_) (fun b88 => ?_)
      ·
        refine G.go hX 6 (moW W H mth mbd mne mnw mmn mbx man mrs mrl mfl mpt mdf mlb (gu (gu mbo (4 * b) (min x1 (mbo (4 * b)))) ((4 * b) + 1) (min x2 ((gu mbo (4 * b) (min x1 (mbo (4 * b)))) ((4 * b) + 1)))) mwn mwo mxo myo mor mco mro mpw mph mrk mrb mrf mfr mfm med map mwh, 105, [(0, gr 60), (1, gi b), (2, gi x1), (3, gi x2), (4, gi x3), (5, gi x4), (6, gi (4 * b))], [gi ((gu (gu mbo (4 * b) (min x1 (mbo (4 * b)))) ((4 * b) + 1) (min x2 ((gu mbo (4 * b) (min x1 (mbo (4 * b)))) ((4 * b) + 1)))) ((4 * b) + 2)), gi ((4 * b) + 2), gr 64]) rfl ?_ ?_
        · refine ⟨?_, trivial⟩
          · omega
        refine G.eq (S' := (moW W H mth mbd mne mnw mmn mbx man mrs mrl mfl mpt mdf mlb (gu (gu mbo (4 * b) (min x1 (mbo (4 * b)))) ((4 * b) + 1) (min x2 ((gu mbo (4 * b) (min x1 (mbo (4 * b)))) ((4 * b) + 1)))) mwn mwo mxo myo mor mco mro mpw mph mrk mrb mrf mfr mfm med map mwh, 105, [(0, gr 60), (1, gi b), (2, gi x1), (3, gi x2), (4, gi x3), (5, gi x4), (6, gi (4 * b))], [gi (max x3 ((gu (gu mbo (4 * b) (min x1 (mbo (4 * b)))) ((4 * b) + 1) (min x2 ((gu mbo (4 * b) (min x1 (mbo (4 * b)))) ((4 * b) + 1)))) ((4 * b) + 2))), gi ((4 * b) + 2), gr 64])) ?_ jn105
        rw [show max x3 ((gu (gu mbo (4 * b) (min x1 (mbo (4 * b)))) ((4 * b) + 1) (min x2 ((gu mbo (4 * b) (min x1 (mbo (4 * b)))) ((4 * b) + 1)))) ((4 * b) + 2)) = (gu (gu mbo (4 * b) (min x1 (mbo (4 * b)))) ((4 * b) + 1) (min x2 ((gu mbo (4 * b) (min x1 (mbo (4 * b)))) ((4 * b) + 1)))) ((4 * b) + 2) by omega]
      ·
        refine G.go hX 2 (moW W H mth mbd mne mnw mmn mbx man mrs mrl mfl mpt mdf mlb (gu (gu mbo (4 * b) (min x1 (mbo (4 * b)))) ((4 * b) + 1) (min x2 ((gu mbo (4 * b) (min x1 (mbo (4 * b)))) ((4 * b) + 1)))) mwn mwo mxo myo mor mco mro mpw mph mrk mrb mrf mfr mfm med map mwh, 105, [(0, gr 60), (1, gi b), (2, gi x1), (3, gi x2), (4, gi x3), (5, gi x4), (6, gi (4 * b))], [gi x3, gi ((4 * b) + 2), gr 64]) rfl trivial ?_
        refine G.eq (S' := (moW W H mth mbd mne mnw mmn mbx man mrs mrl mfl mpt mdf mlb (gu (gu mbo (4 * b) (min x1 (mbo (4 * b)))) ((4 * b) + 1) (min x2 ((gu mbo (4 * b) (min x1 (mbo (4 * b)))) ((4 * b) + 1)))) mwn mwo mxo myo mor mco mro mpw mph mrk mrb mrf mfr mfm med map mwh, 105, [(0, gr 60), (1, gi b), (2, gi x1), (3, gi x2), (4, gi x3), (5, gi x4), (6, gi (4 * b))], [gi (max x3 ((gu (gu mbo (4 * b) (min x1 (mbo (4 * b)))) ((4 * b) + 1) (min x2 ((gu mbo (4 * b) (min x1 (mbo (4 * b)))) ((4 * b) + 1)))) ((4 * b) + 2))), gi ((4 * b) + 2), gr 64])) ?_ jn105
        rw [show max x3 ((gu (gu mbo (4 * b) (min x1 (mbo (4 * b)))) ((4 * b) + 1) (min x2 ((gu mbo (4 * b) (min x1 (mbo (4 * b)))) ((4 * b) + 1)))) ((4 * b) + 2)) = x3 by omega]
    refine g_icmp_ge hX 59 rfl rfl (by first | exact gu_r (gu_r (gu_r hbo (gmn_r h1 (hbo _)).1) (gmn_r h2 (gu_r hbo (gmn_r h1 (hbo _)).1 _)).1) (gmn_r h3 (gu_r (gu_r hbo (gmn_r h1 (hbo _)).1) (gmn_r h2 (gu_r hbo (gmn_r h1 (hbo _)).1 _)).1 _)).2 _ | exact gu_r (gu_r hbo (gmn_r h1 (hbo _)).1) (gmn_r h2 (gu_r hbo (gmn_r h1 (hbo _)).1 _)).1 _ | exact gu_r hbo (gmn_r h1 (hbo _)).1 _ | exact hbo _ | assumption) (by first | exact gu_r (gu_r (gu_r hbo (gmn_r h1 (hbo _)).1) (gmn_r h2 (gu_r hbo (gmn_r h1 (hbo _)).1 _)).1) (gmn_r h3 (gu_r (gu_r hbo (gmn_r h1 (hbo _)).1) (gmn_r h2 (gu_r hbo (gmn_r h1 (hbo _)).1 _)).1 _)).2 _ | exact gu_r (gu_r hbo (gmn_r h1 (hbo _)).1) (gmn_r h2 (gu_r hbo (gmn_r h1 (hbo _)).1 _)).1 _ | exact gu_r hbo (gmn_r h1 (hbo _)).1 _ | exact hbo _ | assumption) (fun b52 => ?_) (fun b52 => ?_)
    ·
      refine G.go hX 6 (moW W H mth mbd mne mnw mmn mbx man mrs mrl mfl mpt mdf mlb (gu mbo (4 * b) (min x1 (mbo (4 * b)))) mwn mwo mxo myo mor mco mro mpw mph mrk mrb mrf mfr mfm med map mwh, 68, [(0, gr 60), (1, gi b), (2, gi x1), (3, gi x2), (4, gi x3), (5, gi x4), (6, gi (4 * b))], [gi ((gu mbo (4 * b) (min x1 (mbo (4 * b)))) ((4 * b) + 1)), gi ((4 * b) + 1), gr 64]) rfl ?_ ?_
      · refine ⟨?_, trivial⟩
        · omega
      refine G.eq (S' := (moW W H mth mbd mne mnw mmn mbx man mrs mrl mfl mpt mdf mlb (gu mbo (4 * b) (min x1 (mbo (4 * b)))) mwn mwo mxo myo mor mco mro mpw mph mrk mrb mrf mfr mfm med map mwh, 68, [(0, gr 60), (1, gi b), (2, gi x1), (3, gi x2), (4, gi x3), (5, gi x4), (6, gi (4 * b))], [gi (min x2 ((gu mbo (4 * b) (min x1 (mbo (4 * b)))) ((4 * b) + 1))), gi ((4 * b) + 1), gr 64])) ?_ jn68
      rw [show min x2 ((gu mbo (4 * b) (min x1 (mbo (4 * b)))) ((4 * b) + 1)) = (gu mbo (4 * b) (min x1 (mbo (4 * b)))) ((4 * b) + 1) by omega]
    ·
      refine G.go hX 2 (moW W H mth mbd mne mnw mmn mbx man mrs mrl mfl mpt mdf mlb (gu mbo (4 * b) (min x1 (mbo (4 * b)))) mwn mwo mxo myo mor mco mro mpw mph mrk mrb mrf mfr mfm med map mwh, 68, [(0, gr 60), (1, gi b), (2, gi x1), (3, gi x2), (4, gi x3), (5, gi x4), (6, gi (4 * b))], [gi x2, gi ((4 * b) + 1), gr 64]) rfl trivial ?_
      refine G.eq (S' := (moW W H mth mbd mne mnw mmn mbx man mrs mrl mfl mpt mdf mlb (gu mbo (4 * b) (min x1 (mbo (4 * b)))) mwn mwo mxo myo mor mco mro mpw mph mrk mrb mrf mfr mfm med map mwh, 68, [(0, gr 60), (1, gi b), (2, gi x1), (3, gi x2), (4, gi x3), (5, gi x4), (6, gi (4 * b))], [gi (min x2 ((gu mbo (4 * b) (min x1 (mbo (4 * b)))) ((4 * b) + 1))), gi ((4 * b) + 1), gr 64])) ?_ jn68
      rw [show min x2 ((gu mbo (4 * b) (min x1 (mbo (4 * b)))) ((4 * b) + 1)) = x2 by omega]
  refine g_icmp_ge hX 26 rfl rfl (by first | exact gu_r (gu_r (gu_r hbo (gmn_r h1 (hbo _)).1) (gmn_r h2 (gu_r hbo (gmn_r h1 (hbo _)).1 _)).1) (gmn_r h3 (gu_r (gu_r hbo (gmn_r h1 (hbo _)).1) (gmn_r h2 (gu_r hbo (gmn_r h1 (hbo _)).1 _)).1 _)).2 _ | exact gu_r (gu_r hbo (gmn_r h1 (hbo _)).1) (gmn_r h2 (gu_r hbo (gmn_r h1 (hbo _)).1 _)).1 _ | exact gu_r hbo (gmn_r h1 (hbo _)).1 _ | exact hbo _ | assumption) (by first | exact gu_r (gu_r (gu_r hbo (gmn_r h1 (hbo _)).1) (gmn_r h2 (gu_r hbo (gmn_r h1 (hbo _)).1 _)).1) (gmn_r h3 (gu_r (gu_r hbo (gmn_r h1 (hbo _)).1) (gmn_r h2 (gu_r hbo (gmn_r h1 (hbo _)).1 _)).1 _)).2 _ | exact gu_r (gu_r hbo (gmn_r h1 (hbo _)).1) (gmn_r h2 (gu_r hbo (gmn_r h1 (hbo _)).1 _)).1 _ | exact gu_r hbo (gmn_r h1 (hbo _)).1 _ | exact hbo _ | assumption) (fun b19 => ?_) (fun b19 => ?_)
  ·
    refine G.go hX 4 (moW W H mth mbd mne mnw mmn mbx man mrs mrl mfl mpt mdf mlb mbo mwn mwo mxo myo mor mco mro mpw mph mrk mrb mrf mfr mfm med map mwh, 33, [(0, gr 60), (1, gi b), (2, gi x1), (3, gi x2), (4, gi x3), (5, gi x4), (6, gi (4 * b))], [gi (mbo (4 * b)), gi (4 * b), gr 64]) rfl ?_ ?_
    · refine ⟨?_, trivial⟩
      · omega
    refine G.eq (S' := (moW W H mth mbd mne mnw mmn mbx man mrs mrl mfl mpt mdf mlb mbo mwn mwo mxo myo mor mco mro mpw mph mrk mrb mrf mfr mfm med map mwh, 33, [(0, gr 60), (1, gi b), (2, gi x1), (3, gi x2), (4, gi x3), (5, gi x4), (6, gi (4 * b))], [gi (min x1 (mbo (4 * b))), gi (4 * b), gr 64])) ?_ jn33
    rw [show min x1 (mbo (4 * b)) = mbo (4 * b) by omega]
  ·
    refine G.go hX 2 (moW W H mth mbd mne mnw mmn mbx man mrs mrl mfl mpt mdf mlb mbo mwn mwo mxo myo mor mco mro mpw mph mrk mrb mrf mfr mfm med map mwh, 33, [(0, gr 60), (1, gi b), (2, gi x1), (3, gi x2), (4, gi x3), (5, gi x4), (6, gi (4 * b))], [gi x1, gi (4 * b), gr 64]) rfl trivial ?_
    refine G.eq (S' := (moW W H mth mbd mne mnw mmn mbx man mrs mrl mfl mpt mdf mlb mbo mwn mwo mxo myo mor mco mro mpw mph mrk mrb mrf mfr mfm med map mwh, 33, [(0, gr 60), (1, gi b), (2, gi x1), (3, gi x2), (4, gi x3), (5, gi x4), (6, gi (4 * b))], [gi (min x1 (mbo (4 * b))), gi (4 * b), gr 64])) ?_ jn33
    rw [show min x1 (mbo (4 * b)) = x1 by omega]
set_option maxHeartbeats 4000000 in
set_option maxRecDepth 100000 in
theorem c_X8_share (l : Launch) (D : va_G) (cA : Nat → ClassId) (W : Nat) (H : Nat) (mth : Int) (mbd : Int) (mne : Int) (mnw : Int) (mmn : Int) (mbx : Int) (man : Int) (mrs : Int) (mrl : Int) (mfl : Int) (mpt : Int → Int) (mdf : Int → Int) (mlb : Int → Int) (mbo : Int → Int) (mwn : Int → Int) (mwo : Int → Int) (mxo : Int → Int) (myo : Int → Int) (mor : Int → Int) (mco : Int → Int) (mro : Int → Int) (mpw : Int → Int) (mph : Int → Int) (mrk : Int → Int) (mrb : Int → Int) (mrf : Int → Int) (mfr : Int → Int) (mfm : Int → Int) (med : Int → Int) (map : Int → Int) (mwh : Int → Int) (a : Int) (b : Int) (ha : 0 ≤ a ∧ a < 1024) (hb : 0 ≤ b ∧ b < 1024) (hbo : ∀ q : Int, inR (mbo q)) :
    gC l D cA yX8_share mX8_share (some .boolean) 0 0 [gr 60, gi a, gi b] (moW W H mth mbd mne mnw mmn mbx man mrs mrl mfl mpt mdf mlb mbo mwn mwo mxo myo mor mco mro mpw mph mrk mrb mrf mfr mfm med map mwh) (fun r9 w9 => r9 = some (gi (gb (fsh (mrw mbo a) (mrw mbo b)))) ∧ w9 = moW W H mth mbd mne mnw mmn mbx man mrs mrl mfl mpt mdf mlb mbo mwn mwo mxo myo mor mco mro mpw mph mrk mrb mrf mfr mfm med map mwh) := by
  refine gC_of rfl kX8_share rfl rfl (Nat.le_of_ble_eq_true rfl) (fun X ad hX hE => ?_)
  refine G.go hX 14 (moW W H mth mbd mne mnw mmn mbx man mrs mrl mfl mpt mdf mlb mbo mwn mwo mxo myo mor mco mro mpw mph mrk mrb mrf mfr mfm med map mwh, 18, [(0, gr 60), (1, gi a), (2, gi b)], [gi (mbo (4 * b)), gi (mbo ((4 * a) + 2))]) rfl ?_ ?_
  · refine ⟨?_, ?_, trivial⟩
    · omega
    · omega
  have jn47 : G X mX8_share ad 0 0 (moW W H mth mbd mne mnw mmn mbx man mrs mrl mfl mpt mdf mlb mbo mwn mwo mxo myo mor mco mro mpw mph mrk mrb mrf mfr mfm med map mwh, 47, [(0, gr 60), (1, gi a), (2, gi b)], [gi (gb (mbo (4 * a + 2) < mbo (4 * b) ∨ mbo (4 * b + 2) < mbo (4 * a)))]) := by
    refine G.go hX 17 (moW W H mth mbd mne mnw mmn mbx man mrs mrl mfl mpt mdf mlb mbo mwn mwo mxo myo mor mco mro mpw mph mrk mrb mrf mfr mfm med map mwh, 68, [(0, gr 60), (1, gi a), (2, gi b), (3, gi (gb (mbo (4 * a + 2) < mbo (4 * b) ∨ mbo (4 * b + 2) < mbo (4 * a))))], [gi (mbo ((4 * b) + 1)), gi (mbo ((4 * a) + 3))]) rfl ?_ ?_
    · refine ⟨?_, ?_, trivial⟩
      · omega
      · omega
    have jn99 : G X mX8_share ad 0 0 (moW W H mth mbd mne mnw mmn mbx man mrs mrl mfl mpt mdf mlb mbo mwn mwo mxo myo mor mco mro mpw mph mrk mrb mrf mfr mfm med map mwh, 99, [(0, gr 60), (1, gi a), (2, gi b), (3, gi (gb (mbo (4 * a + 2) < mbo (4 * b) ∨ mbo (4 * b + 2) < mbo (4 * a))))], [gi (gb (mbo (4 * a + 3) < mbo (4 * b + 1) ∨ mbo (4 * b + 3) < mbo (4 * a + 1)))]) := by
      refine G.go hX 2 (moW W H mth mbd mne mnw mmn mbx man mrs mrl mfl mpt mdf mlb mbo mwn mwo mxo myo mor mco mro mpw mph mrk mrb mrf mfr mfm med map mwh, 102, [(0, gr 60), (1, gi a), (2, gi b), (3, gi (gb (mbo (4 * a + 2) < mbo (4 * b) ∨ mbo (4 * b + 2) < mbo (4 * a)))), (4, gi (gb (mbo (4 * a + 3) < mbo (4 * b + 1) ∨ mbo (4 * b + 3) < mbo (4 * a + 1))))], [gi (gb (mbo (4 * a + 2) < mbo (4 * b) ∨ mbo (4 * b + 2) < mbo (4 * a)))]) rfl trivial ?_
      refine g_if_ne hX 114 rfl rfl (gb_r _) (fun b102 => ?_) (fun b102 => ?_)
      ·
        have b102 := gb_n0 b102
        refine G.go hX 1 (moW W H mth mbd mne mnw mmn mbx man mrs mrl mfl mpt mdf mlb mbo mwn mwo mxo myo mor mco mro mpw mph mrk mrb mrf mfr mfm med map mwh, 115, [(0, gr 60), (1, gi a), (2, gi b), (3, gi (gb (mbo (4 * a + 2) < mbo (4 * b) ∨ mbo (4 * b + 2) < mbo (4 * a)))), (4, gi (gb (mbo (4 * a + 3) < mbo (4 * b + 1) ∨ mbo (4 * b + 3) < mbo (4 * a + 1))))], [gi 0]) rfl trivial ?_
        exact g_zret hX hE rfl (Or.inl rfl) ⟨(congrArg (fun z => some (gi z)) (gb_f (by unfold fsh mrw; simp only [Int.add_zero]; omega)).symm), rfl⟩
      ·
        have b102 := gb_nn b102
        refine G.go hX 1 (moW W H mth mbd mne mnw mmn mbx man mrs mrl mfl mpt mdf mlb mbo mwn mwo mxo myo mor mco mro mpw mph mrk mrb mrf mfr mfm med map mwh, 107, [(0, gr 60), (1, gi a), (2, gi b), (3, gi (gb (mbo (4 * a + 2) < mbo (4 * b) ∨ mbo (4 * b + 2) < mbo (4 * a)))), (4, gi (gb (mbo (4 * a + 3) < mbo (4 * b + 1) ∨ mbo (4 * b + 3) < mbo (4 * a + 1))))], [gi (gb (mbo (4 * a + 3) < mbo (4 * b + 1) ∨ mbo (4 * b + 3) < mbo (4 * a + 1)))]) rfl trivial ?_
        refine g_if_ne hX 114 rfl rfl (gb_r _) (fun b107 => ?_) (fun b107 => ?_)
        ·
          have b107 := gb_n0 b107
          refine G.go hX 1 (moW W H mth mbd mne mnw mmn mbx man mrs mrl mfl mpt mdf mlb mbo mwn mwo mxo myo mor mco mro mpw mph mrk mrb mrf mfr mfm med map mwh, 115, [(0, gr 60), (1, gi a), (2, gi b), (3, gi (gb (mbo (4 * a + 2) < mbo (4 * b) ∨ mbo (4 * b + 2) < mbo (4 * a)))), (4, gi (gb (mbo (4 * a + 3) < mbo (4 * b + 1) ∨ mbo (4 * b + 3) < mbo (4 * a + 1))))], [gi 0]) rfl trivial ?_
          exact g_zret hX hE rfl (Or.inl rfl) ⟨(congrArg (fun z => some (gi z)) (gb_f (by unfold fsh mrw; simp only [Int.add_zero]; omega)).symm), rfl⟩
        ·
          have b107 := gb_nn b107
          refine G.go hX 2 (moW W H mth mbd mne mnw mmn mbx man mrs mrl mfl mpt mdf mlb mbo mwn mwo mxo myo mor mco mro mpw mph mrk mrb mrf mfr mfm med map mwh, 115, [(0, gr 60), (1, gi a), (2, gi b), (3, gi (gb (mbo (4 * a + 2) < mbo (4 * b) ∨ mbo (4 * b + 2) < mbo (4 * a)))), (4, gi (gb (mbo (4 * a + 3) < mbo (4 * b + 1) ∨ mbo (4 * b + 3) < mbo (4 * a + 1))))], [gi 1]) rfl trivial ?_
          exact g_zret hX hE rfl (Or.inr rfl) ⟨(congrArg (fun z => some (gi z)) (gb_t (by unfold fsh mrw; simp only [Int.add_zero]; omega)).symm), rfl⟩
    refine g_icmp_lt hX 94 rfl rfl (hbo _) (hbo _) (fun b68 => ?_) (fun b68 => ?_)
    ·
      refine G.go hX 2 (moW W H mth mbd mne mnw mmn mbx man mrs mrl mfl mpt mdf mlb mbo mwn mwo mxo myo mor mco mro mpw mph mrk mrb mrf mfr mfm med map mwh, 99, [(0, gr 60), (1, gi a), (2, gi b), (3, gi (gb (mbo (4 * a + 2) < mbo (4 * b) ∨ mbo (4 * b + 2) < mbo (4 * a))))], [gi 1]) rfl trivial ?_
      refine G.eq (S' := (moW W H mth mbd mne mnw mmn mbx man mrs mrl mfl mpt mdf mlb mbo mwn mwo mxo myo mor mco mro mpw mph mrk mrb mrf mfr mfm med map mwh, 99, [(0, gr 60), (1, gi a), (2, gi b), (3, gi (gb (mbo (4 * a + 2) < mbo (4 * b) ∨ mbo (4 * b + 2) < mbo (4 * a))))], [gi (gb (mbo (4 * a + 3) < mbo (4 * b + 1) ∨ mbo (4 * b + 3) < mbo (4 * a + 1)))])) ?_ jn99
      rw [gb_t (show mbo (4 * a + 3) < mbo (4 * b + 1) ∨ mbo (4 * b + 3) < mbo (4 * a + 1) by omega)]
    ·
      refine G.go hX 16 (moW W H mth mbd mne mnw mmn mbx man mrs mrl mfl mpt mdf mlb mbo mwn mwo mxo myo mor mco mro mpw mph mrk mrb mrf mfr mfm med map mwh, 91, [(0, gr 60), (1, gi a), (2, gi b), (3, gi (gb (mbo (4 * a + 2) < mbo (4 * b) ∨ mbo (4 * b + 2) < mbo (4 * a))))], [gi (mbo ((4 * a) + 1)), gi (mbo ((4 * b) + 3))]) rfl ?_ ?_
      · refine ⟨?_, ?_, trivial⟩
        · omega
        · omega
      refine g_icmp_ge hX 98 rfl rfl (hbo _) (hbo _) (fun b91 => ?_) (fun b91 => ?_)
      ·
        refine G.go hX 1 (moW W H mth mbd mne mnw mmn mbx man mrs mrl mfl mpt mdf mlb mbo mwn mwo mxo myo mor mco mro mpw mph mrk mrb mrf mfr mfm med map mwh, 99, [(0, gr 60), (1, gi a), (2, gi b), (3, gi (gb (mbo (4 * a + 2) < mbo (4 * b) ∨ mbo (4 * b + 2) < mbo (4 * a))))], [gi 0]) rfl trivial ?_
        refine G.eq (S' := (moW W H mth mbd mne mnw mmn mbx man mrs mrl mfl mpt mdf mlb mbo mwn mwo mxo myo mor mco mro mpw mph mrk mrb mrf mfr mfm med map mwh, 99, [(0, gr 60), (1, gi a), (2, gi b), (3, gi (gb (mbo (4 * a + 2) < mbo (4 * b) ∨ mbo (4 * b + 2) < mbo (4 * a))))], [gi (gb (mbo (4 * a + 3) < mbo (4 * b + 1) ∨ mbo (4 * b + 3) < mbo (4 * a + 1)))])) ?_ jn99
        rw [gb_f (show ¬ (mbo (4 * a + 3) < mbo (4 * b + 1) ∨ mbo (4 * b + 3) < mbo (4 * a + 1)) by omega)]
      ·
        refine G.go hX 2 (moW W H mth mbd mne mnw mmn mbx man mrs mrl mfl mpt mdf mlb mbo mwn mwo mxo myo mor mco mro mpw mph mrk mrb mrf mfr mfm med map mwh, 99, [(0, gr 60), (1, gi a), (2, gi b), (3, gi (gb (mbo (4 * a + 2) < mbo (4 * b) ∨ mbo (4 * b + 2) < mbo (4 * a))))], [gi 1]) rfl trivial ?_
        refine G.eq (S' := (moW W H mth mbd mne mnw mmn mbx man mrs mrl mfl mpt mdf mlb mbo mwn mwo mxo myo mor mco mro mpw mph mrk mrb mrf mfr mfm med map mwh, 99, [(0, gr 60), (1, gi a), (2, gi b), (3, gi (gb (mbo (4 * a + 2) < mbo (4 * b) ∨ mbo (4 * b + 2) < mbo (4 * a))))], [gi (gb (mbo (4 * a + 3) < mbo (4 * b + 1) ∨ mbo (4 * b + 3) < mbo (4 * a + 1)))])) ?_ jn99
        rw [gb_t (show mbo (4 * a + 3) < mbo (4 * b + 1) ∨ mbo (4 * b + 3) < mbo (4 * a + 1) by omega)]
  refine g_icmp_lt hX 42 rfl rfl (hbo _) (hbo _) (fun b18 => ?_) (fun b18 => ?_)
  ·
    refine G.go hX 2 (moW W H mth mbd mne mnw mmn mbx man mrs mrl mfl mpt mdf mlb mbo mwn mwo mxo myo mor mco mro mpw mph mrk mrb mrf mfr mfm med map mwh, 47, [(0, gr 60), (1, gi a), (2, gi b)], [gi 1]) rfl trivial ?_
    refine G.eq (S' := (moW W H mth mbd mne mnw mmn mbx man mrs mrl mfl mpt mdf mlb mbo mwn mwo mxo myo mor mco mro mpw mph mrk mrb mrf mfr mfm med map mwh, 47, [(0, gr 60), (1, gi a), (2, gi b)], [gi (gb (mbo (4 * a + 2) < mbo (4 * b) ∨ mbo (4 * b + 2) < mbo (4 * a)))])) ?_ jn47
    rw [gb_t (show mbo (4 * a + 2) < mbo (4 * b) ∨ mbo (4 * b + 2) < mbo (4 * a) by omega)]
  ·
    refine G.go hX 14 (moW W H mth mbd mne mnw mmn mbx man mrs mrl mfl mpt mdf mlb mbo mwn mwo mxo myo mor mco mro mpw mph mrk mrb mrf mfr mfm med map mwh, 39, [(0, gr 60), (1, gi a), (2, gi b)], [gi (mbo (4 * a)), gi (mbo ((4 * b) + 2))]) rfl ?_ ?_
    · refine ⟨?_, ?_, trivial⟩
      · omega
      · omega
    refine g_icmp_ge hX 46 rfl rfl (hbo _) (hbo _) (fun b39 => ?_) (fun b39 => ?_)
    ·
      refine G.go hX 1 (moW W H mth mbd mne mnw mmn mbx man mrs mrl mfl mpt mdf mlb mbo mwn mwo mxo myo mor mco mro mpw mph mrk mrb mrf mfr mfm med map mwh, 47, [(0, gr 60), (1, gi a), (2, gi b)], [gi 0]) rfl trivial ?_
      refine G.eq (S' := (moW W H mth mbd mne mnw mmn mbx man mrs mrl mfl mpt mdf mlb mbo mwn mwo mxo myo mor mco mro mpw mph mrk mrb mrf mfr mfm med map mwh, 47, [(0, gr 60), (1, gi a), (2, gi b)], [gi (gb (mbo (4 * a + 2) < mbo (4 * b) ∨ mbo (4 * b + 2) < mbo (4 * a)))])) ?_ jn47
      rw [gb_f (show ¬ (mbo (4 * a + 2) < mbo (4 * b) ∨ mbo (4 * b + 2) < mbo (4 * a)) by omega)]
    ·
      refine G.go hX 2 (moW W H mth mbd mne mnw mmn mbx man mrs mrl mfl mpt mdf mlb mbo mwn mwo mxo myo mor mco mro mpw mph mrk mrb mrf mfr mfm med map mwh, 47, [(0, gr 60), (1, gi a), (2, gi b)], [gi 1]) rfl trivial ?_
      refine G.eq (S' := (moW W H mth mbd mne mnw mmn mbx man mrs mrl mfl mpt mdf mlb mbo mwn mwo mxo myo mor mco mro mpw mph mrk mrb mrf mfr mfm med map mwh, 47, [(0, gr 60), (1, gi a), (2, gi b)], [gi (gb (mbo (4 * a + 2) < mbo (4 * b) ∨ mbo (4 * b + 2) < mbo (4 * a)))])) ?_ jn47
      rw [gb_t (show mbo (4 * a + 2) < mbo (4 * b) ∨ mbo (4 * b + 2) < mbo (4 * a) by omega)]
set_option maxHeartbeats 4000000 in
set_option maxRecDepth 100000 in
theorem c_X8_mostPlaces (l : Launch) (D : va_G) (cA : Nat → ClassId) (W : Nat) (H : Nat) (mth : Int) (mbd : Int) (mne : Int) (mnw : Int) (mmn : Int) (mbx : Int) (man : Int) (mrs : Int) (mrl : Int) (mfl : Int) (mpt : Int → Int) (mdf : Int → Int) (mlb : Int → Int) (mbo : Int → Int) (mwn : Int → Int) (mwo : Int → Int) (mxo : Int → Int) (myo : Int → Int) (mor : Int → Int) (mco : Int → Int) (mro : Int → Int) (mpw : Int → Int) (mph : Int → Int) (mrk : Int → Int) (mrb : Int → Int) (mrf : Int → Int) (mfr : Int → Int) (mfm : Int → Int) (med : Int → Int) (map : Int → Int) (mwh : Int → Int) (hbx : 0 ≤ mbx ∧ mbx ≤ 1024) (hb : ∀ i : Int, 0 ≤ i → i < mbx → 0 ≤ mbo (4 * i) ∧ mbo (4 * i) ≤ mbo (4 * i + 2) ∧ mbo (4 * i + 2) ≤ 31 ∧ 0 ≤ mbo (4 * i + 1) ∧ mbo (4 * i + 1) ≤ mbo (4 * i + 3) ∧ mbo (4 * i + 3) ≤ 31) :
    gC l D cA yX8_mostPlaces mX8_mostPlaces (some .int) 0 0 [gr 60] (moW W H mth mbd mne mnw mmn mbx man mrs mrl mfl mpt mdf mlb mbo mwn mwo mxo myo mor mco mro mpw mph mrk mrb mrf mfr mfm med map mwh) (fun r9 w9 => r9 = some (gi (gmx (fun i => (mbo (4 * i + 2) - mbo (4 * i) + 1) * (mbo (4 * i + 3) - mbo (4 * i + 1) + 1)) mbx.toNat)) ∧ w9 = moW W H mth mbd mne mnw mmn mbx man mrs mrl mfl mpt mdf mlb mbo mwn mwo mxo myo mor mco mro mpw mph mrk mrb mrf mfr mfm med map mwh) := by
  refine gC_of rfl kX8_mostPlaces rfl rfl (Nat.le_of_ble_eq_true rfl) (fun X ad hX hE => ?_)
  refine G.go hX 4 (moW W H mth mbd mne mnw mmn mbx man mrs mrl mfl mpt mdf mlb mbo mwn mwo mxo myo mor mco mro mpw mph mrk mrb mrf mfr mfm med map mwh, 4, [(0, gr 60), (1, gi 0), (2, gi 0)], []) rfl trivial ?_
  have lp4 : ∀ (n : Nat) (lg : Int) (i : Int), (0 ≤ i ∧ i ≤ mbx) → (lg = gmx (fun i => (mbo (4 * i + 2) - mbo (4 * i) + 1) * (mbo (4 * i + 3) - mbo (4 * i + 1) + 1)) i.toNat) → (0 ≤ lg ∧ lg ≤ 1024) → (mbx - i).toNat < n → G X mX8_mostPlaces ad 0 0 (moW W H mth mbd mne mnw mmn mbx man mrs mrl mfl mpt mdf mlb mbo mwn mwo mxo myo mor mco mro mpw mph mrk mrb mrf mfr mfm med map mwh, 4, [(0, gr 60), (1, gi lg), (2, gi i)], []) := by
    intro n
    induction n with
    | zero => intro lg i hi1 hlg hlb hm9; exact absurd hm9 (Nat.not_lt_zero _)
    | succ n ih4 =>
      intro lg i hi1 hlg hlb hm4
      refine G.go hX 3 (moW W H mth mbd mne mnw mmn mbx man mrs mrl mfl mpt mdf mlb mbo mwn mwo mxo myo mor mco mro mpw mph mrk mrb mrf mfr mfm med map mwh, 9, [(0, gr 60), (1, gi lg), (2, gi i)], [gi mbx, gi i]) rfl trivial ?_
      refine g_icmp_ge hX 75 rfl rfl ⟨by omega, by omega⟩ ⟨by omega, by omega⟩ (fun b9 => ?_) (fun b9 => ?_)
      ·
        refine G.go hX 1 (moW W H mth mbd mne mnw mmn mbx man mrs mrl mfl mpt mdf mlb mbo mwn mwo mxo myo mor mco mro mpw mph mrk mrb mrf mfr mfm med map mwh, 76, [(0, gr 60), (1, gi lg), (2, gi i)], [gi lg]) rfl trivial ?_
        exact g_iret hX hE rfl ⟨(congrArg (fun z => some (gi z)) (by first | rfl | (rw [hlg, show i = mbx by omega]))), rfl⟩
      ·
        have hbi := hb i (by omega) (by omega)
        have hmu := gmul_le (a := mbo (4 * i + 2) - mbo (4 * i) + 1) (b := mbo (4 * i + 3) - mbo (4 * i + 1) + 1) (c := 32) (d := 32) (by omega) (by omega) (by omega) (by omega)
        refine G.go hX 40 (moW W H mth mbd mne mnw mmn mbx man mrs mrl mfl mpt mdf mlb mbo mwn mwo mxo myo mor mco mro mpw mph mrk mrb mrf mfr mfm med map mwh, 60, [(0, gr 60), (1, gi lg), (2, gi i), (3, gi ((((mbo ((4 * i) + 2)) - (mbo (4 * i))) + 1) * (((mbo ((4 * i) + 3)) - (mbo ((4 * i) + 1))) + 1)))], [gi lg, gi ((((mbo ((4 * i) + 2)) - (mbo (4 * i))) + 1) * (((mbo ((4 * i) + 3)) - (mbo ((4 * i) + 1))) + 1))]) rfl ?_ ?_
        · refine ⟨?_, ?_, ?_, ?_, trivial⟩
          · omega
          · omega
          · omega
          · omega
        have jn68 : G X mX8_mostPlaces ad 0 0 (moW W H mth mbd mne mnw mmn mbx man mrs mrl mfl mpt mdf mlb mbo mwn mwo mxo myo mor mco mro mpw mph mrk mrb mrf mfr mfm med map mwh, 68, [(0, gr 60), (1, gi lg), (2, gi i), (3, gi ((((mbo ((4 * i) + 2)) - (mbo (4 * i))) + 1) * (((mbo ((4 * i) + 3)) - (mbo ((4 * i) + 1))) + 1)))], [gi (max lg ((((mbo ((4 * i) + 2)) - (mbo (4 * i))) + 1) * (((mbo ((4 * i) + 3)) - (mbo ((4 * i) + 1))) + 1)))]) := by
          refine G.go hX 3 (moW W H mth mbd mne mnw mmn mbx man mrs mrl mfl mpt mdf mlb mbo mwn mwo mxo myo mor mco mro mpw mph mrk mrb mrf mfr mfm med map mwh, 4, [(0, gr 60), (1, gi (max lg ((((mbo ((4 * i) + 2)) - (mbo (4 * i))) + 1) * (((mbo ((4 * i) + 3)) - (mbo ((4 * i) + 1))) + 1)))), (2, gi (i + 1)), (3, gi ((((mbo ((4 * i) + 2)) - (mbo (4 * i))) + 1) * (((mbo ((4 * i) + 3)) - (mbo ((4 * i) + 1))) + 1)))], []) rfl trivial ?_
          refine G.locs [(0, gr 60), (1, gi (max lg ((((mbo ((4 * i) + 2)) - (mbo (4 * i))) + 1) * (((mbo ((4 * i) + 3)) - (mbo ((4 * i) + 1))) + 1)))), (2, gi (i + 1))] [0, 1, 2] rfl ?_
          exact ih4 (max lg ((((mbo ((4 * i) + 2)) - (mbo (4 * i))) + 1) * (((mbo ((4 * i) + 3)) - (mbo ((4 * i) + 1))) + 1))) (i + 1) (by omega) (by rw [hlg, show (i + 1).toNat = i.toNat + 1 by omega]; show max _ _ = max _ _; rw [show ((i.toNat : Nat) : Int) = i by omega]) (by omega) (by omega)
        refine g_icmp_le hX 67 rfl rfl ⟨by omega, by omega⟩ ⟨by omega, by omega⟩ (fun b60 => ?_) (fun b60 => ?_)
        ·
          refine G.go hX 1 (moW W H mth mbd mne mnw mmn mbx man mrs mrl mfl mpt mdf mlb mbo mwn mwo mxo myo mor mco mro mpw mph mrk mrb mrf mfr mfm med map mwh, 68, [(0, gr 60), (1, gi lg), (2, gi i), (3, gi ((((mbo ((4 * i) + 2)) - (mbo (4 * i))) + 1) * (((mbo ((4 * i) + 3)) - (mbo ((4 * i) + 1))) + 1)))], [gi lg]) rfl trivial ?_
          refine G.eq (S' := (moW W H mth mbd mne mnw mmn mbx man mrs mrl mfl mpt mdf mlb mbo mwn mwo mxo myo mor mco mro mpw mph mrk mrb mrf mfr mfm med map mwh, 68, [(0, gr 60), (1, gi lg), (2, gi i), (3, gi ((((mbo ((4 * i) + 2)) - (mbo (4 * i))) + 1) * (((mbo ((4 * i) + 3)) - (mbo ((4 * i) + 1))) + 1)))], [gi (max lg ((((mbo ((4 * i) + 2)) - (mbo (4 * i))) + 1) * (((mbo ((4 * i) + 3)) - (mbo ((4 * i) + 1))) + 1)))])) ?_ jn68
          rw [show max lg ((((mbo ((4 * i) + 2)) - (mbo (4 * i))) + 1) * (((mbo ((4 * i) + 3)) - (mbo ((4 * i) + 1))) + 1)) = lg by omega]
        ·
          refine G.go hX 2 (moW W H mth mbd mne mnw mmn mbx man mrs mrl mfl mpt mdf mlb mbo mwn mwo mxo myo mor mco mro mpw mph mrk mrb mrf mfr mfm med map mwh, 68, [(0, gr 60), (1, gi lg), (2, gi i), (3, gi ((((mbo ((4 * i) + 2)) - (mbo (4 * i))) + 1) * (((mbo ((4 * i) + 3)) - (mbo ((4 * i) + 1))) + 1)))], [gi ((((mbo ((4 * i) + 2)) - (mbo (4 * i))) + 1) * (((mbo ((4 * i) + 3)) - (mbo ((4 * i) + 1))) + 1))]) rfl trivial ?_
          refine G.eq (S' := (moW W H mth mbd mne mnw mmn mbx man mrs mrl mfl mpt mdf mlb mbo mwn mwo mxo myo mor mco mro mpw mph mrk mrb mrf mfr mfm med map mwh, 68, [(0, gr 60), (1, gi lg), (2, gi i), (3, gi ((((mbo ((4 * i) + 2)) - (mbo (4 * i))) + 1) * (((mbo ((4 * i) + 3)) - (mbo ((4 * i) + 1))) + 1)))], [gi (max lg ((((mbo ((4 * i) + 2)) - (mbo (4 * i))) + 1) * (((mbo ((4 * i) + 3)) - (mbo ((4 * i) + 1))) + 1)))])) ?_ jn68
          rw [show max lg ((((mbo ((4 * i) + 2)) - (mbo (4 * i))) + 1) * (((mbo ((4 * i) + 3)) - (mbo ((4 * i) + 1))) + 1)) = (((mbo ((4 * i) + 2)) - (mbo (4 * i))) + 1) * (((mbo ((4 * i) + 3)) - (mbo ((4 * i) + 1))) + 1) by omega]
  exact lp4 _ 0 0 (by omega) (by rfl) (by omega) (Nat.lt_succ_self _)
set_option maxHeartbeats 4000000 in
set_option maxRecDepth 100000 in
theorem c_X8_countRows (l : Launch) (D : va_G) (cA : Nat → ClassId) (W : Nat) (H : Nat) (mth : Int) (mbd : Int) (mne : Int) (mnw : Int) (mmn : Int) (mbx : Int) (man : Int) (mrs : Int) (mrl : Int) (mfl : Int) (mpt : Int → Int) (mdf : Int → Int) (mlb : Int → Int) (mbo : Int → Int) (mwn : Int → Int) (mwo : Int → Int) (mxo : Int → Int) (myo : Int → Int) (mor : Int → Int) (mco : Int → Int) (mro : Int → Int) (mpw : Int → Int) (mph : Int → Int) (mrk : Int → Int) (mrb : Int → Int) (mrf : Int → Int) (mfr : Int → Int) (mfm : Int → Int) (med : Int → Int) (map : Int → Int) (mwh : Int → Int) (o : Int) (t : Int) (hrs : 0 ≤ mrs ∧ mrs ≤ 80) (hro : ∀ q : Int, inR (mro q)) (ho : inR o) (ht : inR t) :
    gC l D cA yX8_countRows mX8_countRows (some .int) 0 0 [gr 60, gi o, gi t] (moW W H mth mbd mne mnw mmn mbx man mrs mrl mfl mpt mdf mlb mbo mwn mwo mxo myo mor mco mro mpw mph mrk mrb mrf mfr mfm med map mwh) (fun r9 w9 => r9 = some (gi (gsm (fun q => gb (0 < mro (4 * q) ∧ (mro (4 * q) = o ∨ mro (4 * q) = t))) mrs.toNat)) ∧ w9 = moW W H mth mbd mne mnw mmn mbx man mrs mrl mfl mpt mdf mlb mbo mwn mwo mxo myo mor mco mro mpw mph mrk mrb mrf mfr mfm med map mwh) := by
  refine gC_of rfl kX8_countRows rfl rfl (Nat.le_of_ble_eq_true rfl) (fun X ad hX hE => ?_)
  refine G.go hX 4 (moW W H mth mbd mne mnw mmn mbx man mrs mrl mfl mpt mdf mlb mbo mwn mwo mxo myo mor mco mro mpw mph mrk mrb mrf mfr mfm med map mwh, 5, [(0, gr 60), (1, gi o), (2, gi t), (3, gi 0), (4, gi 0)], []) rfl trivial ?_
  have lp5 : ∀ (n : Nat) (n1 : Int) (i : Int), (0 ≤ i ∧ i ≤ mrs) → (n1 = gsm (fun q => gb (0 < mro (4 * q) ∧ (mro (4 * q) = o ∨ mro (4 * q) = t))) i.toNat) → (mrs - i).toNat < n → G X mX8_countRows ad 0 0 (moW W H mth mbd mne mnw mmn mbx man mrs mrl mfl mpt mdf mlb mbo mwn mwo mxo myo mor mco mro mpw mph mrk mrb mrf mfr mfm med map mwh, 5, [(0, gr 60), (1, gi o), (2, gi t), (3, gi n1), (4, gi i)], []) := by
    intro n
    induction n with
    | zero => intro n1 i hi hn hm9; exact absurd hm9 (Nat.not_lt_zero _)
    | succ n ih5 =>
      intro n1 i hi hn hm5
      refine G.go hX 3 (moW W H mth mbd mne mnw mmn mbx man mrs mrl mfl mpt mdf mlb mbo mwn mwo mxo myo mor mco mro mpw mph mrk mrb mrf mfr mfm med map mwh, 11, [(0, gr 60), (1, gi o), (2, gi t), (3, gi n1), (4, gi i)], [gi mrs, gi i]) rfl trivial ?_
      refine g_icmp_ge hX 66 rfl rfl ⟨by omega, by omega⟩ ⟨by omega, by omega⟩ (fun b11 => ?_) (fun b11 => ?_)
      ·
        refine G.go hX 1 (moW W H mth mbd mne mnw mmn mbx man mrs mrl mfl mpt mdf mlb mbo mwn mwo mxo myo mor mco mro mpw mph mrk mrb mrf mfr mfm med map mwh, 67, [(0, gr 60), (1, gi o), (2, gi t), (3, gi n1), (4, gi i)], [gi n1]) rfl trivial ?_
        exact g_iret hX hE rfl ⟨(congrArg (fun z => some (gi z)) (by first | rfl | (rw [hn, show i = mrs by omega]))), rfl⟩
      ·
        refine G.go hX 6 (moW W H mth mbd mne mnw mmn mbx man mrs mrl mfl mpt mdf mlb mbo mwn mwo mxo myo mor mco mro mpw mph mrk mrb mrf mfr mfm med map mwh, 23, [(0, gr 60), (1, gi o), (2, gi t), (3, gi n1), (4, gi i)], [gi (mro (4 * i))]) rfl ?_ ?_
        · refine ⟨?_, trivial⟩
          · omega
        refine g_if_le hX 58 rfl rfl (hro _) (fun b23 => ?_) (fun b23 => ?_)
        ·
          refine G.go hX 4 (moW W H mth mbd mne mnw mmn mbx man mrs mrl mfl mpt mdf mlb mbo mwn mwo mxo myo mor mco mro mpw mph mrk mrb mrf mfr mfm med map mwh, 5, [(0, gr 60), (1, gi o), (2, gi t), (3, gi n1), (4, gi (i + 1))], []) rfl trivial ?_
          exact ih5 n1 (i + 1) (by omega) (by have h9 := gsm_next (fun q => gb (0 < mro (4 * q) ∧ (mro (4 * q) = o ∨ mro (4 * q) = t))) hi.1 hn; first | (rw [gb_t (by omega)] at h9; exact h9) | (rw [gb_f (by omega)] at h9; omega)) (by omega)
        ·
          refine G.go hX 7 (moW W H mth mbd mne mnw mmn mbx man mrs mrl mfl mpt mdf mlb mbo mwn mwo mxo myo mor mco mro mpw mph mrk mrb mrf mfr mfm med map mwh, 36, [(0, gr 60), (1, gi o), (2, gi t), (3, gi n1), (4, gi i)], [gi o, gi (mro (4 * i))]) rfl ?_ ?_
          · refine ⟨?_, trivial⟩
            · omega
          refine g_icmp_eq hX 52 rfl rfl (by first | exact hro _ | assumption) (by first | exact hro _ | assumption) (fun b36 => ?_) (fun b36 => ?_)
          ·
            refine G.go hX 7 (moW W H mth mbd mne mnw mmn mbx man mrs mrl mfl mpt mdf mlb mbo mwn mwo mxo myo mor mco mro mpw mph mrk mrb mrf mfr mfm med map mwh, 5, [(0, gr 60), (1, gi o), (2, gi t), (3, gi (n1 + 1)), (4, gi (i + 1))], []) rfl trivial ?_
            exact ih5 (n1 + 1) (i + 1) (by omega) (by have h9 := gsm_next (fun q => gb (0 < mro (4 * q) ∧ (mro (4 * q) = o ∨ mro (4 * q) = t))) hi.1 hn; first | (rw [gb_t (by omega)] at h9; exact h9) | (rw [gb_f (by omega)] at h9; omega)) (by omega)
          ·
            refine G.go hX 7 (moW W H mth mbd mne mnw mmn mbx man mrs mrl mfl mpt mdf mlb mbo mwn mwo mxo myo mor mco mro mpw mph mrk mrb mrf mfr mfm med map mwh, 49, [(0, gr 60), (1, gi o), (2, gi t), (3, gi n1), (4, gi i)], [gi t, gi (mro (4 * i))]) rfl ?_ ?_
            · refine ⟨?_, trivial⟩
              · omega
            refine g_icmp_ne hX 58 rfl rfl (by first | exact hro _ | assumption) (by first | exact hro _ | assumption) (fun b49 => ?_) (fun b49 => ?_)
            ·
              refine G.go hX 4 (moW W H mth mbd mne mnw mmn mbx man mrs mrl mfl mpt mdf mlb mbo mwn mwo mxo myo mor mco mro mpw mph mrk mrb mrf mfr mfm med map mwh, 5, [(0, gr 60), (1, gi o), (2, gi t), (3, gi n1), (4, gi (i + 1))], []) rfl trivial ?_
              exact ih5 n1 (i + 1) (by omega) (by have h9 := gsm_next (fun q => gb (0 < mro (4 * q) ∧ (mro (4 * q) = o ∨ mro (4 * q) = t))) hi.1 hn; first | (rw [gb_t (by omega)] at h9; exact h9) | (rw [gb_f (by omega)] at h9; omega)) (by omega)
            ·
              refine G.go hX 7 (moW W H mth mbd mne mnw mmn mbx man mrs mrl mfl mpt mdf mlb mbo mwn mwo mxo myo mor mco mro mpw mph mrk mrb mrf mfr mfm med map mwh, 5, [(0, gr 60), (1, gi o), (2, gi t), (3, gi (n1 + 1)), (4, gi (i + 1))], []) rfl trivial ?_
              exact ih5 (n1 + 1) (i + 1) (by omega) (by have h9 := gsm_next (fun q => gb (0 < mro (4 * q) ∧ (mro (4 * q) = o ∨ mro (4 * q) = t))) hi.1 hn; first | (rw [gb_t (by omega)] at h9; exact h9) | (rw [gb_f (by omega)] at h9; omega)) (by omega)
  exact lp5 _ 0 0 (by omega) (by rfl) (Nat.lt_succ_self _)
set_option maxHeartbeats 4000000 in
set_option maxRecDepth 100000 in
theorem c_X8_missing (l : Launch) (D : va_G) (cA : Nat → ClassId) (W : Nat) (H : Nat) (mth : Int) (mbd : Int) (mne : Int) (mnw : Int) (mmn : Int) (mbx : Int) (man : Int) (mrs : Int) (mrl : Int) (mfl : Int) (mpt : Int → Int) (mdf : Int → Int) (mlb : Int → Int) (mbo : Int → Int) (mwn : Int → Int) (mwo : Int → Int) (mxo : Int → Int) (myo : Int → Int) (mor : Int → Int) (mco : Int → Int) (mro : Int → Int) (mpw : Int → Int) (mph : Int → Int) (mrk : Int → Int) (mrb : Int → Int) (mrf : Int → Int) (mfr : Int → Int) (mfm : Int → Int) (med : Int → Int) (map : Int → Int) (mwh : Int → Int) (i : Int) (hi : inR i) (hpw : ∀ q : Int, inR (mpw q)) :
    gC l D cA yX8_missing mX8_missing (some .int) 0 0 [gr 60, gi i] (moW W H mth mbd mne mnw mmn mbx man mrs mrl mfl mpt mdf mlb mbo mwn mwo mxo myo mor mco mro mpw mph mrk mrb mrf mfr mfm med map mwh) (fun r9 w9 => ∃ (rv : Int) (th : Int), r9 = some (gi rv) ∧ w9 = moW W H th mbd mne mnw mmn mbx man mrs mrl mfl mpt mdf mlb mbo mwn mwo mxo myo mor mco mro mpw mph mrk mrb mrf mfr mfm med map mwh ∧ (i = -1 → th = 0 ∧ rv = gsm (fun q => gb (mms mpw q)) 20) ∧ (0 ≤ i → i < gsm (fun q => gb (mms mpw q)) 20 → th = 0 ∧ ∃ pg : Int, (0 ≤ pg ∧ pg < 20) ∧ mms mpw pg ∧ gsm (fun q => gb (mms mpw q)) pg.toNat = i ∧ rv = 2 * pg + gb (¬ 0 < mpw (20 + pg))) ∧ (i ≠ -1 → ¬ (0 ≤ i ∧ i < gsm (fun q => gb (mms mpw q)) 20) → th = 1 ∧ rv = 0)) := by
  refine gC_of rfl kX8_missing rfl rfl (Nat.le_of_ble_eq_true rfl) (fun X ad hX hE => ?_)
  refine G.go hX 11 (moW W H 0 mbd mne mnw mmn mbx man mrs mrl mfl mpt mdf mlb mbo mwn mwo mxo myo mor mco mro mpw mph mrk mrb mrf mfr mfm med map mwh, 15, [(0, gr 60), (1, gi i), (2, gi 0), (3, gi 0), (4, gi 0), (5, gi 0)], []) rfl trivial ?_
  have lp15 : ∀ (n : Nat) (n1 : Int) (to : Int) (fo : Int) (p : Int), (0 ≤ p ∧ p ≤ 20) → (n1 = gsm (fun q => gb (mms mpw q)) p.toNat) → (fo = gb (0 ≤ i ∧ i < n1)) → (0 ≤ i → i < n1 → ∃ pg : Int, (0 ≤ pg ∧ pg < p) ∧ mms mpw pg ∧ gsm (fun q => gb (mms mpw q)) pg.toNat = i ∧ to = 2 * pg + gb (¬ 0 < mpw (20 + pg))) → (20 - p).toNat < n → G X mX8_missing ad 0 0 (moW W H 0 mbd mne mnw mmn mbx man mrs mrl mfl mpt mdf mlb mbo mwn mwo mxo myo mor mco mro mpw mph mrk mrb mrf mfr mfm med map mwh, 15, [(0, gr 60), (1, gi i), (2, gi n1), (3, gi to), (4, gi fo), (5, gi p)], []) := by
    intro n
    induction n with
    | zero => intro n1 to fo p hp hn hfo hto hm9; exact absurd hm9 (Nat.not_lt_zero _)
    | succ n ih15 =>
      intro n1 to fo p hp hn hfo hto hm15
      have hnb := gsm_gb (mms mpw) p.toNat
      have hf01 := gb_01 (0 ≤ i ∧ i < n1)
      refine G.go hX 2 (moW W H 0 mbd mne mnw mmn mbx man mrs mrl mfl mpt mdf mlb mbo mwn mwo mxo myo mor mco mro mpw mph mrk mrb mrf mfr mfm med map mwh, 19, [(0, gr 60), (1, gi i), (2, gi n1), (3, gi to), (4, gi fo), (5, gi p)], [gi 20, gi p]) rfl trivial ?_
      refine g_icmp_ge hX 117 rfl rfl ⟨by omega, by omega⟩ ⟨by omega, by omega⟩ (fun b19 => ?_) (fun b19 => ?_)
      ·
        have hp20 : p = 20 := by omega
        have hn20 : n1 = gsm (fun q => gb (mms mpw q)) 20 := by (rw [hn, hp20]; rfl)
        refine G.go hX 2 (moW W H 0 mbd mne mnw mmn mbx man mrs mrl mfl mpt mdf mlb mbo mwn mwo mxo myo mor mco mro mpw mph mrk mrb mrf mfr mfm med map mwh, 119, [(0, gr 60), (1, gi i), (2, gi n1), (3, gi to), (4, gi fo), (5, gi p)], [gi (-1), gi i]) rfl trivial ?_
        refine g_icmp_ne hX 124 rfl rfl ⟨by omega, by omega⟩ ⟨by omega, by omega⟩ (fun b119 => ?_) (fun b119 => ?_)
        ·
          refine G.go hX 2 (moW W H 0 mbd mne mnw mmn mbx man mrs mrl mfl mpt mdf mlb mbo mwn mwo mxo myo mor mco mro mpw mph mrk mrb mrf mfr mfm med map mwh, 127, [(0, gr 60), (1, gi i), (2, gi n1), (3, gi to), (4, gi fo), (5, gi p)], [gi fo, gr 60]) rfl trivial ?_
          refine g_if_eq hX 134 rfl rfl ⟨by omega, by omega⟩ (fun b127 => ?_) (fun b127 => ?_)
          ·
            refine G.go hX 3 (moW W H 1 mbd mne mnw mmn mbx man mrs mrl mfl mpt mdf mlb mbo mwn mwo mxo myo mor mco mro mpw mph mrk mrb mrf mfr mfm med map mwh, 140, [(0, gr 60), (1, gi i), (2, gi n1), (3, gi to), (4, gi fo), (5, gi p)], [gi fo]) rfl trivial ?_
            refine g_if_eq hX 147 rfl rfl ⟨by omega, by omega⟩ (fun b140 => ?_) (fun b140 => ?_)
            ·
              refine G.go hX 1 (moW W H 1 mbd mne mnw mmn mbx man mrs mrl mfl mpt mdf mlb mbo mwn mwo mxo myo mor mco mro mpw mph mrk mrb mrf mfr mfm med map mwh, 148, [(0, gr 60), (1, gi i), (2, gi n1), (3, gi to), (4, gi fo), (5, gi p)], [gi 0]) rfl trivial ?_
              exact g_iret hX hE rfl ⟨0, 1, rfl, rfl, fun h9 => by (exfalso; omega), fun h1 h2 => by (have h8 := gb_0 (P := 0 ≤ i ∧ i < n1) |>.mp (by omega); exfalso; omega), fun _ _ => ⟨rfl, rfl⟩⟩
            ·
              refine G.go hX 2 (moW W H 1 mbd mne mnw mmn mbx man mrs mrl mfl mpt mdf mlb mbo mwn mwo mxo myo mor mco mro mpw mph mrk mrb mrf mfr mfm med map mwh, 148, [(0, gr 60), (1, gi i), (2, gi n1), (3, gi to), (4, gi fo), (5, gi p)], [gi to]) rfl trivial ?_
              exact g_iret hX hE rfl (by exfalso; omega)
          ·
            refine G.go hX 4 (moW W H 0 mbd mne mnw mmn mbx man mrs mrl mfl mpt mdf mlb mbo mwn mwo mxo myo mor mco mro mpw mph mrk mrb mrf mfr mfm med map mwh, 140, [(0, gr 60), (1, gi i), (2, gi n1), (3, gi to), (4, gi fo), (5, gi p)], [gi fo]) rfl trivial ?_
            refine g_if_eq hX 147 rfl rfl ⟨by omega, by omega⟩ (fun b140 => ?_) (fun b140 => ?_)
            ·
              refine G.go hX 1 (moW W H 0 mbd mne mnw mmn mbx man mrs mrl mfl mpt mdf mlb mbo mwn mwo mxo myo mor mco mro mpw mph mrk mrb mrf mfr mfm med map mwh, 148, [(0, gr 60), (1, gi i), (2, gi n1), (3, gi to), (4, gi fo), (5, gi p)], [gi 0]) rfl trivial ?_
              exact g_iret hX hE rfl (by exfalso; omega)
            ·
              refine G.go hX 2 (moW W H 0 mbd mne mnw mmn mbx man mrs mrl mfl mpt mdf mlb mbo mwn mwo mxo myo mor mco mro mpw mph mrk mrb mrf mfr mfm med map mwh, 148, [(0, gr 60), (1, gi i), (2, gi n1), (3, gi to), (4, gi fo), (5, gi p)], [gi to]) rfl trivial ?_
              exact g_iret hX hE rfl ⟨to, 0, rfl, rfl, fun h9 => by (exfalso; omega), fun h1 h2 => ⟨rfl, by (obtain ⟨pg, k1, k2, k3, k4⟩ := hto h1 (by omega); exact ⟨pg, by omega, k2, k3, k4⟩)⟩, fun _ h9 => by (have h8 := gb_n0 (P := 0 ≤ i ∧ i < n1) (by omega); exfalso; omega)⟩
        ·
          refine G.go hX 1 (moW W H 0 mbd mne mnw mmn mbx man mrs mrl mfl mpt mdf mlb mbo mwn mwo mxo myo mor mco mro mpw mph mrk mrb mrf mfr mfm med map mwh, 123, [(0, gr 60), (1, gi i), (2, gi n1), (3, gi to), (4, gi fo), (5, gi p)], [gi n1]) rfl trivial ?_
          exact g_iret hX hE rfl ⟨n1, 0, rfl, rfl, fun _ => ⟨rfl, hn20⟩, fun h9 => by (exfalso; omega), fun h9 => by (exfalso; omega)⟩
      ·
        refine G.go hX 4 (moW W H 0 mbd mne mnw mmn mbx man mrs mrl mfl mpt mdf mlb mbo mwn mwo mxo myo mor mco mro mpw mph mrk mrb mrf mfr mfm med map mwh, 29, [(0, gr 60), (1, gi i), (2, gi n1), (3, gi to), (4, gi fo), (5, gi p)], [gi (mpw p)]) rfl ?_ ?_
        · refine ⟨?_, trivial⟩
          · omega
        have jn37 : G X mX8_missing ad 0 0 (moW W H 0 mbd mne mnw mmn mbx man mrs mrl mfl mpt mdf mlb mbo mwn mwo mxo myo mor mco mro mpw mph mrk mrb mrf mfr mfm med map mwh, 37, [(0, gr 60), (1, gi i), (2, gi n1), (3, gi to), (4, gi fo), (5, gi p)], [gi (gb (0 < mpw p))]) := by
          refine G.go hX 7 (moW W H 0 mbd mne mnw mmn mbx man mrs mrl mfl mpt mdf mlb mbo mwn mwo mxo myo mor mco mro mpw mph mrk mrb mrf mfr mfm med map mwh, 49, [(0, gr 60), (1, gi i), (2, gi n1), (3, gi to), (4, gi fo), (5, gi p), (6, gi (gb (0 < mpw p)))], [gi (mpw (20 + p))]) rfl ?_ ?_
          · refine ⟨?_, trivial⟩
            · omega
          have jn57 : G X mX8_missing ad 0 0 (moW W H 0 mbd mne mnw mmn mbx man mrs mrl mfl mpt mdf mlb mbo mwn mwo mxo myo mor mco mro mpw mph mrk mrb mrf mfr mfm med map mwh, 57, [(0, gr 60), (1, gi i), (2, gi n1), (3, gi to), (4, gi fo), (5, gi p), (6, gi (gb (0 < mpw p)))], [gi (gb (0 < mpw (20 + p)))]) := by
            refine G.go hX 3 (moW W H 0 mbd mne mnw mmn mbx man mrs mrl mfl mpt mdf mlb mbo mwn mwo mxo myo mor mco mro mpw mph mrk mrb mrf mfr mfm med map mwh, 63, [(0, gr 60), (1, gi i), (2, gi n1), (3, gi to), (4, gi fo), (5, gi p), (6, gi (gb (0 < mpw p))), (7, gi (gb (0 < mpw (20 + p))))], [gi (gb (0 < mpw (20 + p))), gi (gb (0 < mpw p))]) rfl trivial ?_
            refine g_icmp_eq hX 111 rfl rfl (gb_r _) (gb_r _) (fun b63 => ?_) (fun b63 => ?_)
            ·
              refine G.go hX 2 (moW W H 0 mbd mne mnw mmn mbx man mrs mrl mfl mpt mdf mlb mbo mwn mwo mxo myo mor mco mro mpw mph mrk mrb mrf mfr mfm med map mwh, 15, [(0, gr 60), (1, gi i), (2, gi n1), (3, gi to), (4, gi fo), (5, gi (p + 1)), (6, gi (gb (0 < mpw p))), (7, gi (gb (0 < mpw (20 + p))))], []) rfl trivial ?_
              refine G.locs [(0, gr 60), (1, gi i), (2, gi n1), (3, gi to), (4, gi fo), (5, gi (p + 1))] [0, 1, 2, 3, 4, 5] rfl ?_
              exact ih15 n1 to fo (p + 1) (by omega) (by have h9 := gsm_next (fun q => gb (mms mpw q)) hp.1 hn; rw [gb_f (P := mms mpw p) (fun h8 => h8 (gb_eq b63))] at h9; omega) (by exact hfo) (by intro h1 h2; obtain ⟨pg, k1, k2, k3, k4⟩ := hto h1 h2; exact ⟨pg, by omega, k2, k3, k4⟩) (by omega)
            ·
              refine G.go hX 1 (moW W H 0 mbd mne mnw mmn mbx man mrs mrl mfl mpt mdf mlb mbo mwn mwo mxo myo mor mco mro mpw mph mrk mrb mrf mfr mfm med map mwh, 68, [(0, gr 60), (1, gi i), (2, gi n1), (3, gi to), (4, gi fo), (5, gi p), (6, gi (gb (0 < mpw p))), (7, gi (gb (0 < mpw (20 + p))))], [gi fo]) rfl trivial ?_
              have jn81 : G X mX8_missing ad 0 0 (moW W H 0 mbd mne mnw mmn mbx man mrs mrl mfl mpt mdf mlb mbo mwn mwo mxo myo mor mco mro mpw mph mrk mrb mrf mfr mfm med map mwh, 81, [(0, gr 60), (1, gi i), (2, gi n1), (3, gi to), (4, gi fo), (5, gi p), (6, gi (gb (0 < mpw p))), (7, gi (gb (0 < mpw (20 + p))))], [gi (gb (0 ≤ i ∧ i < n1 + 1))]) := by
                refine G.go hX 3 (moW W H 0 mbd mne mnw mmn mbx man mrs mrl mfl mpt mdf mlb mbo mwn mwo mxo myo mor mco mro mpw mph mrk mrb mrf mfr mfm med map mwh, 85, [(0, gr 60), (1, gi i), (2, gi n1), (3, gi to), (4, gi (gb (0 ≤ i ∧ i < n1 + 1))), (5, gi p), (6, gi (gb (0 < mpw p))), (7, gi (gb (0 < mpw (20 + p))))], [gi i, gi n1]) rfl trivial ?_
                have jn107 : G X mX8_missing ad 0 0 (moW W H 0 mbd mne mnw mmn mbx man mrs mrl mfl mpt mdf mlb mbo mwn mwo mxo myo mor mco mro mpw mph mrk mrb mrf mfr mfm med map mwh, 107, [(0, gr 60), (1, gi i), (2, gi n1), (3, gi to), (4, gi (gb (0 ≤ i ∧ i < n1 + 1))), (5, gi p), (6, gi (gb (0 < mpw p))), (7, gi (gb (0 < mpw (20 + p))))], [gi (if n1 = i then 2 * p + gb (¬ 0 < mpw (20 + p)) else to)]) := by
                  refine G.go hX 4 (moW W H 0 mbd mne mnw mmn mbx man mrs mrl mfl mpt mdf mlb mbo mwn mwo mxo myo mor mco mro mpw mph mrk mrb mrf mfr mfm med map mwh, 15, [(0, gr 60), (1, gi i), (2, gi (n1 + 1)), (3, gi (if n1 = i then 2 * p + gb (¬ 0 < mpw (20 + p)) else to)), (4, gi (gb (0 ≤ i ∧ i < n1 + 1))), (5, gi (p + 1)), (6, gi (gb (0 < mpw p))), (7, gi (gb (0 < mpw (20 + p))))], []) rfl trivial ?_
                  refine G.locs [(0, gr 60), (1, gi i), (2, gi (n1 + 1)), (3, gi (if n1 = i then 2 * p + gb (¬ 0 < mpw (20 + p)) else to)), (4, gi (gb (0 ≤ i ∧ i < n1 + 1))), (5, gi (p + 1))] [0, 1, 2, 3, 4, 5] rfl ?_
                  exact ih15 (n1 + 1) (if n1 = i then 2 * p + gb (¬ 0 < mpw (20 + p)) else to) (gb (0 ≤ i ∧ i < n1 + 1)) (p + 1) (by omega) (by have h9 := gsm_next (fun q => gb (mms mpw q)) hp.1 hn; rw [gb_t (P := mms mpw p) (gb_ne b63)] at h9; exact h9) (by rfl) (by intro h1 h2; by_cases e9 : n1 = i; exact ⟨p, by omega, gb_ne b63, by omega, by rw [if_pos e9]⟩; (obtain ⟨pg, k1, k2, k3, k4⟩ := hto h1 (by omega); exact ⟨pg, by omega, k2, k3, by rw [if_neg e9]; exact k4⟩)) (by omega)
                refine g_icmp_ne hX 106 rfl rfl (by first | assumption | exact ⟨by omega, by omega⟩) (by first | assumption | exact ⟨by omega, by omega⟩) (fun b85 => ?_) (fun b85 => ?_)
                ·
                  refine G.go hX 1 (moW W H 0 mbd mne mnw mmn mbx man mrs mrl mfl mpt mdf mlb mbo mwn mwo mxo myo mor mco mro mpw mph mrk mrb mrf mfr mfm med map mwh, 107, [(0, gr 60), (1, gi i), (2, gi n1), (3, gi to), (4, gi (gb (0 ≤ i ∧ i < n1 + 1))), (5, gi p), (6, gi (gb (0 < mpw p))), (7, gi (gb (0 < mpw (20 + p))))], [gi to]) rfl trivial ?_
                  refine G.eq (S' := (moW W H 0 mbd mne mnw mmn mbx man mrs mrl mfl mpt mdf mlb mbo mwn mwo mxo myo mor mco mro mpw mph mrk mrb mrf mfr mfm med map mwh, 107, [(0, gr 60), (1, gi i), (2, gi n1), (3, gi to), (4, gi (gb (0 ≤ i ∧ i < n1 + 1))), (5, gi p), (6, gi (gb (0 < mpw p))), (7, gi (gb (0 < mpw (20 + p))))], [gi (if n1 = i then 2 * p + gb (¬ 0 < mpw (20 + p)) else to)])) ?_ jn107
                  rw [if_neg (by omega)]
                ·
                  refine G.go hX 4 (moW W H 0 mbd mne mnw mmn mbx man mrs mrl mfl mpt mdf mlb mbo mwn mwo mxo myo mor mco mro mpw mph mrk mrb mrf mfr mfm med map mwh, 94, [(0, gr 60), (1, gi i), (2, gi n1), (3, gi to), (4, gi (gb (0 ≤ i ∧ i < n1 + 1))), (5, gi p), (6, gi (gb (0 < mpw p))), (7, gi (gb (0 < mpw (20 + p))))], [gi (gb (0 < mpw (20 + p))), gi (2 * p)]) rfl trivial ?_
                  have jn102 : G X mX8_missing ad 0 0 (moW W H 0 mbd mne mnw mmn mbx man mrs mrl mfl mpt mdf mlb mbo mwn mwo mxo myo mor mco mro mpw mph mrk mrb mrf mfr mfm med map mwh, 102, [(0, gr 60), (1, gi i), (2, gi n1), (3, gi to), (4, gi (gb (0 ≤ i ∧ i < n1 + 1))), (5, gi p), (6, gi (gb (0 < mpw p))), (7, gi (gb (0 < mpw (20 + p))))], [gi (gb (¬ 0 < mpw (20 + p))), gi (2 * p)]) := by
                    refine G.go hX 2 (moW W H 0 mbd mne mnw mmn mbx man mrs mrl mfl mpt mdf mlb mbo mwn mwo mxo myo mor mco mro mpw mph mrk mrb mrf mfr mfm med map mwh, 107, [(0, gr 60), (1, gi i), (2, gi n1), (3, gi to), (4, gi (gb (0 ≤ i ∧ i < n1 + 1))), (5, gi p), (6, gi (gb (0 < mpw p))), (7, gi (gb (0 < mpw (20 + p))))], [gi ((2 * p) + (gb (¬ 0 < mpw (20 + p))))]) rfl trivial ?_
                    refine G.eq (S' := (moW W H 0 mbd mne mnw mmn mbx man mrs mrl mfl mpt mdf mlb mbo mwn mwo mxo myo mor mco mro mpw mph mrk mrb mrf mfr mfm med map mwh, 107, [(0, gr 60), (1, gi i), (2, gi n1), (3, gi to), (4, gi (gb (0 ≤ i ∧ i < n1 + 1))), (5, gi p), (6, gi (gb (0 < mpw p))), (7, gi (gb (0 < mpw (20 + p))))], [gi (if n1 = i then 2 * p + gb (¬ 0 < mpw (20 + p)) else to)])) ?_ jn107
                    rw [if_pos (by omega)]
                  refine g_if_eq hX 101 rfl rfl (gb_r _) (fun b94 => ?_) (fun b94 => ?_)
                  ·
                    have b94 := gb_0.mp b94
                    refine G.go hX 1 (moW W H 0 mbd mne mnw mmn mbx man mrs mrl mfl mpt mdf mlb mbo mwn mwo mxo myo mor mco mro mpw mph mrk mrb mrf mfr mfm med map mwh, 102, [(0, gr 60), (1, gi i), (2, gi n1), (3, gi to), (4, gi (gb (0 ≤ i ∧ i < n1 + 1))), (5, gi p), (6, gi (gb (0 < mpw p))), (7, gi (gb (0 < mpw (20 + p))))], [gi 1, gi (2 * p)]) rfl trivial ?_
                    refine G.eq (S' := (moW W H 0 mbd mne mnw mmn mbx man mrs mrl mfl mpt mdf mlb mbo mwn mwo mxo myo mor mco mro mpw mph mrk mrb mrf mfr mfm med map mwh, 102, [(0, gr 60), (1, gi i), (2, gi n1), (3, gi to), (4, gi (gb (0 ≤ i ∧ i < n1 + 1))), (5, gi p), (6, gi (gb (0 < mpw p))), (7, gi (gb (0 < mpw (20 + p))))], [gi (gb (¬ 0 < mpw (20 + p))), gi (2 * p)])) ?_ jn102
                    rw [gb_t (P := ¬ 0 < mpw (20 + p)) b94]
                  ·
                    have b94 := gb_n0 b94
                    refine G.go hX 2 (moW W H 0 mbd mne mnw mmn mbx man mrs mrl mfl mpt mdf mlb mbo mwn mwo mxo myo mor mco mro mpw mph mrk mrb mrf mfr mfm med map mwh, 102, [(0, gr 60), (1, gi i), (2, gi n1), (3, gi to), (4, gi (gb (0 ≤ i ∧ i < n1 + 1))), (5, gi p), (6, gi (gb (0 < mpw p))), (7, gi (gb (0 < mpw (20 + p))))], [gi 0, gi (2 * p)]) rfl trivial ?_
                    refine G.eq (S' := (moW W H 0 mbd mne mnw mmn mbx man mrs mrl mfl mpt mdf mlb mbo mwn mwo mxo myo mor mco mro mpw mph mrk mrb mrf mfr mfm med map mwh, 102, [(0, gr 60), (1, gi i), (2, gi n1), (3, gi to), (4, gi (gb (0 ≤ i ∧ i < n1 + 1))), (5, gi p), (6, gi (gb (0 < mpw p))), (7, gi (gb (0 < mpw (20 + p))))], [gi (gb (¬ 0 < mpw (20 + p))), gi (2 * p)])) ?_ jn102
                    rw [gb_f (P := ¬ 0 < mpw (20 + p)) (fun h9 => h9 b94)]
              refine g_if_ne hX 76 rfl rfl ⟨by omega, by omega⟩ (fun b68 => ?_) (fun b68 => ?_)
              ·
                refine G.go hX 2 (moW W H 0 mbd mne mnw mmn mbx man mrs mrl mfl mpt mdf mlb mbo mwn mwo mxo myo mor mco mro mpw mph mrk mrb mrf mfr mfm med map mwh, 81, [(0, gr 60), (1, gi i), (2, gi n1), (3, gi to), (4, gi fo), (5, gi p), (6, gi (gb (0 < mpw p))), (7, gi (gb (0 < mpw (20 + p))))], [gi 1]) rfl trivial ?_
                refine G.eq (S' := (moW W H 0 mbd mne mnw mmn mbx man mrs mrl mfl mpt mdf mlb mbo mwn mwo mxo myo mor mco mro mpw mph mrk mrb mrf mfr mfm med map mwh, 81, [(0, gr 60), (1, gi i), (2, gi n1), (3, gi to), (4, gi fo), (5, gi p), (6, gi (gb (0 < mpw p))), (7, gi (gb (0 < mpw (20 + p))))], [gi (gb (0 ≤ i ∧ i < n1 + 1))])) ?_ jn81
                rw [gb_t (show 0 ≤ i ∧ i < n1 + 1 by first | omega | (have h8 := gb_n0 (P := 0 ≤ i ∧ i < n1) (by omega); omega))]
              ·
                refine G.go hX 2 (moW W H 0 mbd mne mnw mmn mbx man mrs mrl mfl mpt mdf mlb mbo mwn mwo mxo myo mor mco mro mpw mph mrk mrb mrf mfr mfm med map mwh, 73, [(0, gr 60), (1, gi i), (2, gi n1), (3, gi to), (4, gi fo), (5, gi p), (6, gi (gb (0 < mpw p))), (7, gi (gb (0 < mpw (20 + p))))], [gi i, gi n1]) rfl trivial ?_
                refine g_icmp_ne hX 80 rfl rfl (by first | assumption | exact ⟨by omega, by omega⟩) (by first | assumption | exact ⟨by omega, by omega⟩) (fun b73 => ?_) (fun b73 => ?_)
                ·
                  refine G.go hX 1 (moW W H 0 mbd mne mnw mmn mbx man mrs mrl mfl mpt mdf mlb mbo mwn mwo mxo myo mor mco mro mpw mph mrk mrb mrf mfr mfm med map mwh, 81, [(0, gr 60), (1, gi i), (2, gi n1), (3, gi to), (4, gi fo), (5, gi p), (6, gi (gb (0 < mpw p))), (7, gi (gb (0 < mpw (20 + p))))], [gi 0]) rfl trivial ?_
                  refine G.eq (S' := (moW W H 0 mbd mne mnw mmn mbx man mrs mrl mfl mpt mdf mlb mbo mwn mwo mxo myo mor mco mro mpw mph mrk mrb mrf mfr mfm med map mwh, 81, [(0, gr 60), (1, gi i), (2, gi n1), (3, gi to), (4, gi fo), (5, gi p), (6, gi (gb (0 < mpw p))), (7, gi (gb (0 < mpw (20 + p))))], [gi (gb (0 ≤ i ∧ i < n1 + 1))])) ?_ jn81
                  rw [gb_f (show ¬ (0 ≤ i ∧ i < n1 + 1) by (have h8 := gb_0 (P := 0 ≤ i ∧ i < n1) |>.mp (by omega); omega))]
                ·
                  refine G.go hX 2 (moW W H 0 mbd mne mnw mmn mbx man mrs mrl mfl mpt mdf mlb mbo mwn mwo mxo myo mor mco mro mpw mph mrk mrb mrf mfr mfm med map mwh, 81, [(0, gr 60), (1, gi i), (2, gi n1), (3, gi to), (4, gi fo), (5, gi p), (6, gi (gb (0 < mpw p))), (7, gi (gb (0 < mpw (20 + p))))], [gi 1]) rfl trivial ?_
                  refine G.eq (S' := (moW W H 0 mbd mne mnw mmn mbx man mrs mrl mfl mpt mdf mlb mbo mwn mwo mxo myo mor mco mro mpw mph mrk mrb mrf mfr mfm med map mwh, 81, [(0, gr 60), (1, gi i), (2, gi n1), (3, gi to), (4, gi fo), (5, gi p), (6, gi (gb (0 < mpw p))), (7, gi (gb (0 < mpw (20 + p))))], [gi (gb (0 ≤ i ∧ i < n1 + 1))])) ?_ jn81
                  rw [gb_t (show 0 ≤ i ∧ i < n1 + 1 by first | omega | (have h8 := gb_n0 (P := 0 ≤ i ∧ i < n1) (by omega); omega))]
          refine g_if_le hX 56 rfl rfl (hpw _) (fun b49 => ?_) (fun b49 => ?_)
          ·
            refine G.go hX 1 (moW W H 0 mbd mne mnw mmn mbx man mrs mrl mfl mpt mdf mlb mbo mwn mwo mxo myo mor mco mro mpw mph mrk mrb mrf mfr mfm med map mwh, 57, [(0, gr 60), (1, gi i), (2, gi n1), (3, gi to), (4, gi fo), (5, gi p), (6, gi (gb (0 < mpw p)))], [gi 0]) rfl trivial ?_
            refine G.eq (S' := (moW W H 0 mbd mne mnw mmn mbx man mrs mrl mfl mpt mdf mlb mbo mwn mwo mxo myo mor mco mro mpw mph mrk mrb mrf mfr mfm med map mwh, 57, [(0, gr 60), (1, gi i), (2, gi n1), (3, gi to), (4, gi fo), (5, gi p), (6, gi (gb (0 < mpw p)))], [gi (gb (0 < mpw (20 + p)))])) ?_ jn57
            rw [gb_f (show ¬ (0 < mpw (20 + p)) by omega)]
          ·
            refine G.go hX 2 (moW W H 0 mbd mne mnw mmn mbx man mrs mrl mfl mpt mdf mlb mbo mwn mwo mxo myo mor mco mro mpw mph mrk mrb mrf mfr mfm med map mwh, 57, [(0, gr 60), (1, gi i), (2, gi n1), (3, gi to), (4, gi fo), (5, gi p), (6, gi (gb (0 < mpw p)))], [gi 1]) rfl trivial ?_
            refine G.eq (S' := (moW W H 0 mbd mne mnw mmn mbx man mrs mrl mfl mpt mdf mlb mbo mwn mwo mxo myo mor mco mro mpw mph mrk mrb mrf mfr mfm med map mwh, 57, [(0, gr 60), (1, gi i), (2, gi n1), (3, gi to), (4, gi fo), (5, gi p), (6, gi (gb (0 < mpw p)))], [gi (gb (0 < mpw (20 + p)))])) ?_ jn57
            rw [gb_t (show 0 < mpw (20 + p) by omega)]
        refine g_if_le hX 36 rfl rfl (hpw _) (fun b29 => ?_) (fun b29 => ?_)
        ·
          refine G.go hX 1 (moW W H 0 mbd mne mnw mmn mbx man mrs mrl mfl mpt mdf mlb mbo mwn mwo mxo myo mor mco mro mpw mph mrk mrb mrf mfr mfm med map mwh, 37, [(0, gr 60), (1, gi i), (2, gi n1), (3, gi to), (4, gi fo), (5, gi p)], [gi 0]) rfl trivial ?_
          refine G.eq (S' := (moW W H 0 mbd mne mnw mmn mbx man mrs mrl mfl mpt mdf mlb mbo mwn mwo mxo myo mor mco mro mpw mph mrk mrb mrf mfr mfm med map mwh, 37, [(0, gr 60), (1, gi i), (2, gi n1), (3, gi to), (4, gi fo), (5, gi p)], [gi (gb (0 < mpw p))])) ?_ jn37
          rw [gb_f (show ¬ (0 < mpw p) by omega)]
        ·
          refine G.go hX 2 (moW W H 0 mbd mne mnw mmn mbx man mrs mrl mfl mpt mdf mlb mbo mwn mwo mxo myo mor mco mro mpw mph mrk mrb mrf mfr mfm med map mwh, 37, [(0, gr 60), (1, gi i), (2, gi n1), (3, gi to), (4, gi fo), (5, gi p)], [gi 1]) rfl trivial ?_
          refine G.eq (S' := (moW W H 0 mbd mne mnw mmn mbx man mrs mrl mfl mpt mdf mlb mbo mwn mwo mxo myo mor mco mro mpw mph mrk mrb mrf mfr mfm med map mwh, 37, [(0, gr 60), (1, gi i), (2, gi n1), (3, gi to), (4, gi fo), (5, gi p)], [gi (gb (0 < mpw p))])) ?_ jn37
          rw [gb_t (show 0 < mpw p by omega)]
  exact lp15 _ 0 0 0 0 (by omega) (by rfl) (by rw [gb_f (by omega)]) (by intro h1 h2; omega) (Nat.lt_succ_self _)
set_option maxHeartbeats 4000000 in
set_option maxRecDepth 100000 in
theorem c_X8_approve (l : Launch) (D : va_G) (cA : Nat → ClassId) (W : Nat) (H : Nat) (mth : Int) (mbd : Int) (mne : Int) (mnw : Int) (mmn : Int) (mbx : Int) (man : Int) (mrs : Int) (mrl : Int) (mfl : Int) (mpt : Int → Int) (mdf : Int → Int) (mlb : Int → Int) (mbo : Int → Int) (mwn : Int → Int) (mwo : Int → Int) (mxo : Int → Int) (myo : Int → Int) (mor : Int → Int) (mco : Int → Int) (mro : Int → Int) (mpw : Int → Int) (mph : Int → Int) (mrk : Int → Int) (mrb : Int → Int) (mrf : Int → Int) (mfr : Int → Int) (mfm : Int → Int) (med : Int → Int) (map : Int → Int) (mwh : Int → Int) (p : Int) (e : Int) (w : Int) (hp : inR p) (he : inR e) (hw : inR w) (hed : ∀ q : Int, inR (med q) ∧ inR (mwh q)) (hap : ∀ q : Int, 0 ≤ map q ∧ map q ≤ 6) :
    gC l D cA yX8_approve mX8_approve (some .int) 0 0 [gr 60, gi p, gi e, gi w] (moW W H mth mbd mne mnw mmn mbx man mrs mrl mfl mpt mdf mlb mbo mwn mwo mxo myo mor mco mro mpw mph mrk mrb mrf mfr mfm med map mwh) (fun r9 w9 => ∃ (rv : Int) (th : Int) (ed2 : Int → Int) (wh2 : Int → Int) (ap2 : Int → Int), r9 = some (gi rv) ∧ w9 = moW W H th mbd mne mnw mmn mbx man mrs mrl mfl mpt mdf mlb mbo mwn mwo mxo myo mor mco mro mpw mph mrk mrb mrf mfr mfm ed2 ap2 wh2 ∧ (¬ (0 ≤ p ∧ p ≤ 19) → th = 1 ∧ rv = 0 ∧ ed2 = med ∧ wh2 = mwh ∧ ap2 = map) ∧ (0 ≤ p ∧ p ≤ 19 → e < 0 → th = 2 ∧ rv = 0 ∧ ed2 = med ∧ wh2 = mwh ∧ ap2 = map) ∧ (0 ≤ p ∧ p ≤ 19 → 0 ≤ e → (e < med p ∨ ∃ j : Int, 0 ≤ j ∧ j < (if e = med p then map p else 0) ∧ mwh (6 * p + j) = w) → th = 0 ∧ rv = 0 ∧ ed2 = med ∧ wh2 = mwh ∧ ap2 = map) ∧ (0 ≤ p ∧ p ≤ 19 → 0 ≤ e → ¬ (e < med p ∨ ∃ j : Int, 0 ≤ j ∧ j < (if e = med p then map p else 0) ∧ mwh (6 * p + j) = w) → (if e = med p then map p else 0) = 6 → th = 3 ∧ rv = 0 ∧ ed2 = med ∧ wh2 = mwh ∧ ap2 = map) ∧ (0 ≤ p ∧ p ≤ 19 → 0 ≤ e → ¬ (e < med p ∨ ∃ j : Int, 0 ≤ j ∧ j < (if e = med p then map p else 0) ∧ mwh (6 * p + j) = w) → (if e = med p then map p else 0) ≠ 6 → th = 0 ∧ rv = 1 ∧ ed2 = gu med p e ∧ wh2 = gu mwh (6 * p + (if e = med p then map p else 0)) w ∧ ap2 = gu map p ((if e = med p then map p else 0) + 1))) := by
  refine gC_of rfl kX8_approve rfl rfl (Nat.le_of_ble_eq_true rfl) (fun X ad hX hE => ?_)
  refine G.go hX 4 (moW W H mth mbd mne mnw mmn mbx man mrs mrl mfl mpt mdf mlb mbo mwn mwo mxo myo mor mco mro mpw mph mrk mrb mrf mfr mfm med map mwh, 5, [(0, gr 60), (1, gi p), (2, gi e), (3, gi w)], [gi 19, gi 0, gi p, gr 60]) rfl trivial ?_
  refine G.callS (av := [gi p, gi 0, gi 19]) (st := [gr 60]) hX rfl (fun l D cA => c_X8_in l D cA p 0 19 (by first | assumption | exact ⟨by omega, by omega⟩) ⟨by omega, by omega⟩ ⟨by omega, by omega⟩) (by decide +kernel) aX8_in rfl ⟨rfl, rfl⟩ (by decide) (Nat.le_of_ble_eq_true rfl) [] [0, 1, 2, 3, 4, 5, 6, 7, 8, 9, 10, 11, 12, 13, 14, 15, 16, 17, 18, 19, 20, 21] (moW W H mth mbd mne mnw mmn mbx man mrs mrl mfl mpt mdf mlb mbo mwn mwo mxo myo mor mco mro mpw mph mrk mrb mrf mfr mfm med map mwh) rfl rfl rfl (fun r w' hp => ?_)
  obtain ⟨rfl, rfl⟩ := hp
  show G X mX8_approve ad 0 0 (moW W H mth mbd mne mnw mmn mbx man mrs mrl mfl mpt mdf mlb mbo mwn mwo mxo myo mor mco mro mpw mph mrk mrb mrf mfr mfm med map mwh, 8, [(0, gr 60), (1, gi p), (2, gi e), (3, gi w)], [gi (gb (0 ≤ p ∧ p ≤ 19)), gr 60])
  refine g_if_ne hX 15 rfl rfl (gb_r _) (fun b8 => ?_) (fun b8 => ?_)
  ·
    have b8 := gb_n0 b8
    refine G.go hX 1 (moW W H mth mbd mne mnw mmn mbx man mrs mrl mfl mpt mdf mlb mbo mwn mwo mxo myo mor mco mro mpw mph mrk mrb mrf mfr mfm med map mwh, 16, [(0, gr 60), (1, gi p), (2, gi e), (3, gi w)], [gi e, gr 60]) rfl trivial ?_
    refine g_if_ge hX 23 rfl rfl he (fun b16 => ?_) (fun b16 => ?_)
    ·
      refine G.go hX 4 (moW W H 0 mbd mne mnw mmn mbx man mrs mrl mfl mpt mdf mlb mbo mwn mwo mxo myo mor mco mro mpw mph mrk mrb mrf mfr mfm med map mwh, 31, [(0, gr 60), (1, gi p), (2, gi e), (3, gi w)], [gi 0]) rfl trivial ?_
      refine g_if_gt hX 44 rfl rfl ⟨by omega, by omega⟩ (fun b31 => ?_) (fun b31 => ?_)
      ·
        exfalso
        omega
      ·
        have hap9 := hap p
        refine G.go hX 5 (moW W H 0 mbd mne mnw mmn mbx man mrs mrl mfl mpt mdf mlb mbo mwn mwo mxo myo mor mco mro mpw mph mrk mrb mrf mfr mfm med map mwh, 41, [(0, gr 60), (1, gi p), (2, gi e), (3, gi w)], [gi (med p), gi e]) rfl ?_ ?_
        · refine ⟨?_, trivial⟩
          · omega
        refine g_icmp_ge hX 46 rfl rfl (by first | assumption | exact (hed _).1) (by first | assumption | exact (hed _).1) (fun b41 => ?_) (fun b41 => ?_)
        ·
          have hap9 := hap p
          have hnn : 0 ≤ (if e = med p then map p else 0) ∧ (if e = med p then map p else 0) ≤ 6 := by (split <;> omega)
          refine G.go hX 5 (moW W H 0 mbd mne mnw mmn mbx man mrs mrl mfl mpt mdf mlb mbo mwn mwo mxo myo mor mco mro mpw mph mrk mrb mrf mfr mfm med map mwh, 53, [(0, gr 60), (1, gi p), (2, gi e), (3, gi w)], [gi (med p), gi e]) rfl ?_ ?_
          · refine ⟨?_, trivial⟩
            · omega
          have jn66 : G X mX8_approve ad 0 0 (moW W H 0 mbd mne mnw mmn mbx man mrs mrl mfl mpt mdf mlb mbo mwn mwo mxo myo mor mco mro mpw mph mrk mrb mrf mfr mfm med map mwh, 66, [(0, gr 60), (1, gi p), (2, gi e), (3, gi w)], [gi (if e = med p then map p else 0)]) := by
            refine G.go hX 3 (moW W H 0 mbd mne mnw mmn mbx man mrs mrl mfl mpt mdf mlb mbo mwn mwo mxo myo mor mco mro mpw mph mrk mrb mrf mfr mfm med map mwh, 71, [(0, gr 60), (1, gi p), (2, gi e), (3, gi w), (4, gi (if e = med p then map p else 0)), (5, gi 0)], []) rfl trivial ?_
            have lp71 : ∀ (n : Nat) (k : Int), (0 ≤ k ∧ k ≤ (if e = med p then map p else 0)) → (∀ j : Int, 0 ≤ j → j < k → mwh (6 * p + j) ≠ w) → ((if e = med p then map p else 0) - k).toNat < n → G X mX8_approve ad 0 0 (moW W H 0 mbd mne mnw mmn mbx man mrs mrl mfl mpt mdf mlb mbo mwn mwo mxo myo mor mco mro mpw mph mrk mrb mrf mfr mfm med map mwh, 71, [(0, gr 60), (1, gi p), (2, gi e), (3, gi w), (4, gi (if e = med p then map p else 0)), (5, gi k)], []) := by
              intro n
              induction n with
              | zero => intro k hk hno hm9; exact absurd hm9 (Nat.not_lt_zero _)
              | succ n ih71 =>
                intro k hk hno hm71
                refine G.go hX 2 (moW W H 0 mbd mne mnw mmn mbx man mrs mrl mfl mpt mdf mlb mbo mwn mwo mxo myo mor mco mro mpw mph mrk mrb mrf mfr mfm med map mwh, 75, [(0, gr 60), (1, gi p), (2, gi e), (3, gi w), (4, gi (if e = med p then map p else 0)), (5, gi k)], [gi (if e = med p then map p else 0), gi k]) rfl trivial ?_
                refine g_icmp_ge hX 102 rfl rfl ⟨by omega, by omega⟩ ⟨by omega, by omega⟩ (fun b75 => ?_) (fun b75 => ?_)
                ·
                  have hnh : ¬ (∃ j : Int, 0 ≤ j ∧ j < (if e = med p then map p else 0) ∧ mwh (6 * p + j) = w) := fun ⟨j, h1, h2, h3⟩ => hno j h1 (by omega) h3
                  refine G.go hX 3 (moW W H 0 mbd mne mnw mmn mbx man mrs mrl mfl mpt mdf mlb mbo mwn mwo mxo myo mor mco mro mpw mph mrk mrb mrf mfr mfm med map mwh, 107, [(0, gr 60), (1, gi p), (2, gi e), (3, gi w), (4, gi (if e = med p then map p else 0)), (5, gi k)], [gi 6, gi (if e = med p then map p else 0), gr 60]) rfl trivial ?_
                  refine g_icmp_ne hX 114 rfl rfl ⟨by omega, by omega⟩ ⟨by omega, by omega⟩ (fun b107 => ?_) (fun b107 => ?_)
                  ·
                    refine G.go hX 4 (moW W H 0 mbd mne mnw mmn mbx man mrs mrl mfl mpt mdf mlb mbo mwn mwo mxo myo mor mco mro mpw mph mrk mrb mrf mfr mfm med map mwh, 122, [(0, gr 60), (1, gi p), (2, gi e), (3, gi w), (4, gi (if e = med p then map p else 0)), (5, gi k)], [gi 0]) rfl trivial ?_
                    refine g_if_le hX 127 rfl rfl ⟨by omega, by omega⟩ (fun b122 => ?_) (fun b122 => ?_)
                    ·
                      refine G.go hX 22 (moW W H 0 mbd mne mnw mmn mbx man mrs mrl mfl mpt mdf mlb mbo mwn mwo mxo myo mor mco mro mpw mph mrk mrb mrf mfr mfm (gu med p e) (gu map p ((if e = med p then map p else 0) + 1)) (gu mwh ((6 * p) + (if e = med p then map p else 0)) w), 158, [(0, gr 60), (1, gi p), (2, gi e), (3, gi w), (4, gi (if e = med p then map p else 0)), (5, gi k)], [gi 1]) rfl ?_ ?_
                      · refine ⟨?_, ?_, ?_, trivial⟩
                        · omega
                        · omega
                        · omega
                      exact g_iret hX hE rfl ⟨1, 0, _, _, _, rfl, rfl, fun h9 => by (exfalso; omega), fun _ h9 => by (exfalso; omega), fun _ _ h9 => by (rcases h9 with h9 | h9; (exfalso; omega); exact absurd h9 hnh), fun _ _ _ h9 => by (exfalso; omega), fun _ _ _ _ => ⟨rfl, rfl, rfl, rfl, rfl⟩⟩
                    ·
                      exfalso
                      omega
                  ·
                    refine G.go hX 5 (moW W H 3 mbd mne mnw mmn mbx man mrs mrl mfl mpt mdf mlb mbo mwn mwo mxo myo mor mco mro mpw mph mrk mrb mrf mfr mfm med map mwh, 122, [(0, gr 60), (1, gi p), (2, gi e), (3, gi w), (4, gi (if e = med p then map p else 0)), (5, gi k)], [gi 3]) rfl trivial ?_
                    refine g_if_le hX 127 rfl rfl ⟨by omega, by omega⟩ (fun b122 => ?_) (fun b122 => ?_)
                    ·
                      exfalso
                      omega
                    ·
                      refine G.go hX 1 (moW W H 3 mbd mne mnw mmn mbx man mrs mrl mfl mpt mdf mlb mbo mwn mwo mxo myo mor mco mro mpw mph mrk mrb mrf mfr mfm med map mwh, 126, [(0, gr 60), (1, gi p), (2, gi e), (3, gi w), (4, gi (if e = med p then map p else 0)), (5, gi k)], [gi 0]) rfl trivial ?_
                      exact g_iret hX hE rfl ⟨0, 3, med, mwh, map, rfl, rfl, fun h9 => by (exfalso; omega), fun _ h9 => by (exfalso; omega), fun _ _ h9 => by (rcases h9 with h9 | h9; (exfalso; omega); exact absurd h9 hnh), fun _ _ _ _ => ⟨rfl, rfl, rfl, rfl, rfl⟩, fun _ _ _ h9 => by (exfalso; omega)⟩
                ·
                  refine G.go hX 9 (moW W H 0 mbd mne mnw mmn mbx man mrs mrl mfl mpt mdf mlb mbo mwn mwo mxo myo mor mco mro mpw mph mrk mrb mrf mfr mfm med map mwh, 91, [(0, gr 60), (1, gi p), (2, gi e), (3, gi w), (4, gi (if e = med p then map p else 0)), (5, gi k)], [gi w, gi (mwh ((6 * p) + k))]) rfl ?_ ?_
                  · refine ⟨?_, trivial⟩
                    · omega
                  refine g_icmp_ne hX 96 rfl rfl (by first | exact (hed _).2 | assumption) (by first | exact (hed _).2 | assumption) (fun b91 => ?_) (fun b91 => ?_)
                  ·
                    refine G.go hX 2 (moW W H 0 mbd mne mnw mmn mbx man mrs mrl mfl mpt mdf mlb mbo mwn mwo mxo myo mor mco mro mpw mph mrk mrb mrf mfr mfm med map mwh, 71, [(0, gr 60), (1, gi p), (2, gi e), (3, gi w), (4, gi (if e = med p then map p else 0)), (5, gi (k + 1))], []) rfl trivial ?_
                    exact ih71 (k + 1) (by omega) (by intro j h1 h2; by_cases e9 : j = k; (subst e9; omega); exact hno j h1 (by omega)) (by omega)
                  ·
                    refine G.go hX 1 (moW W H 0 mbd mne mnw mmn mbx man mrs mrl mfl mpt mdf mlb mbo mwn mwo mxo myo mor mco mro mpw mph mrk mrb mrf mfr mfm med map mwh, 95, [(0, gr 60), (1, gi p), (2, gi e), (3, gi w), (4, gi (if e = med p then map p else 0)), (5, gi k)], [gi 0]) rfl trivial ?_
                    exact g_iret hX hE rfl ⟨0, 0, med, mwh, map, rfl, rfl, fun h9 => by (exfalso; omega), fun _ h9 => by (exfalso; omega), fun _ _ _ => ⟨rfl, rfl, rfl, rfl, rfl⟩, fun _ _ h9 => absurd (Or.inr ⟨k, by omega, by omega, by omega⟩) h9, fun _ _ h9 => absurd (Or.inr ⟨k, by omega, by omega, by omega⟩) h9⟩
            exact lp71 _ 0 (by omega) (by intro j h1 h2; omega) (Nat.lt_succ_self _)
          refine g_icmp_ne hX 65 rfl rfl (by first | assumption | exact (hed _).1) (by first | assumption | exact (hed _).1) (fun b53 => ?_) (fun b53 => ?_)
          ·
            refine G.go hX 1 (moW W H 0 mbd mne mnw mmn mbx man mrs mrl mfl mpt mdf mlb mbo mwn mwo mxo myo mor mco mro mpw mph mrk mrb mrf mfr mfm med map mwh, 66, [(0, gr 60), (1, gi p), (2, gi e), (3, gi w)], [gi 0]) rfl trivial ?_
            refine G.eq (S' := (moW W H 0 mbd mne mnw mmn mbx man mrs mrl mfl mpt mdf mlb mbo mwn mwo mxo myo mor mco mro mpw mph mrk mrb mrf mfr mfm med map mwh, 66, [(0, gr 60), (1, gi p), (2, gi e), (3, gi w)], [gi (if e = med p then map p else 0)])) ?_ jn66
            rw [if_neg (by omega)]
          ·
            refine G.go hX 5 (moW W H 0 mbd mne mnw mmn mbx man mrs mrl mfl mpt mdf mlb mbo mwn mwo mxo myo mor mco mro mpw mph mrk mrb mrf mfr mfm med map mwh, 66, [(0, gr 60), (1, gi p), (2, gi e), (3, gi w)], [gi (map p)]) rfl ?_ ?_
            · refine ⟨?_, trivial⟩
              · omega
            refine G.eq (S' := (moW W H 0 mbd mne mnw mmn mbx man mrs mrl mfl mpt mdf mlb mbo mwn mwo mxo myo mor mco mro mpw mph mrk mrb mrf mfr mfm med map mwh, 66, [(0, gr 60), (1, gi p), (2, gi e), (3, gi w)], [gi (if e = med p then map p else 0)])) ?_ jn66
            rw [if_pos (by omega)]
        ·
          refine G.go hX 1 (moW W H 0 mbd mne mnw mmn mbx man mrs mrl mfl mpt mdf mlb mbo mwn mwo mxo myo mor mco mro mpw mph mrk mrb mrf mfr mfm med map mwh, 45, [(0, gr 60), (1, gi p), (2, gi e), (3, gi w)], [gi 0]) rfl trivial ?_
          exact g_iret hX hE rfl ⟨0, 0, med, mwh, map, rfl, rfl, fun h9 => by (exfalso; omega), fun _ h9 => by (exfalso; omega), fun _ _ _ => ⟨rfl, rfl, rfl, rfl, rfl⟩, fun _ _ h9 => absurd (Or.inl (by omega)) h9, fun _ _ h9 => absurd (Or.inl (by omega)) h9⟩
    ·
      refine G.go hX 5 (moW W H 2 mbd mne mnw mmn mbx man mrs mrl mfl mpt mdf mlb mbo mwn mwo mxo myo mor mco mro mpw mph mrk mrb mrf mfr mfm med map mwh, 31, [(0, gr 60), (1, gi p), (2, gi e), (3, gi w)], [gi 2]) rfl trivial ?_
      refine g_if_gt hX 44 rfl rfl ⟨by omega, by omega⟩ (fun b31 => ?_) (fun b31 => ?_)
      ·
        refine G.go hX 1 (moW W H 2 mbd mne mnw mmn mbx man mrs mrl mfl mpt mdf mlb mbo mwn mwo mxo myo mor mco mro mpw mph mrk mrb mrf mfr mfm med map mwh, 45, [(0, gr 60), (1, gi p), (2, gi e), (3, gi w)], [gi 0]) rfl trivial ?_
        exact g_iret hX hE rfl ⟨0, 2, med, mwh, map, rfl, rfl, fun h9 => by (exfalso; omega), fun _ _ => ⟨rfl, rfl, rfl, rfl, rfl⟩, fun _ h9 => by (exfalso; omega), fun _ h9 => by (exfalso; omega), fun _ h9 => by (exfalso; omega)⟩
      ·
        exfalso
        omega
  ·
    have b8 := gb_nn b8
    refine G.go hX 5 (moW W H 1 mbd mne mnw mmn mbx man mrs mrl mfl mpt mdf mlb mbo mwn mwo mxo myo mor mco mro mpw mph mrk mrb mrf mfr mfm med map mwh, 31, [(0, gr 60), (1, gi p), (2, gi e), (3, gi w)], [gi 1]) rfl trivial ?_
    refine g_if_gt hX 44 rfl rfl ⟨by omega, by omega⟩ (fun b31 => ?_) (fun b31 => ?_)
    ·
      refine G.go hX 1 (moW W H 1 mbd mne mnw mmn mbx man mrs mrl mfl mpt mdf mlb mbo mwn mwo mxo myo mor mco mro mpw mph mrk mrb mrf mfr mfm med map mwh, 45, [(0, gr 60), (1, gi p), (2, gi e), (3, gi w)], [gi 0]) rfl trivial ?_
      exact g_iret hX hE rfl ⟨0, 1, med, mwh, map, rfl, rfl, fun _ => ⟨rfl, rfl, rfl, rfl, rfl⟩, fun h9 => by (exfalso; omega), fun h9 => by (exfalso; omega), fun h9 => by (exfalso; omega), fun h9 => by (exfalso; omega)⟩
    ·
      exfalso
      omega
