/-- the faults of the rules before k; fv r: what rule r finds -/
def mCk (rb rf fv : Int → Int) (k fl : Int) (fr fm : Int → Int) : Prop := fl = gsm (fun r => gb (rf r = 1 ∨ rb r < fv r)) k.toNat ∧ ∀ r, 0 ≤ r → r < k → (rf r = 1 ∨ rb r < fv r) → fr (gsm (fun r => gb (rf r = 1 ∨ rb r < fv r)) r.toNat) = r ∧ fm (gsm (fun r => gb (rf r = 1 ∨ rb r < fv r)) r.toNat) = (if rf r = 0 then fv r else 0)
theorem mCk_c {rb rf fv : Int → Int} {k v : Int} (k0 : 0 ≤ k) {r : Int} (hr : r ≤ k) : gsm (fun r => gb (rf r = 1 ∨ rb r < gu fv k v r)) r.toNat = gsm (fun r => gb (rf r = 1 ∨ rb r < fv r)) r.toNat := by
  apply gsm_congr
  intro q q0 q1
  show gb (rf q = 1 ∨ rb q < gu fv k v q) = gb (rf q = 1 ∨ rb q < fv q)
  rw [gu_n _ _ (by omega)]
theorem mCk_skip {rb rf fv : Int → Int} {k fl v : Int} {fr fm : Int → Int} (h : mCk rb rf fv k fl fr fm) (k0 : 0 ≤ k) (hF : ¬ (rf k = 1 ∨ rb k < v)) : mCk rb rf (gu fv k v) (k + 1) fl fr fm := by
  refine ⟨?_, fun r r0 r1 hr => ?_⟩
  · have h9 := gsm_next (fun r => gb (rf r = 1 ∨ rb r < gu fv k v r)) k0 rfl
    rw [mCk_c k0 (Int.le_refl k), ← h.1, gu_s, gb_f hF] at h9
    omega
  · by_cases e : r = k
    · subst e
      rw [gu_s] at hr
      exact absurd hr hF
    · rw [mCk_c k0 (by omega), gu_n _ _ e]
      rw [gu_n _ _ e] at hr
      exact h.2 r r0 (by omega) hr
theorem mCk_add {rb rf fv : Int → Int} {k fl v w : Int} {fr fm : Int → Int} (h : mCk rb rf fv k fl fr fm) (k0 : 0 ≤ k) (hF : rf k = 1 ∨ rb k < v) (hw : w = (if rf k = 0 then v else 0)) : mCk rb rf (gu fv k v) (k + 1) (fl + 1) (gu fr fl k) (gu fm fl w) := by
  refine ⟨?_, fun r r0 r1 hr => ?_⟩
  · have h9 := gsm_next (fun r => gb (rf r = 1 ∨ rb r < gu fv k v r)) k0 rfl
    rw [mCk_c k0 (Int.le_refl k), ← h.1, gu_s, gb_t hF] at h9
    exact h9
  · by_cases e : r = k
    · subst e
      rw [mCk_c k0 (Int.le_refl r), ← h.1, gu_s, gu_s, gu_s]
      exact ⟨rfl, hw⟩
    · rw [mCk_c k0 (by omega), gu_n _ _ e]
      rw [gu_n _ _ e] at hr
      have h2 := h.2 r r0 (by omega) hr
      have hm := gsm_mono (f := fun r => gb (rf r = 1 ∨ rb r < fv r)) (fun _ => gb_01 _) (r.toNat + 1) k.toNat (by omega)
      have hs : gsm (fun r => gb (rf r = 1 ∨ rb r < fv r)) (r.toNat + 1) = gsm (fun r => gb (rf r = 1 ∨ rb r < fv r)) r.toNat + gb (rf ((r.toNat : Nat) : Int) = 1 ∨ rb ((r.toNat : Nat) : Int) < fv ((r.toNat : Nat) : Int)) := rfl
      rw [show ((r.toNat : Nat) : Int) = r by omega, gb_t hr] at hs
      have h1 := h.1
      rw [gu_n _ _ (by omega), gu_n _ _ (by omega)]
      exact h2
set_option maxHeartbeats 4000000 in
set_option maxRecDepth 100000 in
theorem c_X8_check (l : Launch) (D : va_G) (cA : Nat → ClassId) (W : Nat) (H : Nat) (mth : Int) (mbd : Int) (mne : Int) (mnw : Int) (mmn : Int) (mbx : Int) (man : Int) (mrs : Int) (mrl : Int) (mfl : Int) (mpt : Int → Int) (mdf : Int → Int) (mlb : Int → Int) (mbo : Int → Int) (mwn : Int → Int) (mwo : Int → Int) (mxo : Int → Int) (myo : Int → Int) (mor : Int → Int) (mco : Int → Int) (mro : Int → Int) (mpw : Int → Int) (mph : Int → Int) (mrk : Int → Int) (mrb : Int → Int) (mrf : Int → Int) (mfr : Int → Int) (mfm : Int → Int) (med : Int → Int) (map : Int → Int) (mwh : Int → Int) (hW : W ≤ 32) (hH : H ≤ 32) (hne : 0 ≤ mne ∧ mne ≤ 2) (hbd : 0 ≤ mbd ∧ mbd ≤ 255) (hpt : ∀ q : Int, 0 ≤ mpt q ∧ mpt q ≤ 255) (hdf : ∀ q : Int, mdf q = 0 ∨ mdf q = 1) (hlb : ∀ q : Int, 0 ≤ mlb q ∧ mlb q ≤ 1023) (hbo : ∀ q : Int, inR (mbo q)) (hnw : mnw = 0 ∨ mnw = 1) (hval : mnw = 0 → mVal W H mne mbd mpt mmn mbx mbo mdf) (hwn : (0 ≤ mwn 0 ∧ mwn 0 ≤ 40) ∧ 0 ≤ mwn 1 ∧ mwn 1 ≤ 40) (hwo : ∀ q : Int, inR (mwo q)) (hxy : ∀ q : Int, inR (mxo q) ∧ inR (myo q)) (hro : ∀ q : Int, inR (mro q)) (han : man = 0 ∨ man = 1) (hrs : 0 ≤ mrs ∧ mrs ≤ 80) (hvalw : man = 0 → mWv mwn mwo mxo myo mor mrs mro) (hpw : ∀ q : Int, inR (mpw q) ∧ inR (mph q)) (hrl : 0 ≤ mrl ∧ mrl ≤ 12) (hrk : ∀ r, 0 ≤ r → r < mrl → 0 ≤ mrk r ∧ mrk r ≤ 5) (hrb : ∀ r : Int, inR (mrb r)) (hrf : ∀ r : Int, mrf r = 0 ∨ mrf r = 1) :
    gC l D cA yX8_check mX8_check (some .int) 0 0 [gr 60] (moW W H mth mbd mne mnw mmn mbx man mrs mrl mfl mpt mdf mlb mbo mwn mwo mxo myo mor mco mro mpw mph mrk mrb mrf mfr mfm med map mwh) (fun r9 w9 => ∃ (df2 : Int → Int) (lb2 : Int → Int) (mn2 : Int) (bx2 : Int) (bo2 : Int → Int) (nw2 : Int) (or2 : Int → Int) (co2 : Int → Int) (rs2 : Int) (ro2 : Int → Int) (an2 : Int) (fl2 : Int) (fr2 : Int → Int) (fm2 : Int → Int) (fv : Int → Int), r9 = some (gi fl2) ∧ w9 = moW W H 0 mbd mne nw2 mn2 bx2 an2 rs2 mrl fl2 mpt df2 lb2 bo2 mwn mwo mxo myo or2 co2 ro2 mpw mph mrk mrb mrf fr2 fm2 med map mwh ∧ (∀ q : Int, df2 q = 0 ∨ df2 q = 1) ∧ (∀ q : Int, 0 ≤ lb2 q ∧ lb2 q ≤ 1023) ∧ (∀ q : Int, inR (bo2 q)) ∧ (nw2 = 0 ∨ nw2 = 1) ∧ (nw2 = 0 → mVal W H mne mbd mpt mn2 bx2 bo2 df2) ∧ (∀ q : Int, inR (ro2 q)) ∧ (an2 = 0 ∨ an2 = 1) ∧ (0 ≤ rs2 ∧ rs2 ≤ 80) ∧ (an2 = 0 → mWv mwn mwo mxo myo or2 rs2 ro2) ∧ (mCk mrb mrf fv mrl fl2 fr2 fm2) ∧ (0 ≤ fl2 ∧ fl2 ≤ 12) ∧ (∀ q, 0 ≤ q → q < fl2 → 0 ≤ fr2 q ∧ fr2 q < mrl) ∧ (∀ r, 0 ≤ r → r < mrl → mrf r = 0 → mFv W H mne mbd mpt mwn mwo mxo myo mpw mph (mrk r) (fv r))) := by
  refine gC_of rfl kX8_check rfl rfl (Nat.le_of_ble_eq_true rfl) (fun X ad hX hE => ?_)
  refine G.go hX 8 (moW W H 0 mbd mne mnw mmn mbx man mrs mrl 0 mpt mdf mlb mbo mwn mwo mxo myo mor mco mro mpw mph mrk mrb mrf mfr mfm med map mwh, 12, [(0, gr 60), (1, gi 0)], []) rfl trivial ?_
  have lp12 : ∀ (n : Nat) (k : Int) (df1 : Int → Int) (lb1 : Int → Int) (mn1 : Int) (bx1 : Int) (bo1 : Int → Int) (nw1 : Int) (or1 : Int → Int) (co1 : Int → Int) (rs1 : Int) (ro1 : Int → Int) (an1 : Int) (fl1 : Int) (fr1 : Int → Int) (fm1 : Int → Int) (fv : Int → Int), (0 ≤ k ∧ k ≤ mrl) → (∀ q : Int, df1 q = 0 ∨ df1 q = 1) → (∀ q : Int, 0 ≤ lb1 q ∧ lb1 q ≤ 1023) → (∀ q : Int, inR (bo1 q)) → (nw1 = 0 ∨ nw1 = 1) → (nw1 = 0 → mVal W H mne mbd mpt mn1 bx1 bo1 df1) → (∀ q : Int, inR (ro1 q)) → (an1 = 0 ∨ an1 = 1) → (0 ≤ rs1 ∧ rs1 ≤ 80) → (an1 = 0 → mWv mwn mwo mxo myo or1 rs1 ro1) → (mCk mrb mrf fv k fl1 fr1 fm1) → (0 ≤ fl1 ∧ fl1 ≤ k) → (∀ q, 0 ≤ q → q < fl1 → 0 ≤ fr1 q ∧ fr1 q < mrl) → (∀ r, 0 ≤ r → r < k → mrf r = 0 → mFv W H mne mbd mpt mwn mwo mxo myo mpw mph (mrk r) (fv r)) → (mrl - k).toNat < n → G X mX8_check ad 0 0 (moW W H 0 mbd mne nw1 mn1 bx1 an1 rs1 mrl fl1 mpt df1 lb1 bo1 mwn mwo mxo myo or1 co1 ro1 mpw mph mrk mrb mrf fr1 fm1 med map mwh, 12, [(0, gr 60), (1, gi k)], []) := by
    intro n
    induction n with
    | zero => intro k df1 lb1 mn1 bx1 bo1 nw1 or1 co1 rs1 ro1 an1 fl1 fr1 fm1 fv hk hdf1 hlb1 hbo1 hnw1 hval1 hro1 han1 hrs1 hvw1 hck hfl hfr hfv hm9; exact absurd hm9 (Nat.not_lt_zero _)
    | succ n ih12 =>
      intro k df1 lb1 mn1 bx1 bo1 nw1 or1 co1 rs1 ro1 an1 fl1 fr1 fm1 fv hk hdf1 hlb1 hbo1 hnw1 hval1 hro1 han1 hrs1 hvw1 hck hfl hfr hfv hm12
      refine G.go hX 3 (moW W H 0 mbd mne nw1 mn1 bx1 an1 rs1 mrl fl1 mpt df1 lb1 bo1 mwn mwo mxo myo or1 co1 ro1 mpw mph mrk mrb mrf fr1 fm1 med map mwh, 17, [(0, gr 60), (1, gi k)], [gi mrl, gi k]) rfl trivial ?_
      refine g_icmp_ge hX 99 rfl rfl ⟨by omega, by omega⟩ ⟨by omega, by omega⟩ (fun b17 => ?_) (fun b17 => ?_)
      ·
        refine G.go hX 2 (moW W H 0 mbd mne nw1 mn1 bx1 an1 rs1 mrl fl1 mpt df1 lb1 bo1 mwn mwo mxo myo or1 co1 ro1 mpw mph mrk mrb mrf fr1 fm1 med map mwh, 103, [(0, gr 60), (1, gi k)], [gi fl1]) rfl trivial ?_
        exact g_iret hX hE rfl ⟨df1, lb1, mn1, bx1, bo1, nw1, or1, co1, rs1, ro1, an1, fl1, fr1, fm1, fv, rfl, rfl, hdf1, hlb1, hbo1, hnw1, hval1, hro1, han1, hrs1, hvw1, by (rw [show mrl = k by omega]; exact hck), by omega, hfr, fun r a b h9 => hfv r a (by omega) h9⟩
      ·
        have hr9 := hrf k
        have hk9 := hrk k (by omega) (by omega)
        refine G.go hX 4 (moW W H 0 mbd mne nw1 mn1 bx1 an1 rs1 mrl fl1 mpt df1 lb1 bo1 mwn mwo mxo myo or1 co1 ro1 mpw mph mrk mrb mrf fr1 fm1 med map mwh, 26, [(0, gr 60), (1, gi k)], [gi (mrf k)]) rfl ?_ ?_
        · refine ⟨?_, trivial⟩
          · omega
        refine g_if_eq hX 33 rfl rfl ⟨by omega, by omega⟩ (fun b26 => ?_) (fun b26 => ?_)
        ·
          refine G.go hX 5 (moW W H 0 mbd mne nw1 mn1 bx1 an1 rs1 mrl fl1 mpt df1 lb1 bo1 mwn mwo mxo myo or1 co1 ro1 mpw mph mrk mrb mrf fr1 fm1 med map mwh, 40, [(0, gr 60), (1, gi k)], [gi (mrk k), gr 60]) rfl ?_ ?_
          · refine ⟨?_, trivial⟩
            · omega
          refine G.callV (av := [gi (mrk k)]) (o := 60) (st := []) hX rfl (fun l D cA => c_X8_find l D cA W H 0 mbd mne nw1 mn1 bx1 an1 rs1 mrl fl1 mpt df1 lb1 bo1 mwn mwo mxo myo or1 co1 ro1 mpw mph mrk mrb mrf fr1 fm1 med map mwh (mrk k) (by first | assumption | omega) (by first | assumption | omega) (by first | assumption | omega) (by first | assumption | omega) (by first | assumption | omega) hdf1 hlb1 hbo1 hnw1 hval1 (by first | assumption | omega) (by first | assumption | omega) (by first | assumption | omega) hro1 han1 hrs1 hvw1 hk9 (by first | assumption | omega)) (by decide +kernel) aX8_find rfl rfl rfl ⟨rfl, rfl⟩ (by decide) (Nat.le_of_ble_eq_true rfl) [0, 1, 2, 3, 4, 5, 6, 7, 8, 9, 10, 11, 12, 13, 14, 15, 16, 17, 18, 19, 20, 21] [] [] rfl rfl rfl (fun r w' hp => ?_)
          obtain ⟨df5, lb5, mn5, bx5, bo5, or5, co5, rs5, ro5, v5, rfl, rfl, hv5, hdf5, hlb5, hbo5, hw5, hro5, hrs5, hfv5⟩ := hp
          show G X mX8_check ad 0 0 (moW W H 0 mbd mne 0 mn5 bx5 0 rs5 mrl fl1 mpt df5 lb5 bo5 mwn mwo mxo myo or5 co5 ro5 mpw mph mrk mrb mrf fr1 fm1 med map mwh, 43, [(0, gr 60), (1, gi k)], [gi v5])
          have hrx := hrb k
          refine G.go hX 5 (moW W H 0 mbd mne 0 mn5 bx5 0 rs5 mrl fl1 mpt df5 lb5 bo5 mwn mwo mxo myo or5 co5 ro5 mpw mph mrk mrb mrf fr1 fm1 med map mwh, 50, [(0, gr 60), (1, gi k), (2, gi v5)], [gi (mrf k)]) rfl ?_ ?_
          · refine ⟨?_, trivial⟩
            · omega
          refine g_if_ne hX 63 rfl rfl ⟨by omega, by omega⟩ (fun b50 => ?_) (fun b50 => ?_)
          ·
            exfalso
            omega
          ·
            refine G.go hX 5 (moW W H 0 mbd mne 0 mn5 bx5 0 rs5 mrl fl1 mpt df5 lb5 bo5 mwn mwo mxo myo or5 co5 ro5 mpw mph mrk mrb mrf fr1 fm1 med map mwh, 60, [(0, gr 60), (1, gi k), (2, gi v5)], [gi (mrb k), gi v5]) rfl ?_ ?_
            · refine ⟨?_, trivial⟩
              · omega
            refine g_icmp_le hX 93 rfl rfl (by first | exact hrb _ | exact hfv5.2.2.2.2.2.2) (by first | exact hrb _ | exact hfv5.2.2.2.2.2.2) (fun b60 => ?_) (fun b60 => ?_)
            ·
              refine G.go hX 2 (moW W H 0 mbd mne 0 mn5 bx5 0 rs5 mrl fl1 mpt df5 lb5 bo5 mwn mwo mxo myo or5 co5 ro5 mpw mph mrk mrb mrf fr1 fm1 med map mwh, 12, [(0, gr 60), (1, gi (k + 1)), (2, gi v5)], []) rfl trivial ?_
              refine G.locs [(0, gr 60), (1, gi (k + 1))] [0, 1] rfl ?_
              exact ih12 (k + 1) df5 lb5 mn5 bx5 bo5 0 or5 co5 rs5 ro5 0 fl1 fr1 fm1 (gu fv k v5) (by omega) (by exact hdf5) (by exact hlb5) (by exact hbo5) (by exact Or.inl rfl) (by exact fun _ => hv5) (by exact hro5) (by exact Or.inl rfl) (by exact hrs5) (by exact fun _ => hw5) (by exact mCk_skip hck hk.1 (by omega)) (by omega) (by exact hfr) (by intro r a b h9; by_cases e9 : r = k; (rw [e9, gu_s]; exact hfv5); (rw [gu_n _ _ e9]; exact hfv r a (by omega) h9)) (by omega)
            ·
              refine G.go hX 20 (moW W H 0 mbd mne 0 mn5 bx5 0 rs5 mrl (fl1 + 1) mpt df5 lb5 bo5 mwn mwo mxo myo or5 co5 ro5 mpw mph mrk mrb mrf (gu fr1 fl1 k) (gu fm1 fl1 v5) med map mwh, 12, [(0, gr 60), (1, gi (k + 1)), (2, gi v5)], []) rfl ?_ ?_
              · refine ⟨?_, ?_, trivial⟩
                · omega
                · omega
              refine G.locs [(0, gr 60), (1, gi (k + 1))] [0, 1] rfl ?_
              exact ih12 (k + 1) df5 lb5 mn5 bx5 bo5 0 or5 co5 rs5 ro5 0 (fl1 + 1) (gu fr1 fl1 k) (gu fm1 fl1 v5) (gu fv k v5) (by omega) (by exact hdf5) (by exact hlb5) (by exact hbo5) (by exact Or.inl rfl) (by exact fun _ => hv5) (by exact hro5) (by exact Or.inl rfl) (by exact hrs5) (by exact fun _ => hw5) (by exact mCk_add hck hk.1 (Or.inr (by omega)) (by rw [if_pos b26])) (by omega) (by intro q a b; by_cases e9 : q = fl1; (rw [e9, gu_s]; omega); (rw [gu_n _ _ e9]; exact hfr q a (by omega))) (by intro r a b h9; by_cases e9 : r = k; (rw [e9, gu_s]; exact hfv5); (rw [gu_n _ _ e9]; exact hfv r a (by omega) h9)) (by omega)
        ·
          have hr1 : mrf k = 1 := by omega
          refine G.go hX 2 (moW W H 0 mbd mne nw1 mn1 bx1 an1 rs1 mrl fl1 mpt df1 lb1 bo1 mwn mwo mxo myo or1 co1 ro1 mpw mph mrk mrb mrf fr1 fm1 med map mwh, 43, [(0, gr 60), (1, gi k)], [gi 0]) rfl trivial ?_
          have hrx := hrb k
          refine G.go hX 5 (moW W H 0 mbd mne nw1 mn1 bx1 an1 rs1 mrl fl1 mpt df1 lb1 bo1 mwn mwo mxo myo or1 co1 ro1 mpw mph mrk mrb mrf fr1 fm1 med map mwh, 50, [(0, gr 60), (1, gi k), (2, gi 0)], [gi (mrf k)]) rfl ?_ ?_
          · refine ⟨?_, trivial⟩
            · omega
          refine g_if_ne hX 63 rfl rfl ⟨by omega, by omega⟩ (fun b50 => ?_) (fun b50 => ?_)
          ·
            refine G.go hX 20 (moW W H 0 mbd mne nw1 mn1 bx1 an1 rs1 mrl (fl1 + 1) mpt df1 lb1 bo1 mwn mwo mxo myo or1 co1 ro1 mpw mph mrk mrb mrf (gu fr1 fl1 k) (gu fm1 fl1 0) med map mwh, 12, [(0, gr 60), (1, gi (k + 1)), (2, gi 0)], []) rfl ?_ ?_
            · refine ⟨?_, ?_, trivial⟩
              · omega
              · omega
            refine G.locs [(0, gr 60), (1, gi (k + 1))] [0, 1] rfl ?_
            exact ih12 (k + 1) df1 lb1 mn1 bx1 bo1 nw1 or1 co1 rs1 ro1 an1 (fl1 + 1) (gu fr1 fl1 k) (gu fm1 fl1 0) (gu fv k 0) (by omega) (by exact hdf1) (by exact hlb1) (by exact hbo1) (by exact hnw1) (by exact hval1) (by exact hro1) (by exact han1) (by exact hrs1) (by exact hvw1) (by exact mCk_add hck hk.1 (Or.inl hr1) (by rw [if_neg (by omega)])) (by omega) (by intro q a b; by_cases e9 : q = fl1; (rw [e9, gu_s]; omega); (rw [gu_n _ _ e9]; exact hfr q a (by omega))) (by intro r a b h9; by_cases e9 : r = k; (rw [e9] at h9; omega); (rw [gu_n _ _ e9]; exact hfv r a (by omega) h9)) (by omega)
          ·
            exfalso
            omega
  exact lp12 _ 0 mdf mlb mmn mbx mbo mnw mor mco mrs mro man 0 mfr mfm (fun _ => 0) (by omega) (by exact hdf) (by exact hlb) (by exact hbo) (by exact hnw) (by exact hval) (by exact hro) (by exact han) (by exact hrs) (by exact hvalw) (by exact ⟨rfl, fun r a b => by omega⟩) (by omega) (by intro q a b; omega) (by intro r a b; omega) (Nat.lt_succ_self _)
